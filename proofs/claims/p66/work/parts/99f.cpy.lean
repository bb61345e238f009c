/-! ===== copies ===== -/
def nS (j j2 p i : Nat) (S : SS) : SS := up S j (up (S j) p (sS (S j p) i ((S j2 p).1 i)))
def nA (j j2 p a n : Nat) (S : SS) : SS := up S j (up (S j) p (sA (S j p) a (rcpy n ((S j2 p).2 a) n ((S j p).2 a) 0 0 (nI n))))
theorem nS_o {j j2 p i j' : Nat} {S : SS} (h : j' ≠ j) : nS j j2 p i S j' = S j' := up_n h
theorem nA_o {j j2 p a n j' : Nat} {S : SS} (h : j' ≠ j) : nA j j2 p a n S j' = S j' := up_n h
theorem nS_p {j j2 p i p' : Nat} {S : SS} (h : p' ≠ p) : nS j j2 p i S j p' = S j p' := by
  unfold nS
  rw [up_s, up_n h]
theorem nA_p {j j2 p a n p' : Nat} {S : SS} (h : p' ≠ p) : nA j j2 p a n S j p' = S j p' := by
  unfold nA
  rw [up_s, up_n h]
theorem nS_s {j j2 p i : Nat} {S : SS} : nS j j2 p i S j p = sS (S j p) i ((S j2 p).1 i) := by
  unfold nS
  rw [up_s, up_s]
theorem nA_s {j j2 p a n : Nat} {S : SS} : nA j j2 p a n S j p = sA (S j p) a (rcpy n ((S j2 p).2 a) n ((S j p).2 a) 0 0 (nI n)) := by
  unfold nA
  rw [up_s, up_s]
theorem rcpy_k {n k : Nat} {f g : Nat → Int32} (hn : n < 2 ^ 20) (hk : k < n) : rcpy n f n g 0 0 (nI n) k = f k := by
  rw [L0, Z_rcpy (by omega) (by omega) (by omega) (by omega), pk_cpy_in (by omega) (by omega)]
  congr 1
  omega
def g4 (j j2 p : Nat) (S : SS) : SS := nS j j2 p 9 (nS j j2 p 8 (nS j j2 p 7 (nS j j2 p 6 (nS j j2 p 5 (nS j j2 p 4 (nS j j2 p 3 (nS j j2 p 2 (nA j j2 p 1 8 (nA j j2 p 0 96 S)))))))))
def g7 (j j2 : Nat) (S : SS) : SS := nS j j2 3 3 (nA j j2 3 2 20 (nA j j2 3 1 20 (nA j j2 3 0 20 S)))
def g5a (j j2 : Nat) (S : SS) : SS := nA j j2 0 4 40 (nA j j2 0 3 40 (nA j j2 0 2 40 (nA j j2 0 1 40 (nA j j2 0 0 40 (nS j j2 0 7 (nS j j2 0 6 (nS j j2 0 5 (nS j j2 0 4 (nS j j2 0 3 (nS j j2 0 2 (nS j j2 0 1 (nS j j2 0 0 S))))))))))))
theorem g4_e {j j2 p : Nat} {S : SS} : F_X4_copyFrom j j2 p S = g4 j j2 p S := rfl
theorem g7_e {j j2 : Nat} {S : SS} : F_X7_copyFrom j j2 S = g7 j j2 S := rfl
theorem g5_e {j j2 : Nat} {S : SS} : F_X5_copyFrom j j2 S = nS j j2 0 18 (nS j j2 0 17 (nS j j2 0 16 (g7 j j2 (g4 j j2 2 (g4 j j2 1 (g5a j j2 S)))))) := rfl
theorem g4_o {j j2 p j' : Nat} {S : SS} (h : j' ≠ j) : g4 j j2 p S j' = S j' := by
  unfold g4
  simp only [nS_o h, nA_o h]
theorem g4_p {j j2 p p' : Nat} {S : SS} (h : p' ≠ p) : g4 j j2 p S j p' = S j p' := by
  unfold g4
  simp only [nS_p h, nA_p h]
theorem g7_o {j j2 j' : Nat} {S : SS} (h : j' ≠ j) : g7 j j2 S j' = S j' := by
  unfold g7
  simp only [nS_o h, nA_o h]
theorem g7_p {j j2 p' : Nat} {S : SS} (h : p' ≠ 3) : g7 j j2 S j p' = S j p' := by
  unfold g7
  simp only [nS_p h, nA_p h]
theorem g5a_o {j j2 j' : Nat} {S : SS} (h : j' ≠ j) : g5a j j2 S j' = S j' := by
  unfold g5a
  simp only [nS_o h, nA_o h]
theorem g5a_p {j j2 p' : Nat} {S : SS} (h : p' ≠ 0) : g5a j j2 S j p' = S j p' := by
  unfold g5a
  simp only [nS_p h, nA_p h]
theorem sS_1d {g : HV} {f k : Nat} {v : Int32} : (sS g f v).1 k = if k = f then v else g.1 k := rfl
theorem g4_1 {j j2 p : Nat} {S : SS} (h : j2 ≠ j) : ∀ i, 2 ≤ i → i < 10 → (g4 j j2 p S j p).1 i = (S j2 p).1 i := by
  intro i h2 h10
  unfold g4
  simp only [nS_s, nS_o h, nA_o h, nA_s, sA_1, sS_1d]
  repeat' split
  all_goals first | (subst_vars; rfl) | omega | (rename_i e; rw [e])
theorem g4_2 {j j2 p : Nat} {S : SS} (h : j2 ≠ j) : (∀ k, k < 96 → (g4 j j2 p S j p).2 0 k = (S j2 p).2 0 k) ∧ ∀ k, k < 8 → (g4 j j2 p S j p).2 1 k = (S j2 p).2 1 k := by
  unfold g4
  simp only [nS_s, nA_s, nS_o h, nA_o h, sS_2]
  refine ⟨fun k hk => ?_, fun k hk => ?_⟩
  · rw [sA_2n (by decide), sA2s, rcpy_k (by decide) hk]
  · rw [sA2s, rcpy_k (by decide) hk]
theorem g7_1 {j j2 : Nat} {S : SS} (h : j2 ≠ j) : (g7 j j2 S j 3).1 3 = (S j2 3).1 3 ∧ ∀ a k, a < 3 → k < 20 → (g7 j j2 S j 3).2 a k = (S j2 3).2 a k := by
  unfold g7
  simp only [nS_s, nA_s, nS_o h, nA_o h, sS_2]
  refine ⟨sS_1, fun a k ha hk => ?_⟩
  match a, ha with
  | 0, _ => rw [sA_2n (by decide), sA_2n (by decide), sA2s, rcpy_k (by decide) hk]
  | 1, _ => rw [sA_2n (by decide), sA2s, rcpy_k (by decide) hk]
  | 2, _ => rw [sA2s, rcpy_k (by decide) hk]
theorem g5a_1 {j j2 : Nat} {S : SS} (h : j2 ≠ j) : (∀ i, i < 8 → (g5a j j2 S j 0).1 i = (S j2 0).1 i) ∧ ∀ a k, a < 5 → k < 40 → (g5a j j2 S j 0).2 a k = (S j2 0).2 a k := by
  unfold g5a
  simp only [nS_s, nA_s, nS_o h, nA_o h]
  refine ⟨fun i hi => ?_, fun a k ha hk => ?_⟩
  · simp only [sA_1, sS_1d]
    repeat' split
    all_goals first | (subst_vars; rfl) | omega | (rename_i e; rw [e])
  · match a, ha with
    | 0, _ => rw [sA_2n (by decide), sA_2n (by decide), sA_2n (by decide), sA_2n (by decide), sA2s, rcpy_k (by decide) hk]
    | 1, _ => rw [sA_2n (by decide), sA_2n (by decide), sA_2n (by decide), sA2s, rcpy_k (by decide) hk]
    | 2, _ => rw [sA_2n (by decide), sA_2n (by decide), sA2s, rcpy_k (by decide) hk]
    | 3, _ => rw [sA_2n (by decide), sA2s, rcpy_k (by decide) hk]
    | 4, _ => rw [sA2s, rcpy_k (by decide) hk]
theorem C_copy {A : AS} {T : Nat} {S : SS} {j j2 : Nat} (h : j2 ≠ j) (hC : RC A (S j2)) (hI : Inv A T) : RC A (F_X5_copyFrom j j2 S j) ∧ ∀ j', j' ≠ j → F_X5_copyFrom j j2 S j' = S j' := by
  have bI := hI
  obtain ⟨hT, ⟨⟨b0, b0'⟩, ⟨b1, b1'⟩, b2, ⟨b3, b3'⟩, ⟨b4, b4'⟩, ⟨b5, b5'⟩, b6, b7⟩, hRw, hNs, hQu, hPr, hVm⟩ := id hI
  have hL := Inv_l bI
  rw [g5_e]
  refine ⟨?_, fun j' hj => by rw [nS_o hj, nS_o hj, nS_o hj, g7_o hj, g4_o hj, g4_o hj, g5a_o hj]⟩
  have p0 : (g7 j j2 (g4 j j2 2 (g4 j j2 1 (g5a j j2 S)))) j 0 = g5a j j2 S j 0 := by rw [g7_p (by decide), g4_p (by decide), g4_p (by decide)]
  have o2 : (g7 j j2 (g4 j j2 2 (g4 j j2 1 (g5a j j2 S)))) j2 = S j2 := by rw [g7_o h, g4_o h, g4_o h, g5a_o h]
  generalize hX : g7 j j2 (g4 j j2 2 (g4 j j2 1 (g5a j j2 S))) = X at *
  obtain ⟨⟨⟨c1, c2, c3⟩, c4⟩, c5⟩ := hC
  obtain ⟨n1, n2⟩ := g5a_1 (S := S) h
  refine ⟨⟨⟨fun i hi => ?_, fun i hi => ?_, fun a k ha hk => ?_⟩, fun g hg => ?_⟩, ?_⟩
  · simp only [nS_s, nS_o h]
    rw [sS_1n (by omega), sS_1n (by omega), sS_1n (by omega), p0, n1 i hi]
    exact c1 i hi
  · simp only [nS_s, nS_o h, o2, sS_1d]
    match i, hi with
    | 0, _ => rw [if_neg (by decide), if_neg (by decide), if_pos (by decide)]; exact c2 0 (by decide)
    | 1, _ => rw [if_neg (by decide), if_pos (by decide)]; exact c2 1 (by decide)
    | 2, _ => rw [if_pos (by decide)]; exact c2 2 (by decide)
  · simp only [nS_s, nS_o h, sS_2]
    rw [p0, n2 a k ha hk]
    exact c3 a k ha hk
  · rw [nS_p (by omega), nS_p (by omega), nS_p (by omega)]
    have hu : (∀ i, 2 ≤ i → i < 10 → (X j (1 + g)).1 i = (S j2 (1 + g)).1 i) ∧ (∀ k, k < 96 → (X j (1 + g)).2 0 k = (S j2 (1 + g)).2 0 k) ∧ ∀ k, k < 8 → (X j (1 + g)).2 1 k = (S j2 (1 + g)).2 1 k := by
      rw [← hX]
      match g, hg with
      | 0, _ =>
        rw [g7_p (by decide), g4_p (by decide)]
        refine ⟨fun i i1 i2 => ?_, fun k hk => ?_, fun k hk => ?_⟩
        · rw [g4_1 h i i1 i2, g5a_o h]
        · rw [(g4_2 h).1 k hk, g5a_o h]
        · rw [(g4_2 h).2 k hk, g5a_o h]
      | 1, _ =>
        rw [g7_p (by decide)]
        refine ⟨fun i i1 i2 => ?_, fun k hk => ?_, fun k hk => ?_⟩
        · rw [g4_1 h i i1 i2, g4_o h, g5a_o h]
        · rw [(g4_2 h).1 k hk, g4_o h, g5a_o h]
        · rw [(g4_2 h).2 k hk, g4_o h, g5a_o h]
    obtain ⟨u1, u2, u3⟩ := hu
    obtain ⟨d1, d2, d3, d4, d5⟩ := c4 g hg
    have q8 := (hQu g hg).1
    refine ⟨fun c hc => ?_, RGp_1 d2 (fun i i1 i2 => u1 i (by omega) (by omega)), (u1 2 (by decide) (by decide)).trans d3, fun k hk => (u3 k (by omega)).trans (d4 k hk), fun k x hk hx => ?_⟩
    · rw [u1 _ (by omega) (by omega)]; exact d1 c hc
    · have := (Inv_qw bI hg hk).2.1
      rw [u2 _ (by omega)]
      exact d5 k x hk hx
  · rw [nS_p (by decide), nS_p (by decide), nS_p (by decide), ← hX]
    obtain ⟨v1, v2⟩ := g7_1 (S := g4 j j2 2 (g4 j j2 1 (g5a j j2 S))) h
    rw [g4_o h, g4_o h, g5a_o h] at v1 v2
    refine ⟨v1.trans c5.1, fun k hk => ?_⟩
    rw [v2 0 k (by decide) (by omega), v2 1 k (by decide) (by omega), v2 2 k (by decide) (by omega)]
    exact c5.2 k hk
/-! the other side -/
theorem RM_eq {A : AS} {T : Nat} {s s' : Nat → Int32} (hM : RM A s) (hI : Inv A T) (e : ∀ k, k < 760 → s' k = s k) : RM A s' := by
  obtain ⟨h1, h2, h3, h4, h5, h6, h7⟩ := hM
  exact ⟨RMf_c h1 (fun j a => e j (by omega)), RMc_c h2 (fun j a b _ _ _ => e j (by omega)), RMk_c h3 (fun j a b => e j (by omega)), RMr_c h4 (fun j a b => e j (by omega)), RMq_c h5 hI.2.2.2.2.1 (fun j a b => e j (by omega)), RMp_c h6 (fun g hg => (Inv_pl hI hg).1) (fun j a b => e j (by omega)), RMl_c h7 (RMl_ok hI) (fun j a b => e j b)⟩
/-! ===== days go by ===== -/
noncomputable def days : Nat → AS → AS
  | 0, A => A
  | n + 1, A => opDay (days n A)
theorem Inv_day {A : AS} {T : Nat} (hI : Inv A T) (hT2 : T + 1 < 2 ^ 20) : Inv (opDay A) (T + 1) := by
  have i1 := Inv_deliver hI (g := 1 - Hn A 6 % 2)
  have i2 := Inv_wrAll (T := T) (g := Hn A 6 % 2) (Nat.mod_lt _ (by decide)) (Hn A 7) _ i1
  have i4 : Inv (opD3 A) (T + 1) := Inv_next i2 hT2
  unfold opDay
  split
  · unfold opInsp
    have i5 : Inv (opPrune (opD3 A)) (T + 1) := Inv_pru i4 _
    have i7 := Inv_fip (g := 1) (Inv_fip (g := 0) i5 (by decide)) (by decide)
    refine Inv_sift (fun A m K M B hI hE e => ?_) _ _ _ i7 rfl
    unfold fFail at e
    split at e
    · cases e; exact Inv_failP hI hE
    · cases e
  · exact i4
theorem Inv_days {A : AS} {T : Nat} (hI : Inv A T) : ∀ n, T + n < 2 ^ 20 → Inv (days n A) (T + n) := by
  intro n
  induction n with
  | zero => intro _; exact hI
  | succ n ih => intro h; exact Inv_day (ih (by omega)) (by omega)
theorem C_foresee {A : AS} {T : Nat} {S : SS} (hC : RC A (S 0)) (hI : Inv A T) {N n : Nat} (hn : n ≤ 60) (hT2 : T + n < 2 ^ 20) (hN : 400 < N) : ∃ S', F_X10_foresee N (nI n) S = some S' ∧ RC (days n A) (S' 1) ∧ ∀ j, j ≠ 1 → S' j = S j := by
  obtain ⟨c1, c2⟩ := C_copy (j := 1) (j2 := 0) (by decide) hC hI
  unfold F_X10_foresee
  rw [lt_d]
  generalize F_X5_copyFrom 1 0 S = S1 at c1 c2
  have key := lpN_up (f := fun z => st_X10_foresee_13 N (nI n) z.1 z.2) (fun i (x : Int32 × SS) => x.1 = nI i ∧ RC (days i A) (x.2 1) ∧ ∀ j, j ≠ 1 → x.2 j = S j) (fun r => RC (days n A) (r 1) ∧ ∀ j, j ≠ 1 → r j = S j) (n := n) (N := N) (x0 := (0, S1)) (by omega) ⟨rfl, c1, c2⟩ (fun i x hi hP => ?_) (fun x hP => ?_)
  · exact key
  · obtain ⟨x1, x2⟩ := x
    obtain ⟨e1, r1, f1⟩ := hP
    dsimp only at e1 r1 f1
    cases e1
    obtain ⟨h2, e2, r2, i2⟩ := C_day r1 (Inv_days hI i (by omega)) (by omega) (N := N) (by omega)
    refine ⟨(nI (i + 1), up x2 1 h2), ?_, rfl, ?_, fun j hj => ?_⟩
    · show st_X10_foresee_13 N (nI n) (nI i) x2 = _
      unfold st_X10_foresee_13
      simp (disch := omega) only [L1, Z_le, Z_add, if_neg, e2, ob1_s, lt_d]
    · show RC _ (up x2 1 h2 1)
      rw [up_s]
      exact r2
    · show up x2 1 h2 j = _
      rw [up_n hj]
      exact f1 j hj
  · obtain ⟨x1, x2⟩ := x
    obtain ⟨e1, r1, f1⟩ := hP
    dsimp only at e1 r1 f1
    cases e1
    refine ⟨x2, ?_, r1, f1⟩
    show st_X10_foresee_13 N (nI n) (nI n) x2 = _
    unfold st_X10_foresee_13
    simp (disch := omega) only [Z_le, if_pos]
