/-! ===== vgoes: the law goes, whatever the script ===== -/
theorem OmT_o {Ω : OM} {p sx j : Nat} {h : Nat → HV} (h0 : j ≠ 0) (h2 : j ≠ 20) : (OmT Ω p sx h).1 j = Ω.1 j := by
  show up (up Ω.1 20 _) 0 h j = Ω.1 j
  rw [up_n h0, up_n h2]
theorem OmI_o {j : Nat} (h0 : j ≠ 0) (h2 : j ≠ 20) : OmI.1 j = Om0.1 j := by
  unfold OmI
  rw [OmT_o h0 h2, OmT_o h0 h2, OmT_o h0 h2]
  show up Om0.1 0 _ j = _
  rw [up_n h0]
theorem OmI_4 : (OmI.1 11 4).1 1 = nI 0 := by
  rw [OmI_o (by decide) (by decide)]
  rfl
theorem OmI_7 : (OmI.1 11 7).1 1 = nI 0 := by
  rw [OmI_o (by decide) (by decide)]
  rfl
theorem lw_hd {L : Nat} {xs : Nat → Int32} {R : List Nat} : lwT0 L xs ++ R = stN 6 ++ (32 :: (digs (lwS L xs) ++ (32 :: (digs (1 + cellN L xs 1 % 6) ++ (32 :: (digs (cellN L xs 2 % 5) ++ (32 :: (digs (1 + cellN L xs 3 % 12) ++ (32 :: (digs (1 + cellN L xs 4 % 5) ++ (32 :: (digs 4 ++ (59 :: R))))))))))))) := by
  unfold lwT0
  rw [wspl.1.1, wspl.1.2]
  simp only [List.append_assoc, List.cons_append, List.nil_append]
/-- the hedge of the first line -/
noncomputable def lwA (L : Nat) (xs : Nat → Int32) : AS := layA (lwS L xs) (1 + cellN L xs 1 % 6) (cellN L xs 2 % 5) (1 + cellN L xs 3 % 12) (1 + cellN L xs 4 % 5) 4
theorem lwA_J {L : Nat} {xs : Nat → Int32} : AJ (lwA L xs) 0 := by
  have h1 := lwS_lt L xs
  have h2 := lwS_ge L xs
  exact ⟨Inv_lay (by decide) ⟨h2, by omega⟩ ⟨by omega, by omega⟩ (by omega) ⟨by omega, by omega⟩ ⟨by omega, by omega⟩ ⟨by decide, by decide⟩, fun _ _ => rfl, rfl, Jk_lay⟩
theorem upd0 {f : Nat → Int32} {k i : Nat} (h : upd f k 1 i = 0) : i ≠ k ∧ f i = 0 := by
  by_cases c : i = k
  · rw [c, pk_us] at h
    exact absurd h (by decide)
  · rw [pk_un c] at h
    exact ⟨c, h⟩
/-- what is so while the text is read -/
def WK (N : Nat) (X : List Nat) (S0 S5 : SS) (s : Nat) (R : List Nat) (A : AS) (j : Nat) : Prop := RDL N X S0 S5 R A j ∧ Hn A 0 = s
theorem twg_n {R : Nat → Nat → Nat} {k c o l i : Nat} (h : i ≠ k) : twR R k c o l 2 i = R 2 i := twR_2n h 2
theorem twg_3 {R : Nat → Nat → Nat} {k c o l i : Nat} : twR R k c o l 3 i = R 3 i := by
  unfold twR
  rw [rowS_a (by decide), rowS_a (by decide), rowS_a (by decide)]
theorem V_tws {N L : Nat} {xs : Nat → Int32} {X R0 : List Nat} {S0 S5 : SS} (hX : X = lwT0 L xs ++ R0) (h0 : RDL N X S0 S5 R0 (lwA L xs) 0) (hN : 6000 < N) : ∀ k, k ≤ 4 → ∀ R, X = (lwTws L xs k).1 ++ R → ∃ A j, RDL N X S0 S5 R A j ∧ j ≤ k ∧ Hn A 0 = lwS L xs ∧ (∀ i, (lwTws L xs k).2 i = 0 → Hr A 2 i = 0) ∧ (∀ i, Hr A 3 i = 0) ∧ ∀ g, Hq A g = [] := by
  intro k
  induction k with
  | zero =>
    intro _ R hR
    have e : R = R0 := List.append_cancel_left (show lwT0 L xs ++ R = lwT0 L xs ++ R0 from hR.symm.trans hX)
    subst e
    exact ⟨lwA L xs, 0, h0, Nat.le_refl _, rfl, fun _ _ => rfl, fun _ => rfl, fun _ => rfl⟩
  | succ k ih =>
    intro hk R hR
    have hs4 := lwS_ge L xs
    have hm : cellN L xs (6 + k) % lwS L xs < lwS L xs := Nat.mod_lt _ (by omega)
    have e2 : (lwTws L xs (k + 1)).2 = upd (lwTws L xs k).2 (cellN L xs (6 + k) % lwS L xs) 1 := rfl
    by_cases c : (lwTws L xs k).2 (cellN L xs (6 + k) % lwS L xs) = 0
    · have e1 : (lwTws L xs (k + 1)).1 = (lwTws L xs k).1 ++ stN 29 ++ digs (cellN L xs (6 + k) % lwS L xs) ++ [32] ++ [97 + cellN L xs (12 + k) % 26] ++ [32] ++ digs (cellN L xs (18 + k) % 2) ++ [32] ++ digs (1 + cellN L xs (24 + k) % 15) ++ [59] := if_pos c
      rw [e1] at hR
      simp only [List.append_assoc, List.cons_append, List.nil_append] at hR
      obtain ⟨A, j, h1, h2, h3, h4, h5, h6⟩ := ih (by omega) _ hR
      have hz := h4 _ c
      refine ⟨opTw A (cellN L xs (6 + k) % lwS L xs) (97 + cellN L xs (12 + k) % 26) (cellN L xs (18 + k) % 2) (1 + cellN L xs (24 + k) % 15), j + 1, RDL_t h1 hN (by omega) (by rw [h3]; exact hm) hz (by omega) (by omega) (Nat.mod_lt _ (by decide)) (by omega) (by omega), by omega, h3, fun i hi => ?_, fun i => ?_, h6⟩
      · rw [e2] at hi
        obtain ⟨q1, q2⟩ := upd0 hi
        exact (twg_n q1).trans (h4 i q2)
      · exact (twg_3 (R := Hr A) (k := cellN L xs (6 + k) % lwS L xs) (c := 97 + cellN L xs (12 + k) % 26) (o := cellN L xs (18 + k) % 2) (l := 1 + cellN L xs (24 + k) % 15) (i := i)).trans (h5 i)
    · have e1 : (lwTws L xs (k + 1)).1 = (lwTws L xs k).1 := if_neg c
      rw [e1] at hR
      obtain ⟨A, j, h1, h2, h3, h4, h5, h6⟩ := ih (by omega) R hR
      exact ⟨A, j, h1, by omega, h3, fun i hi => h4 i (upd0 (e2 ▸ hi)).2, h5, h6⟩
theorem V_nes {N L : Nat} {xs : Nat → Int32} {X R0 : List Nat} {S0 S5 : SS} (hX : X = lwT0 L xs ++ R0) (h0 : RDL N X S0 S5 R0 (lwA L xs) 0) (hN : 6000 < N) : ∀ k, k ≤ 2 → ∀ R, X = (lwNes L xs k).1 ++ R → ∃ A j, RDL N X S0 S5 R A j ∧ j ≤ 4 + k ∧ Hn A 0 = lwS L xs ∧ (∀ i, (lwNes L xs k).2 i = 0 → Hr A 3 i = 0) ∧ cnt (nstB (Hr A)) (Hn A 0) ≤ k ∧ ∀ g, Hq A g = [] := by
  intro k
  induction k with
  | zero =>
    intro _ R hR
    obtain ⟨A, j, h1, h2, h3, h4, h5, h6⟩ := V_tws hX h0 hN (cellN L xs 5 % 5) (by omega) R hR
    refine ⟨A, j, h1, by omega, h3, fun i _ => h5 i, ?_, h6⟩
    have e0 : cnt (nstB (Hr A)) (Hn A 0) = 0 := cnt_no (fun k _ => decide_eq_false (by rw [h5 k]; exact Nat.lt_irrefl 0))
    omega
  | succ k ih =>
    intro hk R hR
    have hs4 := lwS_ge L xs
    have hm : cellN L xs (31 + k) % lwS L xs < lwS L xs := Nat.mod_lt _ (by omega)
    have e2 : (lwNes L xs (k + 1)).2 = upd (lwNes L xs k).2 (cellN L xs (31 + k) % lwS L xs) 1 := rfl
    by_cases c : (lwNes L xs k).2 (cellN L xs (31 + k) % lwS L xs) = 0
    · have e1 : (lwNes L xs (k + 1)).1 = (lwNes L xs k).1 ++ stN 30 ++ digs (cellN L xs (31 + k) % lwS L xs) ++ [32] ++ digs (1 + cellN L xs (34 + k) % 9) ++ [59] := if_pos c
      rw [e1] at hR
      simp only [List.append_assoc, List.cons_append, List.nil_append] at hR
      obtain ⟨A, j, h1, h2, h3, h4, h5, h6⟩ := ih (by omega) _ hR
      have hz := h4 _ c
      have hkm : cellN L xs (31 + k) % lwS L xs < Hn A 0 := by rw [h3]; exact hm
      refine ⟨opNst A (cellN L xs (31 + k) % lwS L xs) (1 + cellN L xs (34 + k) % 9), j + 1, RDL_n h1 hN (by omega) hkm hz (by omega) (by omega) (by omega), by omega, h3, fun i hi => ?_, ?_, h6⟩
      · rw [e2] at hi
        obtain ⟨q1, q2⟩ := upd0 hi
        exact (rowS_k q1 3).trans (h4 i q2)
      · have := nst_add (c := 1 + cellN L xs (34 + k) % 9) hkm hz (by omega)
        show cnt (nstB (Hr (opNst A (cellN L xs (31 + k) % lwS L xs) (1 + cellN L xs (34 + k) % 9)))) (Hn A 0) ≤ k + 1
        omega
    · have e1 : (lwNes L xs (k + 1)).1 = (lwNes L xs k).1 := if_neg c
      rw [e1] at hR
      obtain ⟨A, j, h1, h2, h3, h4, h5, h6⟩ := ih (by omega) R hR
      exact ⟨A, j, h1, by omega, h3, fun i hi => h4 i (upd0 (e2 ▸ hi)).2, by omega, h6⟩
theorem V_mss {N L : Nat} {xs : Nat → Int32} {X R0 : List Nat} {S0 S5 : SS} (hX : X = lwT0 L xs ++ R0) (h0 : RDL N X S0 S5 R0 (lwA L xs) 0) (hN : 6000 < N) : ∀ k, k ≤ 5 → ∀ R, X = lwMs L xs k ++ R → ∃ A j, RDL N X S0 S5 R A j ∧ j ≤ 6 + k ∧ Hn A 0 = lwS L xs ∧ ∀ g, (Hq A g).length ≤ k := by
  intro k
  induction k with
  | zero =>
    intro _ R hR
    obtain ⟨A, j, h1, h2, h3, h4, h5, h6⟩ := V_nes hX h0 hN (cellN L xs 30 % 3) (by omega) R hR
    exact ⟨A, j, h1, by omega, h3, fun g => by rw [h6 g]; exact Nat.le_refl _⟩
  | succ k ih =>
    intro hk R hR
    have e1 : lwMs L xs (k + 1) = lwMs L xs k ++ stN 31 ++ digs (cellN L xs (45 + k) % 2) ++ [32] ++ wlk (cellN L xs (38 + k)) (cellN L xs (38 + k) % 5 + 1) ++ [59] := rfl
    rw [e1] at hR
    simp only [List.append_assoc, List.cons_append, List.nil_append] at hR
    obtain ⟨A, j, h1, h2, h3, h4⟩ := ih (by omega) _ hR
    have hl : (wlk (cellN L xs (38 + k)) (cellN L xs (38 + k) % 5 + 1)).length = cellN L xs (38 + k) % 5 + 1 := wlk_len
    have h8 := h4 (cellN L xs (45 + k) % 2)
    refine ⟨opQue A (cellN L xs (45 + k) % 2) (wlk (cellN L xs (38 + k)) (cellN L xs (38 + k) % 5 + 1)), j + 1, RDL_m h1 hN (by omega) (Nat.mod_lt _ (by decide)) (by omega) (by omega) (by omega) (fun x hx => ?_), by omega, h3, fun g => ?_⟩
    · unfold wlk at hx
      obtain ⟨i, -, rfl⟩ := List.mem_map.mp hx
      rw [isL_t]
      omega
    · show (up (Hq A) (cellN L xs (45 + k) % 2) (Hq A (cellN L xs (45 + k) % 2) ++ [wlk (cellN L xs (38 + k)) (cellN L xs (38 + k) % 5 + 1)]) g).length ≤ k + 1
      by_cases c : g = cellN L xs (45 + k) % 2
      · rw [c, up_s, List.length_append]
        show (Hq A (cellN L xs (45 + k) % 2)).length + 1 ≤ k + 1
        omega
      · rw [up_n c]
        have := h4 g
        omega
theorem Jk_at {A : AS} (h : Jk A) : Jk (atA A) := Jk_e h (up_n (f := Hn A) (v := Hn A 1) (show (0 : Nat) ≠ 7 by decide)) rfl rfl rfl rfl (fun _ => Iff.rfl) (fun _ _ _ => rfl)
theorem lwText_hd (L : Nat) (xs : Nat → Int32) : ∃ R0, lwText L xs = lwT0 L xs ++ R0 := by
  have h1 : ∀ k, ∃ R, (lwTws L xs k).1 = lwT0 L xs ++ R := by
    intro k
    induction k with
    | zero => exact ⟨[], (List.append_nil _).symm⟩
    | succ k ih =>
      obtain ⟨R, e⟩ := ih
      by_cases c : (lwTws L xs k).2 (cellN L xs (6 + k) % lwS L xs) = 0
      · have e1 : (lwTws L xs (k + 1)).1 = (lwTws L xs k).1 ++ stN 29 ++ digs (cellN L xs (6 + k) % lwS L xs) ++ [32] ++ [97 + cellN L xs (12 + k) % 26] ++ [32] ++ digs (cellN L xs (18 + k) % 2) ++ [32] ++ digs (1 + cellN L xs (24 + k) % 15) ++ [59] := if_pos c
        rw [e1, e]
        simp only [List.append_assoc]
        exact ⟨_, rfl⟩
      · have e1 : (lwTws L xs (k + 1)).1 = (lwTws L xs k).1 := if_neg c
        rw [e1]
        exact ⟨R, e⟩
  have h2 : ∀ k, ∃ R, (lwNes L xs k).1 = lwT0 L xs ++ R := by
    intro k
    induction k with
    | zero => exact h1 _
    | succ k ih =>
      obtain ⟨R, e⟩ := ih
      by_cases c : (lwNes L xs k).2 (cellN L xs (31 + k) % lwS L xs) = 0
      · have e1 : (lwNes L xs (k + 1)).1 = (lwNes L xs k).1 ++ stN 30 ++ digs (cellN L xs (31 + k) % lwS L xs) ++ [32] ++ digs (1 + cellN L xs (34 + k) % 9) ++ [59] := if_pos c
        rw [e1, e]
        simp only [List.append_assoc]
        exact ⟨_, rfl⟩
      · have e1 : (lwNes L xs (k + 1)).1 = (lwNes L xs k).1 := if_neg c
        rw [e1]
        exact ⟨R, e⟩
  have h3 : ∀ k, ∃ R, lwMs L xs k = lwT0 L xs ++ R := by
    intro k
    induction k with
    | zero => exact h2 _
    | succ k ih =>
      obtain ⟨R, e⟩ := ih
      have e1 : lwMs L xs (k + 1) = lwMs L xs k ++ stN 31 ++ digs (cellN L xs (45 + k) % 2) ++ [32] ++ wlk (cellN L xs (38 + k)) (cellN L xs (38 + k) % 5 + 1) ++ [59] := rfl
      rw [e1, e]
      simp only [List.append_assoc]
      exact ⟨_, rfl⟩
  exact h3 _
theorem V_load {N L : Nat} {xs : Nat → Int32} {S1 : SS} (hN : 6000 < N) (hT : TX (lwText L xs) S1) (h7 : (S1 11 7).1 1 = nI 0) : ∃ S2 A, F_X10_load N S1 = some (.inl (nI (lwS L xs), S2)) ∧ ST S2 A [] 0 := by
  have hs1 := lwS_lt L xs
  have hs2 := lwS_ge L xs
  have hlen : (lwText L xs).length ≤ 191 := by
    have := lwMs_len L xs (cellN L xs 37 % 6)
    show (lwMs L xs (cellN L xs 37 % 6)).length ≤ _
    omega
  have hasc : ∀ c ∈ lwText L xs, c < 128 := lwMs_asc L xs _
  obtain ⟨R0, hX⟩ := lwText_hd L xs
  have hB : CB (tB (lwText L xs)) (lwText L xs).length (S1 11 4) := TX_CB hasc (by omega) hT
  unfold F_X10_load F_X3_read F_X9_startReading
  rw [lt_d, lt_d, lt_d, lt_d, lt_d, ← sT_e]
  have hp3 : PC0 (lwText L xs) 0 S1 (sT S1 (sS (sS (sS (S1 11 4) 2 0) 7 0) 8 (-1))) := by
    refine ⟨?_, ?_, fS_T ⟨fun _ _ _ => rfl, fun _ _ => rfl⟩⟩
    · rw [sT_4]
      exact CB_e hB rfl (by rw [sS_1n (by decide), sS_1n (by decide), sS_1n (by decide)])
    · rw [sT_4, sS_1n (by decide), sS_1n (by decide), sS_1]
      rfl
  have hat : At (lwText L xs) 0 (lwText L xs) := At_0
  have hat2 : At (lwText L xs) 0 (lwT0 L xs ++ R0) := by rw [← hX]; exact hat
  rw [lw_hd] at hat2
  obtain ⟨S5, e5, f5, p5, c5, t5⟩ := V_hedgeL (N := N) hp3 hat2 (by omega) ⟨hs2, by omega⟩ ⟨by omega, by omega⟩ (by omega) ⟨by omega, by omega⟩ ⟨by omega, by omega⟩ ⟨by decide, by decide⟩
  have h0 : RDL N (lwText L xs) S1 S5 R0 (lwA L xs) 0 := ⟨S5, e5, rfl, p5, c5, lwA_J, t5⟩
  obtain ⟨A, j, h1, h2, h3, -⟩ := V_mss hX h0 hN (cellN L xs 37 % 6) (by omega) [] (List.append_nil _).symm
  obtain ⟨S6, e6, f6, c6, a6⟩ := RDL_e h1 hN (by omega)
  rw [f5, ob_s, if_pos rfl, show lpN N (fun z => st_X3_read_16 N 1 z.1 z.2) (0, S5) = some (true, S6) from e6, ob_s, lt_d, if_pos rfl, lt_d]
  unfold F_X6_forget
  rw [lt_d, lt_d, ← sT_e]
  have c7 : RC (atA A) (sT S6 (sS (S6 11 4) 1 0) 1) := by rw [sT_o (by decide)]; exact c6
  have x7 : sT S6 (sS (S6 11 4) 1 0) 11 7 = S1 11 7 := by rw [sT_q (by decide)]; exact f6.2 7 (by decide)
  have x4 : (sT S6 (sS (S6 11 4) 1 0) 11 4).1 1 = nI 0 := by rw [sT_4, sS_1]; rfl
  generalize sT S6 (sS (S6 11 4) 1 0) = S7 at c7 x7 x4 ⊢
  obtain ⟨d1, d2⟩ := C_copy (j := 0) (j2 := 1) (by decide) c7 (Inv_at a6.1)
  generalize F_X5_copyFrom 0 1 S7 = S8 at d1 d2
  have e11 : S8 11 = S7 11 := d2 11 (by decide)
  refine ⟨up S8 11 (up (S8 11) 7 (sS (S8 11 7) 2 0)), atA A, ?_, ?_, Inv_at a6.1, Jk_at a6.2.2.2, ⟨Nat.zero_le _, 0, by decide, ?_, ?_, fun i hi => absurd hi (Nat.not_lt_zero i)⟩, fun B hB => absurd hB List.not_mem_nil, ?_⟩
  · rw [up_n (by decide), d1.1.1.1 0 (by decide), show Hn (atA A) 0 = lwS L xs from (up_n (f := Hn A) (v := Hn A 1) (show (0 : Nat) ≠ 7 by decide)).trans h3]
  · rw [up_n (by decide)]; exact d1
  · rw [up_s, up_s, sS_1n (by decide), e11, x7]; exact h7
  · rw [up_s, up_s, sS_1]; rfl
  · rw [up_s, up_n (by decide), e11]; exact x4
theorem law_goes {N L : Nat} {xs : Nat → Int32} (hN : 6000 < N) : LawGoes N L xs := by
  have hlen : (lwText L xs).length ≤ 191 := by
    have := lwMs_len L xs (cellN L xs 37 % 6)
    show (lwMs L xs (cellN L xs 37 % 6)).length ≤ _
    omega
  obtain ⟨S1, e1, hT, o1, o2⟩ := V_comes (T := lwText L xs) (lwMs_asc L xs _) (by omega) 11 0 OmI.1 OmI_4 (fun j hj => absurd hj (Nat.not_lt_zero j)) (by decide) (by omega)
  obtain ⟨S2, A, e2, h2⟩ := V_load hN hT (by rw [o2 7 (by decide)]; exact OmI_7)
  obtain ⟨S3, B, L', e3, h3⟩ := V_rounds (Ln := L) (xs := xs) hN 12 0 S2 A [] 0 h2 (by decide)
  exact ⟨S1, S2, S3, e1, e2, ST_stands h2 (by omega), e3, V_last h3 hN (by decide)⟩
