/-! ===== vround: a round of the law, and its end ===== -/
theorem wrAll_ci {g i : Nat} (hi : i ≠ 0) : ∀ (n : Nat) (A : AS), Hc (wrAll g n A) i = Hc A i := by
  intro n
  induction n with
  | zero => intro A; rfl
  | succ n ih =>
    have hw : ∀ (B : AS), Hc (act (opWr B g)) i = Hc B i := fun B => by
      have h1 : Hc (act (opWr B g)) i = Hc (opWr B g) i := rfl
      rw [h1]
      unfold opWr
      split
      · exact up_n (f := Hc B) (v := Hc B 0 + 1) hi
      · exact up_n (f := Hc B) (v := Hc B 0 + 1) hi
    intro A
    unfold wrAll
    by_cases c : (Hp A g).2.2 ≠ []
    · rw [if_pos c, ih _, hw _]
    · rw [if_neg c]
      cases fStart (Hr A) (Hn A 0) ((Hq A g).getD 0 []).length with
      | none => rfl
      | some k =>
        show Hc (wrAll g n (act (opWr (opBeg A g k ((Hq A g).getD 0 [])) g))) i = _
        rw [ih _, hw _]
        rfl
theorem fail_c {A : AS} {m : Msg} {i : Nat} (h3 : 3 ≤ i) (h14 : i < 14) : Hc (opFail A m) i = Hc A i := by
  unfold opFail opClr
  refine (up_n (f := Hc (opF2 A m.1 m.2.2)) (by omega)).trans ?_
  have e1 : Hc (opF1 A m.1) i = Hc A i := up_n (f := Hc A) (by omega)
  unfold opF2
  split
  · exact e1
  · exact (up_n (f := Hc (opF1 A m.1)) (by omega)).trans e1
theorem fip_c {A : AS} {g i : Nat} (h3 : 3 ≤ i) (h14 : i < 14) : Hc (opFIP A g) i = Hc A i := by
  unfold opFIP
  split
  · exact (fail_c h3 h14 : Hc (opFail A (g, (Hp A g).2.1, (Hp A g).2.2)) i = Hc A i)
  · rfl
theorem insp_c {A : AS} {i : Nat} (h3 : 3 ≤ i) (h14 : i < 14) : Hc (opInsp A) i = Hc A i := by
  unfold opInsp
  rw [sift_c (fun A m B h => by
    unfold fFail at h
    split at h
    · cases h
      exact fail_c h3 h14
    · cases h), fip_c h3 h14, fip_c h3 h14]
  exact up_n (f := Hc A) (by omega)
theorem del_d {g i : Nat} (h3 : 3 ≤ i) : ∀ (L K : List Msg) (A : AS), ∃ d, d ≤ L.length ∧ Hc (sift (fDel g) L K A) i = Hc A i + nI d := by
  intro L
  induction L with
  | nil => exact fun K A => ⟨0, Nat.le_refl _, (Int32.add_zero _).symm⟩
  | cons m L ih =>
    intro K A
    by_cases c : m.1 = g
    · have e : sift (fDel g) (m :: L) K A = sift (fDel g) L K (Sl (opDel A m) (K ++ L)) := by
        show (match fDel g A m with
          | some B => sift (fDel g) L K (Sl B (K ++ L))
          | none => sift (fDel g) L (K ++ [m]) A) = _
        rw [show fDel g A m = some (opDel A m) from if_pos c]
      obtain ⟨d, h1, h2⟩ := ih K (Sl (opDel A m) (K ++ L))
      have e0 : Hc (opClr A m.2.1 m.2.2.length) i = Hc A i := up_n (f := Hc A) (by omega)
      by_cases c2 : i = 12 + m.1
      · have e1 : Hc (Sl (opDel A m) (K ++ L)) i = Hc A i + 1 := by
          show up (Hc (opClr A m.2.1 m.2.2.length)) (12 + m.1) (Hc (opClr A m.2.1 m.2.2.length) (12 + m.1) + 1) i = _
          rw [← c2, up_s, e0]
        refine ⟨d + 1, by show d + 1 ≤ L.length + 1; omega, ?_⟩
        rw [e, h2, e1, Int32.add_assoc, Int32.add_comm 1, L1, Z_add]
      · have e1 : Hc (Sl (opDel A m) (K ++ L)) i = Hc A i := by
          show up (Hc (opClr A m.2.1 m.2.2.length)) (12 + m.1) (Hc (opClr A m.2.1 m.2.2.length) (12 + m.1) + 1) i = _
          rw [up_n c2, e0]
        exact ⟨d, by show d ≤ L.length + 1; omega, by rw [e, h2, e1]⟩
    · have e : sift (fDel g) (m :: L) K A = sift (fDel g) L (K ++ [m]) A := by
        show (match fDel g A m with
          | some B => sift (fDel g) L K (Sl B (K ++ L))
          | none => sift (fDel g) L (K ++ [m]) A) = _
        rw [show fDel g A m = none from if_neg c]
      obtain ⟨d, h1, h2⟩ := ih (K ++ [m]) A
      exact ⟨d, by show d ≤ L.length + 1; omega, by rw [e, h2]⟩
theorem day_d {A : AS} {T i : Nat} (hI : Inv A T) (h3 : 3 ≤ i) (h14 : i < 14) : ∃ d, d ≤ 20 ∧ Hc (opDay A) i = Hc A i + nI d := by
  obtain ⟨d, h1, h2⟩ := del_d (g := 1 - Hn A 6 % 2) h3 (Hl A) [] A
  have h20 := Inv_l hI
  have e : Hc (opD3 A) i = Hc A i + nI d := by
    show Hc (wrAll (Hn A 6 % 2) (Hn A 7) (sift (fDel (1 - Hn A 6 % 2)) (Hl A) [] A)) i = _
    rw [wrAll_ci (by omega), h2]
  refine ⟨d, by omega, ?_⟩
  unfold opDay
  split
  · rw [insp_c h3 h14, e]
  · exact e
theorem days_d {A : AS} {T i : Nat} (hI : Inv A T) (h3 : 3 ≤ i) (h14 : i < 14) : ∀ n, T + n < 2 ^ 20 → ∃ d, d ≤ 20 * n ∧ Hc (days n A) i = Hc A i + nI d := by
  intro n
  induction n with
  | zero => exact fun _ => ⟨0, Nat.le_refl _, (Int32.add_zero _).symm⟩
  | succ n ih =>
    intro hT
    obtain ⟨d, h1, h2⟩ := ih (by omega)
    obtain ⟨d2, h3, h4⟩ := day_d (Inv_days hI n (by omega)) h3 h14
    exact ⟨d + d2, by omega, by rw [days_s, h4, h2, Int32.add_assoc, Z_add]⟩
theorem days_p {A : AS} {T : Nat} (hI : Inv A T) (n : Nat) (hn : n ≤ 60) (hT : T + n < 2 ^ 20) : ¬ (Hc (days n A) 12 + Hc (days n A) 13) - (Hc A 12 + Hc A 13) < 0 := by
  obtain ⟨d1, a1, a2⟩ := days_d hI (i := 12) (by decide) (by decide) n hT
  obtain ⟨d2, b1, b2⟩ := days_d hI (i := 13) (by decide) (by decide) n hT
  have e : (Hc (days n A) 12 + Hc (days n A) 13) - (Hc A 12 + Hc A 13) = nI (d1 + d2) := by
    rw [a2, b2, show (Hc A 12 + nI d1) + (Hc A 13 + nI d2) = (nI d1 + nI d2) + (Hc A 12 + Hc A 13) by ac_rfl, Int32.add_sub_cancel, Z_add]
  rw [e, L0, Z_lt (by omega) (by decide)]
  omega
/-! saving and restoring -/
theorem V_save {S : SS} {A : AS} {L : List AS} {T : Nat} (h : ST S A L T) : ∃ S', F_X10_save S = (nI (Hn A 6), S') ∧ ST S' A L T ∧ RC A (S' 2) ∧ (S' 11 6).1 3 = b2i true := by
  obtain ⟨hC, hI, _⟩ := id h
  obtain ⟨c1, c2⟩ := C_copy (j := 2) (j2 := 0) (by decide) hC hI
  unfold F_X10_save
  generalize F_X5_copyFrom 2 0 S = S2 at c1 c2
  have e11 : S2 11 = S 11 := c2 11 (by decide)
  refine ⟨up S2 11 (up (S2 11) 6 (sS (S2 11 6) 3 (b2i true))), ?_, ?_, ?_, ?_⟩
  · rw [lt_d, lt_d, up_n (by decide), c2 0 (by decide), hC.1.1.1 6 (by decide)]
  · exact ST0_1 (ST0_e (ST_0 h) (by rw [up_n (by decide), c2 0 (by decide)]) (by rw [up_s, up_n (by decide), e11]) (fun j h1 h2 => by rw [up_n (by omega), c2 j (by omega)])) (by rw [up_s, up_n (by decide), e11]; exact h.2.2.2.2.2)
  · rw [up_n (by decide)]; exact c1
  · rw [up_s, up_s, sS_1]
theorem V_restore {S : SS} {A B : AS} {L : List AS} {T : Nat} (h : ST S B L T) (hC : RC A (S 2)) (hI : Inv A T) (hJ : Jk A) (h3 : (S 11 6).1 3 = b2i true) : ∃ S', F_X10_restore S = some (.inl (nI (Hn A 6), S')) ∧ ST S' A [] T := by
  obtain ⟨c1, c2⟩ := C_copy (j := 0) (j2 := 2) (by decide) hC hI
  obtain ⟨_, x, hx, q1, q2, q3⟩ := h.2.2.2.1
  unfold F_X10_restore F_X6_forget
  rw [h3, if_neg (by decide)]
  generalize F_X5_copyFrom 0 2 S = S2 at c1 c2
  have e11 : S2 11 = S 11 := c2 11 (by decide)
  refine ⟨up S2 11 (up (S2 11) 7 (sS (S2 11 7) 2 0)), ?_, ?_, hI, hJ, ⟨Nat.zero_le _, x, hx, ?_, ?_, fun i hi => absurd hi (Nat.not_lt_zero i)⟩, fun B hB => absurd hB List.not_mem_nil, ?_⟩
  · rw [lt_d, lt_d, lt_d, up_n (by decide), c1.1.1.1 6 (by decide)]
  · rw [up_n (by decide)]; exact c1
  · rw [up_s, up_s, sS_1n (by decide), e11]; exact q1
  · rw [up_s, up_s, sS_1]; rfl
  · rw [up_s, up_n (by decide), e11]; exact h.2.2.2.2.2
theorem psh_last {L : List AS} {A : AS} (h8 : L.length ≤ 8) : (psh L A).length ≠ 0 ∧ (psh L A).getD ((psh L A).length - 1) A0 = A := by
  have hl := psh_len (A := A) h8
  by_cases c : L.length = 8
  · rw [if_pos c] at hl
    refine ⟨by omega, ?_⟩
    rw [psh_8 c, hl, if_neg (by decide)]
    rfl
  · rw [if_neg c] at hl
    refine ⟨by omega, ?_⟩
    rw [psh_n c, hl, Nat.add_sub_cancel, if_neg (Nat.lt_irrefl _), Nat.sub_self]
    rfl
theorem V_round {S : SS} {A : AS} {L : List AS} {T N what x y z : Nat} (h : ST S A L T) (hN : 6000 < N) (hw : what < 10) (hx : x < 100000) (hy : y < 100000) (hz : z < 100000) (hT : T + 200 < 2 ^ 20) : ∃ S' B L', F_round N what x y z S = some S' ∧ ST S' B L' (T + 6) := by
  obtain ⟨B, ch, hch, hact⟩ := act_ok (N := N) h.2.1 hN hw hx hy hz
  obtain ⟨S1, e1, h1⟩ := hact S L T h (by omega)
  unfold F_round
  rw [ST_sum h (by omega), ob1_s, e1, ob1_s, if_pos rfl, ST_stands h1 (by omega), ob1_s, if_pos rfl, ST_sum h1 (by omega), ob1_s]
  by_cases c : sumA B = sumA A
  · rw [if_pos c]
    exact ⟨S1, B, _, rfl, ST_up h1 (by omega) (by omega)⟩
  · rw [if_neg c]
    cases ch with
    | false => exact absurd (by rw [hch rfl]) c
    | true =>
      rw [if_pos rfl] at h1
      obtain ⟨p1, p2⟩ := psh_last (L := L) (A := A) h.2.2.2.1.1
      obtain ⟨S3, e3, h3⟩ := V_undo h1 p1
      rw [p2] at h3
      have hl := psh_len (A := A) h.2.2.2.1.1
      have hl8 : (psh L A).length ≤ 9 := by
        rw [hl]
        have := h.2.2.2.1.1
        split <;> omega
      obtain ⟨S4, e4, h4⟩ := hact S3 (psh L A).dropLast (T + 3) h3 (by omega)
      refine ⟨S4, B, _, ?_, ST_up h4 (by omega) (by omega)⟩
      rw [e3, fdR_l, ob1_s]
      dsimp only
      rw [if_neg (show ¬ nI ((psh L A).length - 1) < 0 by rw [L0, Z_lt (by omega) (by decide)]; omega), ST_sum h3 (by omega), ob1_s, if_pos rfl, e4, ob1_s, if_pos rfl, ST_sum h4 (by omega), ob1_s, if_pos rfl]
theorem V_rounds {N Ln : Nat} {xs : Nat → Int32} (hN : 6000 < N) : ∀ m i (S : SS) (A : AS) (L : List AS) (T : Nat), ST S A L T → T + 6 * m + 300 < 2 ^ 20 → ∃ S' B L', F_rounds N Ln xs m i S = some S' ∧ ST S' B L' (T + 6 * m) := by
  intro m
  induction m with
  | zero => exact fun i S A L T h _ => ⟨S, A, L, rfl, h⟩
  | succ m ih =>
    intro i S A L T h hT
    obtain ⟨S1, B, L1', e1, h1⟩ := V_round (x := cellN Ln xs (61 + 4 * i)) (y := cellN Ln xs (62 + 4 * i)) (z := cellN Ln xs (63 + 4 * i)) h hN (Nat.mod_lt (cellN Ln xs (60 + 4 * i)) (show 0 < 10 by decide)) cellN_lt cellN_lt cellN_lt (by omega)
    obtain ⟨S2, B2, L2', e2, h2⟩ := ih (i + 1) S1 B L1' (T + 6) h1 (by omega)
    refine ⟨S2, B2, L2', ?_, by rw [show T + 6 * (m + 1) = T + 6 + 6 * m by omega]; exact h2⟩
    show (ob1 (F_round N (cellN Ln xs (60 + 4 * i) % 10) (cellN Ln xs (61 + 4 * i)) (cellN Ln xs (62 + 4 * i)) (cellN Ln xs (63 + 4 * i)) S) fun S' => F_rounds N Ln xs m (i + 1) S') = _
    rw [e1, ob1_s, e2]
theorem V_last {S : SS} {A : AS} {L : List AS} {T N : Nat} (h : ST S A L T) (hN : 6000 < N) (hT : T + 100 < 2 ^ 20) : F_last N S = some () := by
  obtain ⟨S1, e1, h1, c1, t1⟩ := V_save h
  obtain ⟨S2, e2, h2, o2, o6⟩ := V_end h1 (N := N) (n := 2) (by omega) (by decide) (by decide) (by omega)
  obtain ⟨S3, e3, h3⟩ := V_restore h2 (A := A) (by rw [o2]; exact c1) (Inv_up h.2.1 (by omega) (by omega)) h.2.2.1 (by rw [o6]; exact t1)
  unfold F_last
  rw [ST_sum h (by omega), ob1_s, e1]
  dsimp only
  rw [V_day h.1 h.2.1, if_pos rfl, show (2 : Int32) = nI 2 from rfl, e2, fdR_l, ob1_s]
  dsimp only
  rw [if_neg (days_p h.2.1 2 (by decide) (by omega)), e3, okI_l, ob1_s]
  dsimp only
  rw [if_pos rfl, ST_sum h3 (by omega), ob1_s, if_pos rfl, V_undo0 h3 rfl, fdR_1, ob1_s, if_pos rfl]
