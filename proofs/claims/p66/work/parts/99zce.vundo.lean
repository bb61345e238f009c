/-! ===== vundo: the whole state of the class in the rounds; taking back ===== -/
/-- the hedge is A, the history L; the buffer is empty -/
def ST (S : SS) (A : AS) (L : List AS) (T : Nat) : Prop := RC A (S 0) ∧ Inv A T ∧ Jk A ∧ CH L S ∧ (∀ B ∈ L, Inv B T ∧ Jk B) ∧ (S 11 4).1 1 = nI 0
theorem ST_up {S : SS} {A : AS} {L : List AS} {T T' : Nat} (h : ST S A L T) (hT : T ≤ T') (h2 : T' < 2 ^ 20) : ST S A L T' := ⟨h.1, Inv_up h.2.1 hT h2, h.2.2.1, h.2.2.2.1, fun B hB => ⟨Inv_up (h.2.2.2.2.1 B hB).1 hT h2, (h.2.2.2.2.1 B hB).2⟩, h.2.2.2.2.2⟩
theorem ST_stands {S : SS} {A : AS} {L : List AS} {T N : Nat} (h : ST S A L T) (hN : 400 < N) : F_L_stands N S = some true := VL_stands h.1 h.2.1 (Jk_v h.2.2.1) hN
theorem ST_sum {S : SS} {A : AS} {L : List AS} {T N : Nat} (h : ST S A L T) (hN : 400 < N) : F_L_sum N S = some (sumA A) := VL_sum h.1 h.2.1 hN
theorem V_undo0 {S : SS} {A : AS} {L : List AS} {T : Nat} (h : ST S A L T) (hL : L = []) : F_X10_undo S = some (.inr (1, S)) := by
  obtain ⟨-, -, -, ⟨h8, x, hx, q1, q2, q3⟩, -⟩ := h
  unfold F_X10_undo
  rw [q2, hL, if_pos (by decide)]
theorem V_undo {S : SS} {A : AS} {L : List AS} {T : Nat} (h : ST S A L T) (c : L.length ≠ 0) : ∃ S3, F_X10_undo S = some (.inl (nI (L.length - 1), S3)) ∧ ST S3 (L.getD (L.length - 1) A0) L.dropLast T := by
  obtain ⟨hC, hI, hJ, ⟨h8, x, hx, q1, q2, q3⟩, hL3, ht⟩ := h
  unfold F_X10_undo
  rw [q2]
  have hx' : ∃ x', x' < 8 ∧ (x' + 1) % 8 = x ∧ nI x' = if nI x ≤ 0 then 7 else nI x - 1 := by
    by_cases c0 : x = 0
    · subst c0
      exact ⟨7, by decide, by decide, by decide⟩
    · refine ⟨x - 1, by omega, by omega, ?_⟩
      rw [if_neg (by rw [L0, Z_le (by omega) (by omega)]; omega), L1, Z_sub (by omega)]
  obtain ⟨x', hx1, hx2, hx3⟩ := hx'
  have hne : L.length - 1 < L.length := by omega
  have hlast := q3 (L.length - 1) hne
  have hIl := hL3 _ (gD_mem (d := A0) hne)
  rw [show (x + 8 - L.length + (L.length - 1)) % 8 = x' by omega] at hlast
  have hS2 : ∀ S2 : SS, S2 = up S 11 (up (S 11) 7 (sS (sS (S 11 7) 1 (nI x')) 2 (nI (L.length - 1)))) → RC (L.getD (L.length - 1) A0) (S2 (3 + x')) := fun S2 e => by
    rw [e, up_n (by omega)]; exact hlast
  obtain ⟨c1, c2⟩ := C_copy (j := 0) (j2 := 3 + x') (by omega) (hS2 _ rfl) hIl.1
  have hr : F_X6_takeBack 0 S = some (F_X5_copyFrom 0 (3 + x') (up S 11 (up (S 11) 7 (sS (sS (S 11 7) 1 (nI x')) 2 (nI (L.length - 1)))))) := by
    unfold F_X6_takeBack
    rw [q1]
    have n2 : ∀ v : Int32, (sS (S 11 7) 1 v).1 2 = nI L.length := fun v => by rw [sS_1n (by decide)]; exact q2
    have n1 : ∀ v w : Int32, (sS (sS (S 11 7) 1 v) 2 w).1 1 = v := fun v w => by rw [sS_1n (by decide), sS_1]
    by_cases c0 : nI x ≤ 0
    · rw [if_pos c0] at hx3 ⊢
      simp (disch := omega) only [lt_d, up_s, up_up, n2, L1, Z_sub, ← hx3, n1]
      rw [if_pos (by rw [Z_vpb (by omega)]; exact hx1), nI_clamp (by omega)]
    · rw [if_neg c0] at hx3 ⊢
      simp (disch := omega) only [lt_d, up_s, up_up, n2, ← hx3, n1]
      rw [if_pos (by rw [Z_vpb (by omega)]; exact hx1), nI_clamp (by omega), L1, Z_sub (by omega)]
  generalize hS3 : F_X5_copyFrom 0 (3 + x') (up S 11 (up (S 11) 7 (sS (sS (S 11 7) 1 (nI x')) 2 (nI (L.length - 1))))) = S3 at c1 c2 hr
  have e11 : S3 11 = up (S 11) 7 (sS (sS (S 11 7) 1 (nI x')) 2 (nI (L.length - 1))) := by rw [c2 11 (by decide), up_s]
  have eo : ∀ j, j ≠ 0 → j ≠ 11 → S3 j = S j := fun j h1 h2 => by rw [c2 j h1, up_n h2]
  refine ⟨S3, ?_, c1, hIl.1, hIl.2, ⟨by rw [List.length_dropLast]; omega, x', hx1, ?_, ?_, fun i hi => ?_⟩, fun B hB => hL3 B (List.dropLast_subset L hB), ?_⟩
  · rw [if_neg (by rw [L0, Z_eq (by omega) (by omega)]; exact c), hr, ob1_s, e11, up_s, sS_1]
  · rw [e11, up_s, sS_1n (by decide), sS_1]
  · rw [e11, up_s, sS_1, List.length_dropLast]
  · rw [List.length_dropLast] at hi ⊢
    have hlt := Nat.mod_lt (x' + 8 - (L.length - 1) + i) (show 0 < 8 by decide)
    have := q3 i (by omega)
    rw [eo _ (by omega) (by omega), show (x' + 8 - (L.length - 1) + i) % 8 = (x + 8 - L.length + i) % 8 by omega]
    rw [List.getD_eq_getElem?_getD, List.getElem?_dropLast, if_pos (by omega), ← List.getD_eq_getElem?_getD]
    exact this
  · rw [e11, up_n (by decide)]
    exact ht
/-- an operation: the state before it is kept, the hedge is then B -/
theorem V_hand {S : SS} {A : AS} {L : List AS} {T : Nat} (h : ST S A L T) : ∃ S4, F_X6_remember 0 S = some S4 ∧ S4 0 = S 0 ∧ (∀ p, p ≠ 7 → S4 11 p = S 11 p) ∧ ∀ (S' : SS) (B : AS) (T' : Nat), T ≤ T' → Inv B T' → Jk B → RC B (S' 0) → (∀ j, j ≠ 0 → j ≠ 1 → S' j = S4 j) → ST S' B (psh L A) T' := by
  obtain ⟨hC, hI, hJ, hH, hL3, ht⟩ := h
  obtain ⟨S4, e4, c4, f4, g4⟩ := C_remember hC hI hH
  refine ⟨S4, e4, f4 0 (by decide), g4, fun S' B T' hT iB jB rB o => ⟨rB, iB, jB, CH_e c4 (by rw [o 11 (by decide) (by decide)]) (fun j h1 h2 => o j (by omega) (by omega)), fun B' hB' => ?_, ?_⟩⟩
  · rcases psh_mem hB' with q | q
    · exact ⟨Inv_up (hL3 B' q).1 hT iB.1, (hL3 B' q).2⟩
    · rw [q]; exact ⟨Inv_up hI hT iB.1, hJ⟩
  · rw [o 11 (by decide) (by decide), g4 4 (by decide)]
    exact ht
