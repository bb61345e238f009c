/-! ===== the states before ===== -/
def psh (L : List AS) (A : AS) : List AS := if L.length = 8 then L.eraseIdx 0 ++ [A] else L ++ [A]
theorem psh_len {L : List AS} {A : AS} (h : L.length ≤ 8) : (psh L A).length = if L.length = 8 then 8 else L.length + 1 := by
  unfold psh
  by_cases c : L.length = 8
  · rw [if_pos c, if_pos c, List.length_append, List.length_eraseIdx, c]; rfl
  · rw [if_neg c, if_neg c, List.length_append]; rfl
theorem psh_mem {L : List AS} {A B : AS} (h : B ∈ psh L A) : B ∈ L ∨ B = A := by
  unfold psh at h
  split at h
  · rcases List.mem_append.mp h with q | q
    · exact Or.inl (List.mem_of_mem_eraseIdx q)
    · exact Or.inr (List.mem_singleton.mp q)
  · rcases List.mem_append.mp h with q | q
    · exact Or.inl q
    · exact Or.inr (List.mem_singleton.mp q)
theorem psh_8 {L : List AS} {A : AS} (h : L.length = 8) (i : Nat) : (psh L A).getD i A0 = if i < 7 then L.getD (i + 1) A0 else [A].getD (i - 7) A0 := by
  unfold psh
  rw [if_pos h, gD_app, List.length_eraseIdx, h, gD_del, if_neg (Nat.not_lt_zero i)]
  rfl
theorem psh_n {L : List AS} {A : AS} (h : L.length ≠ 8) (i : Nat) : (psh L A).getD i A0 = if i < L.length then L.getD i A0 else [A].getD (i - L.length) A0 := by
  unfold psh
  rw [if_neg h, gD_app]
theorem C_remember {A : AS} {T : Nat} {L : List AS} {S : SS} (hC : RC A (S 0)) (hI : Inv A T) (hH : CH L S) : ∃ S', F_X6_remember 0 S = some S' ∧ CH (psh L A) S' ∧ (∀ j, j < 3 → S' j = S j) ∧ ∀ p, p ≠ 7 → S' 11 p = S 11 p := by
  obtain ⟨h8, x, hx, q1, q2, q3⟩ := hH
  obtain ⟨c1, c2⟩ := C_copy (j := 3 + x) (j2 := 0) (by omega) hC hI
  have e11 : F_X5_copyFrom (3 + x) 0 S 11 = S 11 := c2 11 (by omega)
  generalize hS9 : F_X5_copyFrom (3 + x) 0 S = S9 at c1 c2 e11
  have hr : F_X6_remember 0 S = some (up S9 11 (up (S 11) 7 (sS (sS (S 11 7) 1 (nI ((x + 1) % 8))) 2 (nI (if L.length = 8 then 8 else L.length + 1))))) := by
    unfold F_X6_remember
    rw [q1, if_pos (by rw [Z_vpb (by omega)]; exact hx), nI_clamp (by omega), lt_d, hS9, lt_d]
    simp only [e11, q1, L1, L8, Z_add]
    have hz : (nI 8 ≤ nI (x + 1)) = (8 ≤ x + 1) := Z_le (by omega) (by omega)
    have hl : (nI 8 ≤ nI L.length) = (8 ≤ L.length) := Z_le (by omega) (by omega)
    have n2 : ∀ v : Int32, (sS (S 11 7) 1 v).1 2 = nI L.length := fun v => by rw [sS_1n (by decide)]; exact q2
    by_cases c : 8 ≤ x + 1
    · rw [if_pos (by rw [hz]; exact c)]
      have ex : (x + 1) % 8 = 0 := by omega
      simp only [lt_d, up_s, up_up, n2, ex, Z_add, L0]
      by_cases c2 : 8 ≤ L.length
      · rw [if_pos (by rw [hl]; exact c2), if_pos (by omega), show L.length = 8 by omega]
      · rw [if_neg (by rw [hl]; exact c2), if_neg (by omega)]
    · rw [if_neg (by rw [hz]; exact c)]
      have ex : (x + 1) % 8 = x + 1 := by omega
      simp only [lt_d, up_s, up_up, n2, ex, Z_add]
      by_cases c2 : 8 ≤ L.length
      · rw [if_pos (by rw [hl]; exact c2), if_pos (by omega), show L.length = 8 by omega]
      · rw [if_neg (by rw [hl]; exact c2), if_neg (by omega)]
  refine ⟨_, hr, ?_, fun j hj => ?_, fun p hp => ?_⟩
  · have hlen := psh_len (A := A) h8
    refine ⟨by rw [hlen]; split <;> omega, (x + 1) % 8, Nat.mod_lt _ (by decide), ?_, ?_, fun i hi => ?_⟩
    · rw [up_s, up_s, sS_1n (by decide), sS_1]
    · rw [up_s, up_s, sS_1, hlen]
    · have hlt := Nat.mod_lt ((x + 1) % 8 + 8 - (psh L A).length + i) (show 0 < 8 by decide)
      rw [up_n (by omega)]
      by_cases c : L.length = 8
      · rw [hlen, if_pos c] at hi ⊢
        rw [psh_8 c]
        by_cases c3 : i < 7
        · rw [if_pos c3]
          have := q3 (i + 1) (by omega)
          rw [show ((x + 1) % 8 + 8 - 8 + i) % 8 = (x + 8 - L.length + (i + 1)) % 8 by omega]
          rw [c2 _ (by omega)]
          exact this
        · rw [if_neg c3, show i - 7 = 0 by omega, show ((x + 1) % 8 + 8 - 8 + i) % 8 = x by omega]
          exact c1
      · rw [hlen, if_neg c] at hi ⊢
        rw [psh_n c]
        by_cases c3 : i < L.length
        · rw [if_pos c3]
          have := q3 i c3
          rw [show ((x + 1) % 8 + 8 - (L.length + 1) + i) % 8 = (x + 8 - L.length + i) % 8 by omega]
          rw [c2 _ (by omega)]
          exact this
        · rw [if_neg c3, show i - L.length = 0 by omega, show ((x + 1) % 8 + 8 - (L.length + 1) + i) % 8 = x by omega]
          exact c1
  · rw [up_n (by omega)]
    exact c2 j (by omega)
  · rw [up_s, up_n hp]
/-- of two lists that stand beside each other -/
theorem RLh_get {S : SS} {τ : HV} {T : Nat} (h : LR S τ T) : ∃ L, CH L S ∧ MH L τ ∧ ∀ B ∈ L, Inv B T := h.2.2.1
/-! ===== taking back, saving ===== -/
