/-! ===== sending the word of the buffer ===== -/
def bwB (B : Nat → Nat) (n i : Nat) : Bool := decide (1 ≤ n ∧ n ≤ 12 ∧ ∀ j, j < i → isL (B j) = true)
theorem bwB_t {B : Nat → Nat} {n i : Nat} : (bwB B n i = true) ↔ (1 ≤ n ∧ n ≤ 12 ∧ ∀ j, j < i → isL (B j) = true) := by
  unfold bwB
  exact decide_eq_true_iff
theorem bwB_f {B : Nat → Nat} {n i : Nat} (h : ¬ (1 ≤ n ∧ n ≤ 12 ∧ ∀ j, j < i → isL (B j) = true)) : bwB B n i = false := by
  cases c : bwB B n i with
  | false => rfl
  | true => exact absurd (bwB_t.mp c) h
theorem C_oneWord {B : Nat → Nat} {n N : Nat} {g : HV} (h : CB B n g) (hN : 900 < N) : F_X9_isOneWord N g = some (bwB B n n) := by
  have h800 := h.1
  unfold F_X9_isOneWord
  rw [h.2.2]
  by_cases c1 : n < 1
  · rw [if_pos (show nI n < 1 by rw [L1, Z_lt (by omega) (by omega)]; exact c1), bwB_f (fun q => by omega)]
  · rw [if_neg (show ¬ nI n < 1 by rw [L1, Z_lt (by omega) (by omega)]; exact c1)]
    by_cases c2 : n ≤ 12
    · rw [if_pos (show nI n ≤ 12 by rw [L12, Z_le (by omega) (by omega)]; exact c2)]
      have key : ∃ r, lpN N (fun z => st_X9_isOneWord_21 N z g) 0 = some r ∧ r = bwB B n n := by
        refine lpN_upx (fun i x => x = nI i ∧ ∀ j, j < i → isL (B j) = true) _ (n := n) (by omega) ⟨rfl, fun j hj => absurd hj (Nat.not_lt_zero j)⟩ (fun i x hi hP => ?_) (fun x hP => ?_)
        · obtain ⟨rfl, hP⟩ := hP
          show (∃ y, st_X9_isOneWord_21 N (nI i) g = _ ∧ _) ∨ ∃ r, st_X9_isOneWord_21 N (nI i) g = _ ∧ _
          unfold st_X9_isOneWord_21
          rw [h.2.2, if_neg (by rw [Z_le (by omega) (by omega)]; omega), CB_get h hi, Z_isL (h.2.1 i hi).1]
          cases c : isL (B i) with
          | true =>
            rw [if_pos rfl, L1, Z_add]
            exact Or.inl ⟨_, rfl, rfl, fun j hj => by
              by_cases e : j = i
              · rw [e]; exact c
              · exact hP j (by omega)⟩
          | false =>
            rw [if_neg Bool.false_ne_true]
            exact Or.inr ⟨_, rfl, (bwB_f (fun q => by rw [q.2.2 i hi] at c; cases c)).symm⟩
        · obtain ⟨rfl, hP⟩ := hP
          refine ⟨true, ?_, (bwB_t.mpr ⟨by omega, c2, hP⟩).symm⟩
          show st_X9_isOneWord_21 N (nI n) g = _
          unfold st_X9_isOneWord_21
          rw [h.2.2, if_pos (by rw [Z_le (by omega) (by omega)]; omega)]
      obtain ⟨r, e, rfl⟩ := key
      exact e
    · rw [if_neg (show ¬ nI n ≤ 12 by rw [L12, Z_le (by omega) (by omega)]; exact c2), bwB_f (fun q => c2 q.2.1)]
/-- the bytes that both hold -/
theorem RLt_B {S : SS} {τ : HV} (h : RLt S τ) : ∃ n B, CB B n (S 11 4) ∧ MB B n τ ∧ τ.1 17 = (S 11 4).1 7 ∧ τ.1 18 = (S 11 4).1 8 := by
  obtain ⟨n, hn, q1, q2, q3, q4, q5⟩ := h
  refine ⟨n, fun k => if hk : k < n then (q3 k hk).choose else 0, ⟨hn, fun k hk => ?_, q1⟩, ⟨hn, fun k hk => ?_, q2⟩, q4, q5⟩
  · have := (q3 k hk).choose_spec
    simp only [hk, dite_true]
    exact ⟨this.1, this.2.1⟩
  · have := (q3 k hk).choose_spec
    simp only [hk, dite_true]
    exact ⟨this.1, this.2.2⟩
