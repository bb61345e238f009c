/-! ===== the calls that look on ===== -/
theorem rng_c (x : Int32) {a b : Nat} (hb : b < 2 ^ 30) (hab : a ≤ b) : (decide (nI a ≤ x ∧ x ≤ nI b) = false ∧ (x < nI a ∨ (¬ x < nI a ∧ ¬ x ≤ nI b))) ∨ ∃ k, a ≤ k ∧ k ≤ b ∧ x = nI k ∧ decide (nI a ≤ x ∧ x ≤ nI b) = true := by
  rcases pk_ix x (n := b + 1) (by omega) with c | c | ⟨k, hk, rfl⟩
  · refine Or.inl ⟨?_, Or.inl ?_⟩
    · rw [decide_eq_false_iff_not]
      exact fun q => Z_ge0 c a (by omega) q.1
    · rw [Int32.lt_iff_toInt_lt] at c ⊢
      have e0 : (0 : Int32).toInt = 0 := by decide
      rw [nI_toInt (by omega)]
      omega
  · have h2 : ¬ x ≤ nI b := Z_up (n := b + 1) (by omega) (by omega) c
    refine Or.inl ⟨?_, Or.inr ⟨?_, h2⟩⟩
    · rw [decide_eq_false_iff_not]
      exact fun q => h2 q.2
    · intro h3
      apply h2
      rw [Int32.lt_iff_toInt_lt, nI_toInt (by omega)] at h3
      rw [Int32.le_iff_toInt_le, nI_toInt (by omega)]
      omega
  · by_cases c : a ≤ k
    · refine Or.inr ⟨k, c, by omega, rfl, ?_⟩
      rw [decide_eq_true_eq, Z_le (by omega) (by omega), Z_le (by omega) (by omega)]
      omega
    · refine Or.inl ⟨?_, Or.inl ?_⟩
      · rw [decide_eq_false_iff_not, Z_le (by omega) (by omega)]
        omega
      · rw [Z_lt (by omega) (by omega)]
        omega
theorem C_letterOf {A : AS} {u : HV} {g : Nat} (hG : RG A g u) (h8 : (Hq A g).length ≤ 8) (hw : ∀ k, k < (Hq A g).length → ((Hq A g).getD k []).length ≤ 12) : (∀ x y : Int32, (x < 0 ∨ nI (Hq A g).length ≤ x) → F_X4_letterOf x y u = -1) ∧ (∀ m, ∀ y : Int32, m < (Hq A g).length → (y < 0 ∨ nI ((Hq A g).getD m []).length ≤ y) → F_X4_letterOf (nI m) y u = -1) ∧ ∀ m i, m < (Hq A g).length → i < ((Hq A g).getD m []).length → F_X4_letterOf (nI m) (nI i) u = nI (((Hq A g).getD m []).getD i 0) := by
  have h0 : ∀ y : Int32, ¬ y < 0 → (0 : Int32) ≤ y := fun y hy => by
    rw [Int32.le_iff_toInt_le]
    rw [Int32.lt_iff_toInt_lt] at hy
    omega
  refine ⟨fun x y hx => ?_, fun m y hm hy => ?_, fun m i hm hi => ?_⟩
  · have hp : F_X4_hasPending x u = false := by
      unfold F_X4_hasPending
      rw [hG.2.2.1]
      rcases hx with c | c
      · rw [if_pos c]
      · rw [if_pos c]; split <;> rfl
    unfold F_X4_letterOf F_X4_lengthOf
    rw [hp, if_neg Bool.false_ne_true]
    by_cases c3 : y < 0
    · rw [if_pos c3]
    · rw [if_neg c3, if_pos (h0 y c3)]
  · unfold F_X4_letterOf
    rw [C_lengthOf hG h8 (by omega)]
    rcases hy with c | c
    · rw [if_pos c]
    · rw [if_pos c]; split <;> rfl
  · have hl := hw m hm
    unfold F_X4_letterOf
    rw [C_lengthOf hG h8 (by omega), if_neg (nI_pos (by omega)), if_neg (by rw [Z_le (by omega) (by omega)]; omega), L12, Z_mul, Z_add, Z_rget (by omega) (by decide), if_pos (by omega), show m * 12 + i = 12 * m + i by omega, hG.2.2.2.2 m i hm hi]
