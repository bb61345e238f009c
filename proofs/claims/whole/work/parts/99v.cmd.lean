/-! ===== a text of commands: one command read ===== -/
noncomputable def kdF (B : Nat → Nat) (n p : Nat) : Option Nat := fstF (fun i => isW B n p (sTx (38 + i))) 8 0
theorem kdF_lt {B : Nat → Nat} {n p k : Nat} (h : kdF B n p = some k) : k < 8 ∧ tK B n p = 1 := by
  have h2 := fstF_some h
  exact ⟨by omega, (isW_t.mp h2.2.2.1).1⟩
theorem cfW_i {i : Nat} (h : i < 8) : cfW.getD i 0 = 38 + i := by
  match i, h with
  | 0, _ => rfl
  | 1, _ => rfl
  | 2, _ => rfl
  | 3, _ => rfl
  | 4, _ => rfl
  | 5, _ => rfl
  | 6, _ => rfl
  | 7, _ => rfl
theorem C_kd {B : Nat → Nat} {n p N : Nat} {g g' : HV} (h : CB B n g) (hp : p ≤ n) (k : CK B n p g g') (hN : 900 < N) : F_X2_formNamedBy N g' = some (match kdF B n p with
    | some k => nI (k + 1)
    | none => nI 0) := by
  unfold F_X2_formNamedBy kdF
  have key := lp_fst (f := fun i => st_X2_formNamedBy N i g') (p := fun i => isW B n p (sTx (38 + i))) (x := fun j => nI j) (r := fun k => nI (k + 1)) (r0 := nI 0) (n := 8) (i := 0) (N := N) (by omega) (fun j h1 h2 h3 => ?_) (fun j h1 h2 h3 => ?_) ?_
  · exact key
  · show st_X2_formNamedBy N (nI j) g' = _
    unfold st_X2_formNamedBy
    have hl : (sTx (38 + j)).length ≤ 12 := by
      have : ∀ j : Fin 8, (sTx (38 + j.val)).length ≤ 12 := by decide
      exact this ⟨j, by omega⟩
    rw [if_neg (by rw [Z_le (by omega) (by omega)]; omega), if_pos (by rw [Z_vpb (by omega)]; omega), nI_clamp (by omega), cfW_i (by omega), C_isW h hp k hl hN, ob1_s, h3, if_pos rfl, L1, Z_add]
  · show st_X2_formNamedBy N (nI j) g' = _
    unfold st_X2_formNamedBy
    have hl : (sTx (38 + j)).length ≤ 12 := by
      have : ∀ j : Fin 8, (sTx (38 + j.val)).length ≤ 12 := by decide
      exact this ⟨j, by omega⟩
    rw [if_neg (by rw [Z_le (by omega) (by omega)]; omega), if_pos (by rw [Z_vpb (by omega)]; omega), nI_clamp (by omega), cfW_i (by omega), C_isW h hp k hl hN, ob1_s, h3, if_neg Bool.false_ne_true, L1, Z_add]
  · show st_X2_formNamedBy N (nI (0 + 8)) g' = _
    unfold st_X2_formNamedBy
    rw [if_pos (by decide)]
    rfl
theorem sx_38 : sTx 38 = sTx 32 := by decide
theorem sx_39 : sTx 39 = sTx 33 := by decide
theorem sx_40 : sTx 40 = sTx 34 := by decide
theorem sx_41 : sTx 41 = sTx 30 := by decide
theorem sx_42 : sTx 42 = sTx 31 := by decide
theorem sx_43 : sTx 43 = sTx 35 := by decide
theorem sx_44 : sTx 44 = sTx 36 := by decide
theorem sx_45 : sTx 45 = sTx 37 := by decide
theorem M_kd {B : Nat → Nat} {n p N : Nat} {t : HV} (h : MB B n t) (hp : p ≤ n) (h15 : t.1 15 = 0) (hN : 900 < N) : F_X11_commandHere N (nxT B n p t) = some (oI (kdF B n p), nxT B n p t) := by
  have hs : ∀ sx, 0 < (sTx sx).length → (sTx sx).length ≤ 12 → F_X11_sees N sx (nxT B n p t) = some (isW B n p (sTx sx), nxT B n p t) := fun sx a b => M_sees_i h hp h15 a b hN
  unfold F_X11_commandHere F_X11_otherCommand kdF
  rw [hs 32 (by decide) (by decide), ob_s, hs 33 (by decide) (by decide), ob_s, hs 34 (by decide) (by decide), ob_s, hs 30 (by decide) (by decide), ob_s, hs 31 (by decide) (by decide), ob_s, hs 35 (by decide) (by decide), ob_s, hs 36 (by decide) (by decide), ob_s, hs 37 (by decide) (by decide), ob_s]
  show _ = some (oI (fstF (fun i => isW B n p (sTx (38 + i))) 8 0), _)
  unfold fstF fstF fstF fstF fstF fstF fstF fstF fstF
  simp only [Nat.add_zero, Nat.zero_add, Nat.reduceAdd, sx_38, sx_39, sx_40, sx_41, sx_42, sx_43, sx_44, sx_45]
  by_cases c0 : isW B n p (sTx 32) = true
  · rw [if_pos c0, if_pos c0]; rfl
  · rw [if_neg c0, if_neg c0]
    by_cases c1 : isW B n p (sTx 33) = true
    · rw [if_pos c1, if_pos c1]; rfl
    · rw [if_neg c1, if_neg c1]
      by_cases c2 : isW B n p (sTx 34) = true
      · rw [if_pos c2, if_pos c2]; rfl
      · rw [if_neg c2, if_neg c2]
        by_cases c3 : isW B n p (sTx 30) = true
        · rw [if_pos c3, if_pos c3]; rfl
        · rw [if_neg c3, if_neg c3]
          by_cases c4 : isW B n p (sTx 31) = true
          · rw [if_pos c4, if_pos c4]; rfl
          · rw [if_neg c4, if_neg c4]
            by_cases c5 : isW B n p (sTx 35) = true
            · rw [if_pos c5, if_pos c5]; rfl
            · rw [if_neg c5, if_neg c5]
              by_cases c6 : isW B n p (sTx 36) = true
              · rw [if_pos c6, if_pos c6]; rfl
              · rw [if_neg c6, if_neg c6]
                by_cases c7 : isW B n p (sTx 37) = true
                · rw [if_pos c7, if_pos c7]; rfl
                · rw [if_neg c7, if_neg c7]; rfl
