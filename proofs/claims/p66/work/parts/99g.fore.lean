/-! ===== forecasts ===== -/
theorem LR_mk {S S' : SS} {τ τ' : HV} {T T' : Nat} (h : LR S τ T) (hT : T ≤ T') (h2 : T' < 2 ^ 20) {A : AS} (hA : RS A T' (S' 0) (τ'.2 0)) (eS : ∀ j, j ≠ 0 → j ≠ 1 → S' j = S j) (e1 : ∀ i, i = 5 ∨ i = 7 ∨ i = 11 ∨ i = 17 ∨ i = 18 ∨ i = 22 → τ'.1 i = τ.1 i) (e2 : ∀ a, a = 1 ∨ a = 4 ∨ a = 10 ∨ a = 21 → τ'.2 a = τ.2 a) : LR S' τ' T' := by
  obtain ⟨_, hs, hh, ht, ho⟩ := h
  have e11 := eS 11 (by decide) (by decide)
  exact ⟨⟨A, hA⟩, RLs_e hs hT h2 (by rw [e11]) (eS 2 (by decide) (by decide)) (e1 7 (by omega)) (e2 1 (by omega)), RLh_e hh hT h2 (by rw [e11]) (fun j h1 _ => eS j (by omega) (by omega)) (e1 5 (by omega)) (e2 4 (by omega)), RLt_e ht (by rw [e11]) (e1 11 (by omega)) (e2 10 (by omega)) (e1 17 (by omega)) (e1 18 (by omega)), RLo_e ho (by rw [e11]) (by rw [e11]) (e1 22 (by omega)) (e2 21 (by omega))⟩
theorem sA_co {t : HV} {a b : Nat} {r r' : Nat → Int32} (h : a ≠ b) : sA (sA t a r) b r' = sA (sA t b r') a r := by
  unfold sA
  rw [up_co h]
theorem laid_k {s s' r : Nat → Int32} {k : Nat} (hk : k < 760) : va_cpy (va_cpy s r 0 0 760) s' 0 0 760 k = s k := by
  rw [pk_cpy_in (by omega) (by omega), pk_cpy_in (by omega) (by omega)]
  congr 1
  omega
/-- what a forecast leaves -/
theorem fore_LR {S S' : SS} {t : HV} {s r s' : Nat → Int32} {T : Nat} {A : AS} (h : LR S (sA t 0 s) T) (hC : RC A (S 0)) (hM : RM A s) (hI : Inv A T) (hT : T < 2 ^ 20) (eS : ∀ j, j ≠ 1 → S' j = S j) : LR S' (sA (sA (sS t 6 0) 3 (va_cpy s r 0 0 760)) 0 (va_cpy (va_cpy s r 0 0 760) s' 0 0 760)) T := by
  refine LR_mk (A := A) h (Nat.le_refl _) hT ⟨?_, ?_, hI⟩ (fun j _ hj => eS j hj) (fun i hi => ?_) (fun a ha => ?_)
  · rw [eS 0 (by decide)]; exact hC
  · rw [sA2s]
    exact RM_eq hM hI (fun k hk => laid_k hk)
  · show (sS t 6 0).1 i = t.1 i
    exact sS_1n (by omega)
  · rw [sA_2n (by omega), sA_2n (by omega), sA_2n (by omega)]
    rfl
