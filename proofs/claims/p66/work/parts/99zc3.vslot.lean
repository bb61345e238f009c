/-! ===== vslot: each slot's reasons fit ===== -/
theorem VL_prot {A : AS} {T : Nat} {S : SS} (hC : RC A (S 0)) (hI : Inv A T) {N k : Nat} (hN : 400 < N) (hk : k < Hn A 0) : F_L_isProtected N (nI k) S = some (decide (grd (Hr A) k)) := by
  obtain ⟨h4, h40⟩ := hI.2.1.1
  have hz : Hr A 3 (Hn A 0) = 0 := (Inv_s hI (Nat.le_refl _)).2.1
  have hst : (if 0 < nI k - 1 then nI k - 1 else 0) = nI (k - 1) := Z_dec (by omega)
  have hhi : (if nI k + 1 < F_X10_slotCount S - 1 then nI k + 1 else F_X10_slotCount S - 1) = nI (min (k + 1) (Hn A 0 - 1)) := by
    rw [V_slotCount hC hI, nI_s, L1, Z_sub (by omega)]
    by_cases c : k + 1 < Hn A 0 - 1
    · rw [if_pos (by rw [Z_lt (by omega) (by omega)]; exact c), Nat.min_eq_left (by omega)]
    · rw [if_neg (by rw [Z_lt (by omega) (by omega)]; exact c), Nat.min_eq_right (by omega)]
  obtain ⟨m, hm⟩ : ∃ m, m = min (k + 1) (Hn A 0 - 1) := ⟨_, rfl⟩
  have hm1 : m ≤ k + 1 := by omega
  have hm2 : m < Hn A 0 := by omega
  have hm3 : k ≤ m := by omega
  have hgr : grd (Hr A) k ↔ ∃ j, k - 1 ≤ j ∧ j ≤ m ∧ 0 < Hr A 3 j := by
    constructor
    · rintro (⟨h1, h2⟩ | h1 | h1)
      · exact ⟨k - 1, Nat.le_refl _, by omega, h2⟩
      · exact ⟨k, by omega, hm3, h1⟩
      · refine ⟨k + 1, by omega, ?_, h1⟩
        by_cases e : k + 1 = Hn A 0
        · rw [e, hz] at h1
          omega
        · omega
    · rintro ⟨j, h1, h2, h3⟩
      rcases (show (0 < k ∧ j = k - 1) ∨ j = k ∨ j = k + 1 by omega) with ⟨h5, rfl⟩ | rfl | rfl
      · exact Or.inl ⟨h5, h3⟩
      · exact Or.inr (Or.inl h3)
      · exact Or.inr (Or.inr h3)
  unfold F_L_isProtected
  rw [hst]
  have key := lpN_upx (f := fun z => st_L_isProtected_8 N (nI k) z S) (fun i x => x = nI (k - 1 + i) ∧ ∀ j, k - 1 ≤ j → j < k - 1 + i → Hr A 3 j = 0) (fun r => (r = .inl () ∧ ¬ grd (Hr A) k) ∨ (r = .inr true ∧ grd (Hr A) k)) (n := m + 1 - (k - 1)) (N := N) (x0 := nI (k - 1)) (by omega) ⟨rfl, fun j h1 h2 => absurd h1 (by omega)⟩ (fun i x hi hP => ?_) (fun x hP => ?_)
  · obtain ⟨r, e, hr⟩ := key
    rw [e]
    rcases hr with ⟨rfl, h⟩ | ⟨rfl, h⟩
    · show some false = _
      rw [decide_eq_false h]
    · show some true = _
      rw [decide_eq_true h]
  · obtain ⟨rfl, hP⟩ := hP
    show (∃ y, st_L_isProtected_8 N (nI k) (nI (k - 1 + i)) S = _ ∧ _) ∨ ∃ r, st_L_isProtected_8 N (nI k) (nI (k - 1 + i)) S = _ ∧ _
    unfold st_L_isProtected_8
    rw [hhi, ← hm, if_neg (show ¬ nI m < nI (k - 1 + i) by rw [Z_lt (by omega) (by omega)]; omega), V_nestDays hC hI (by omega), ob1_s]
    have hb := Inv_b hI (a := 3) (k - 1 + i) (by decide)
    by_cases c : Hr A 3 (k - 1 + i) = 0
    · refine Or.inl ⟨_, if_pos (by rw [c]; decide), nI_s _, fun j h1 h2 => ?_⟩
      by_cases e : j = k - 1 + i
      · rw [e]; exact c
      · exact hP j h1 (by omega)
    · exact Or.inr ⟨_, if_neg (by rw [L0, Z_le (by omega) (by decide)]; omega), Or.inr ⟨rfl, hgr.mpr ⟨k - 1 + i, Nat.le_add_right _ _, by omega, by omega⟩⟩⟩
  · obtain ⟨rfl, hP⟩ := hP
    refine ⟨_, ?_, Or.inl ⟨rfl, fun h => ?_⟩⟩
    · show st_L_isProtected_8 N (nI k) (nI (k - 1 + (m + 1 - (k - 1)))) S = _
      unfold st_L_isProtected_8
      rw [hhi, ← hm, if_pos (by rw [Z_lt (by omega) (by omega)]; omega)]
    · obtain ⟨j, h1, h2, h3⟩ := hgr.mp h
      have := hP j h1 (by omega)
      omega
theorem VL_keep {A : AS} {T : Nat} {S : SS} (hC : RC A (S 0)) (hI : Inv A T) {N k : Nat} (hN : 400 < N) (hk : k < Hn A 0) : F_L_keep N (nI k) S = some (if 0 < Hr A 2 k then nI (keepR (Hr A) (Hn A 3) k) else -9) := by
  unfold F_L_keep
  rw [V_keepReason hC hI hk, ob1_s, VL_prot hC hI hN hk, ob1_s]
  unfold keepR
  by_cases c1 : 0 < Hr A 2 k
  · by_cases c2 : Hn A 3 < Hr A 2 k
    · by_cases c3 : grd (Hr A) k
      · rw [if_pos c1, if_pos c2, if_pos c3, if_pos c1, decide_eq_true c3]; rfl
      · rw [if_pos c1, if_pos c2, if_neg c3, if_pos c1, decide_eq_false c3]; rfl
    · rw [if_pos c1, if_neg c2, if_pos c1]; rfl
  · rw [if_neg c1, if_neg c1]
    by_cases c3 : grd (Hr A) k
    · rw [decide_eq_true c3]; rfl
    · rw [decide_eq_false c3]; rfl
set_option maxHeartbeats 4000000 in
theorem VL_isSlot {A : AS} {T : Nat} {S : SS} (hC : RC A (S 0)) (hI : Inv A T) {N k : Nat} (hN : 400 < N) (hk : k < Hn A 0) : F_L_isSlot N (nI k) S = some true := by
  have h40 := hI.2.1.1.2
  have h7 := hI.2.1.2.2.2.2.2.2.2
  have b0 := Inv_b hI (a := 0) k (by decide)
  have b1 := Inv_b hI (a := 1) k (by decide)
  have b2 := Inv_b hI (a := 2) k (by decide)
  have b3 := Inv_b hI (a := 3) k (by decide)
  have m0 : (nI (Hr A 0 k) = -1) = False := Z_m1 (by omega)
  have m1 : (nI (Hr A 1 k) = -1) = False := Z_m1 (by omega)
  have m2 : (nI (Hr A 2 k) = 0) = (Hr A 2 k = 0) := by rw [L0, Z_eq (by omega) (by decide)]
  have m3 : (nI (Hr A 1 k) = nI (Hn A 6 % 2)) = (Hr A 1 k = Hn A 6 % 2) := Z_eq (by omega) (by omega)
  have m4 : (nI (Hn A 7) = 0) = (Hn A 7 = 0) := by rw [L0, Z_eq (by omega) (by decide)]
  have m5 : (nI (Hr A 3 k) ≤ 0) = (Hr A 3 k = 0) := by rw [L0, Z_le (by omega) (by decide)]; exact propext ⟨fun h => by omega, fun h => by omega⟩
  have m6 : ((-1 : Int32) = nI (Hn A 6 % 2)) = False := Z_m1' (by omega)
  unfold F_L_isSlot
  rw [V_letterAt hC hI hk, V_ownerAt hC hI hk, V_lengthAt hC hI hk, V_isProtected hC hI hk, V_isReserved hC hI hk, V_nestDays hC hI hk, V_removeReason hC hI hk, V_plantReason hC hI hk, V_trimReason hC hI hk, V_keepReason hC hI hk, VL_prot hC hI hN hk, VL_keep hC hI hN hk, V_active hC hI, V_actionsLeft hC hI]
  simp only [ob1_s]
  unfold ltV owV
  by_cases c1 : 0 < Hr A 2 k
  · have c1' : ¬ Hr A 2 k = 0 := by omega
    simp only [if_pos c1, m0, m1, m2, m3, m4, m5, c1', if_false, ob1_s]
    by_cases c2 : Hr A 1 k = Hn A 6 % 2 <;> by_cases c3 : Hn A 7 = 0 <;> by_cases c4 : 0 < Hr A 4 k <;> by_cases c6 : grd (Hr A) k <;> simp (decide := true) [plR, toR, reR, trR, c1, c2, c3, c4, c6, Nat.pos_iff_ne_zero, om, ob1_s]
  · have c1' : Hr A 2 k = 0 := by omega
    simp only [if_neg c1, m2, m4, m5, c1', if_true, ob1_s]
    by_cases c3 : Hn A 7 = 0 <;> by_cases c4 : 0 < Hr A 4 k <;> by_cases c5 : Hr A 3 k = 0 <;> by_cases c6 : grd (Hr A) k <;> simp (decide := true) [plR, toR, reR, trR, keepR, c1', c3, c4, c5, c6, m6, Nat.pos_iff_ne_zero, om, ob1_s]
