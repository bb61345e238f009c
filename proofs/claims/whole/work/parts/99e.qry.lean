/-! ===== the calls that look on ===== -/
theorem in_c (x : Int32) {n : Nat} (hn : n < 2 ^ 31) : (F_X11_in x.toInt64 (0 : Int64) ((nI n - 1).toInt64) = false ∧ (x < 0 ∨ nI n ≤ x)) ∨ ∃ k, k < n ∧ x = nI k ∧ F_X11_in x.toInt64 (0 : Int64) ((nI n - 1).toInt64) = true := by
  rw [T0, Z_inB]
  rcases pk_ix x (n := n) hn with c | c | ⟨k, hk, rfl⟩
  · refine Or.inl ⟨?_, Or.inl c⟩
    rw [decide_eq_false_iff_not]
    exact fun q => Z_ge0 c 0 (by decide) q.1
  · refine Or.inl ⟨?_, Or.inr c⟩
    rw [decide_eq_false_iff_not]
    rintro ⟨q1, q2⟩
    by_cases h0 : n = 0
    · subst h0
      rw [show nI 0 - 1 = -1 by decide, Int32.le_iff_toInt_le] at q2
      rw [Int32.le_iff_toInt_le] at q1
      have e0 : (nI 0).toInt = 0 := by decide
      have e1 : (-1 : Int32).toInt = -1 := by decide
      omega
    · rw [L1, Z_sub (by omega)] at q2
      exact Z_up hn (by omega) c q2
  · refine Or.inr ⟨k, hk, rfl, ?_⟩
    rw [decide_eq_true_eq, L1, Z_sub (by omega), Z_le (by omega) (by omega), Z_le (by omega) (by omega)]
    omega
theorem rng_c (x : Int32) {a b : Nat} (hb : b < 2 ^ 30) (hab : a ≤ b) : (decide (nI a ≤ x ∧ x ≤ nI b) = false ∧ (x < nI a ∨ (¬ x < nI a ∧ ¬ x ≤ nI b))) ∨ ∃ k, a ≤ k ∧ k ≤ b ∧ x = nI k ∧ decide (nI a ≤ x ∧ x ≤ nI b) = true := by
  rcases pk_ix x (n := b + 1) (by omega) with c | c | ⟨k, hk, rfl⟩
  · refine Or.inl ⟨?_, Or.inl ?_⟩
    · rw [decide_eq_false_iff_not]
      exact fun q => Z_ge0 c a (by omega) q.1
    · rw [Int32.lt_iff_toInt_lt] at c ⊢
      have e0 : (0 : Int32).toInt = 0 := by decide
      rw [nI_toInt (by omega)]
      omega
  · have h2 : ¬ x ≤ nI b := Z_up (n := b + 1) (by omega) (by omega) c
    refine Or.inl ⟨?_, Or.inr ⟨?_, h2⟩⟩
    · rw [decide_eq_false_iff_not]
      exact fun q => h2 q.2
    · intro h3
      apply h2
      rw [Int32.lt_iff_toInt_lt, nI_toInt (by omega)] at h3
      rw [Int32.le_iff_toInt_le, nI_toInt (by omega)]
      omega
  · by_cases c : a ≤ k
    · refine Or.inr ⟨k, c, by omega, rfl, ?_⟩
      rw [decide_eq_true_eq, Z_le (by omega) (by omega), Z_le (by omega) (by omega)]
      omega
    · refine Or.inl ⟨?_, Or.inl ?_⟩
      · rw [decide_eq_false_iff_not, Z_le (by omega) (by omega)]
        omega
      · rw [Z_lt (by omega) (by omega)]
        omega
theorem E4 {S : SS} {τ : HV} {T : Nat} (h : LR S τ T) : ∃ v, F_X10_errorCode S = v ∧ F_X11_errorCode τ = (v, sS τ 6 0) := by
  obtain ⟨_, _, _, ⟨n, hn, q1, q2, q3, q4, q5⟩, _⟩ := h
  refine ⟨_, rfl, ?_⟩
  unfold F_X11_errorCode F_X10_errorCode
  rw [lt_d, sS_1n (by decide), q4]
theorem E5 {S : SS} {τ : HV} {T : Nat} (h : LR S τ T) : ∃ v, F_X10_errorPosition S = v ∧ F_X11_errorPosition τ = (v, sS τ 6 0) := by
  obtain ⟨_, _, _, ⟨n, hn, q1, q2, q3, q4, q5⟩, _⟩ := h
  refine ⟨_, rfl, ?_⟩
  unfold F_X11_errorPosition F_X10_errorPosition
  rw [lt_d, sS_1n (by decide), q5]
theorem E6 {S : SS} {τ : HV} {T : Nat} (h : LR S τ T) : ∃ v, F_X10_slotCount S = v ∧ F_X11_slotCount τ = some (v, sS τ 6 0) := by
  obtain ⟨A, t, s, rfl, hC, hM, hI⟩ := LR_get h
  refine ⟨nI (Hn A 0), hC.1.1.1 0 (by decide), ?_⟩
  unfold F_X11_slotCount
  rw [sS_sA, lt_d, if_pos (by decide), L0, Z_ag0 (by decide), hM.1 0 (by decide)]
theorem E7 {S : SS} {τ : HV} {T : Nat} (h : LR S τ T) : ∃ v, F_X10_day S = v ∧ F_X11_day τ = some (v, sS τ 6 0) := by
  obtain ⟨A, t, s, rfl, hC, hM, hI⟩ := LR_get h
  refine ⟨nI (Hn A 6), hC.1.1.1 6 (by decide), ?_⟩
  unfold F_X11_day
  rw [sS_sA, lt_d, if_pos (by decide), L6, Z_ag0 (by decide), hM.1 6 (by decide)]
theorem E9 {S : SS} {τ : HV} {T : Nat} (h : LR S τ T) : ∃ v, F_X10_workLimit S = v ∧ F_X11_workLimit τ = some (v, sS τ 6 0) := by
  obtain ⟨A, t, s, rfl, hC, hM, hI⟩ := LR_get h
  refine ⟨nI (Hn A 1), hC.1.1.1 1 (by decide), ?_⟩
  unfold F_X11_workLimit
  rw [sS_sA, lt_d, if_pos (by decide), L1, Z_ag0 (by decide), hM.1 1 (by decide)]
theorem E10 {S : SS} {τ : HV} {T : Nat} (h : LR S τ T) : ∃ v, F_X10_actionsLeft S = v ∧ F_X11_actionsLeft τ = some (v, sS τ 6 0) := by
  obtain ⟨A, t, s, rfl, hC, hM, hI⟩ := LR_get h
  refine ⟨nI (Hn A 7), hC.1.1.1 7 (by decide), ?_⟩
  unfold F_X11_actionsLeft
  rw [sS_sA, lt_d, if_pos (by decide), L7, Z_ag0 (by decide), hM.1 7 (by decide)]
theorem E42 {S : SS} {τ : HV} {T : Nat} (h : LR S τ T) : ∃ v, F_X10_twigsPlanted S = v ∧ F_X11_twigsPlanted τ = some (v, sS τ 6 0) := by
  obtain ⟨A, t, s, rfl, hC, hM, hI⟩ := LR_get h
  refine ⟨Hc A 0, hC.1.1.2.1 0 (by decide), ?_⟩
  unfold F_X11_twigsPlanted
  rw [sS_sA, lt_d, if_pos (by decide), L8, Z_ag0 (by decide), show s 8 = Hc A 0 from hM.2.1.1 0 (by decide)]
theorem E43 {S : SS} {τ : HV} {T : Nat} (h : LR S τ T) : ∃ v, F_X10_twigsPruned S = v ∧ F_X11_twigsPruned τ = some (v, sS τ 6 0) := by
  obtain ⟨A, t, s, rfl, hC, hM, hI⟩ := LR_get h
  refine ⟨Hc A 1, hC.1.1.2.1 1 (by decide), ?_⟩
  unfold F_X11_twigsPruned
  rw [sS_sA, lt_d, if_pos (by decide), L9, Z_ag0 (by decide), show s 9 = Hc A 1 from hM.2.1.1 1 (by decide)]
theorem E44 {S : SS} {τ : HV} {T : Nat} (h : LR S τ T) : ∃ v, F_X10_twigsRemoved S = v ∧ F_X11_twigsRemoved τ = some (v, sS τ 6 0) := by
  obtain ⟨A, t, s, rfl, hC, hM, hI⟩ := LR_get h
  refine ⟨Hc A 2, hC.1.1.2.1 2 (by decide), ?_⟩
  unfold F_X11_twigsRemoved
  rw [sS_sA, lt_d, if_pos (by decide), L10, Z_ag0 (by decide), show s 10 = Hc A 2 from hM.2.1.1 2 (by decide)]
theorem E8 {S : SS} {τ : HV} {T : Nat} (h : LR S τ T) : ∃ v, F_X10_activeGardener S = v ∧ F_X11_activeGardener τ = some (v, sS τ 6 0) := by
  obtain ⟨A, t, s, rfl, hC, hM, hI⟩ := LR_get h
  refine ⟨nI (Hn A 6 % 2), C_active hC.1.1 hI, ?_⟩
  unfold F_X11_activeGardener
  rw [sS_sA, lt_d, M_activeNow hM.1 hI, ob1_s]
theorem E11 {S : SS} {τ : HV} {T N : Nat} (h : LR S τ T) (hN : 400 < N) : ∃ v, F_X10_twigCount N S = some v ∧ F_X11_twigCount N τ = some (v, sS τ 6 0) := by
  obtain ⟨A, t, s, rfl, hC, hM, hI⟩ := LR_get h
  refine ⟨nI (cnt (twgB (Hr A)) (Hn A 0)), ?_, ?_⟩
  · unfold F_X10_twigCount
    rw [C_countTwigs hC.1.1 hI (by omega), ob1_s]
  · unfold F_X11_twigCount
    rw [sS_sA, lt_d, M_twigs hM.1 hM.2.2.2.1 hI (by omega), ob1_s]
theorem E18 {S : SS} {τ : HV} {T N : Nat} (h : LR S τ T) (hN : 400 < N) : ∃ v, F_X10_nestCount N S = some v ∧ F_X11_nestCount N τ = some (v, sS τ 6 0) := by
  obtain ⟨A, t, s, rfl, hC, hM, hI⟩ := LR_get h
  refine ⟨nI (cnt (nstB (Hr A)) (Hn A 0)), ?_, ?_⟩
  · unfold F_X10_nestCount
    rw [C_countNests hC.1.1 hI (by omega), ob1_s]
  · unfold F_X11_nestCount
    rw [sS_sA, lt_d, M_nests hM.1 hM.2.2.2.1 hI (by omega), ob1_s]
theorem E25 {S : SS} {τ : HV} {T N : Nat} (h : LR S τ T) (hN : 400 < N) : ∃ v, F_X10_longestFreeRun N S = some v ∧ F_X11_longestFreeRun N τ = some (v, sS τ 6 0) := by
  obtain ⟨A, t, s, rfl, hC, hM, hI⟩ := LR_get h
  refine ⟨nI (lrF (Hr A) (Hn A 0)).1, ?_, ?_⟩
  · unfold F_X10_longestFreeRun
    rw [C_longest hC.1.1 hI (by omega), ob1_s]
  · unfold F_X11_longestFreeRun
    rw [sS_sA, lt_d, M_longest hM hI (by omega)]
theorem E26 {S : SS} {τ : HV} {T N : Nat} (h : LR S τ T) (hN : 400 < N) (y : Int32) : ∃ v, F_X10_yardLetterCount N y S = some v ∧ F_X11_yardLetterCount N y τ = some (v, sS τ 6 0) := by
  obtain ⟨A, t, s, rfl, hC, hM, hI⟩ := LR_get h
  refine ⟨nI (cnt (yrdB (Hr A) (Hn A 5) y) (Hn A 0)), ?_, ?_⟩
  · unfold F_X10_yardLetterCount
    rw [C_yard hC.1.1 hI (by omega), ob1_s]
  · unfold F_X11_yardLetterCount
    rw [sS_sA, lt_d, M_yard hM hI (by omega)]
theorem E47 {S : SS} {τ : HV} {T N : Nat} (h : LR S τ T) (hN : 400 < N) : ∃ v, F_X10_wrongLetters N S = some v ∧ F_X11_wrongLetters N τ = some (v, sS τ 6 0) := by
  obtain ⟨A, t, s, rfl, hC, hM, hI⟩ := LR_get h
  refine ⟨nI (wrgAll A), ?_, ?_⟩
  · unfold F_X10_wrongLetters
    rw [C_wrong hC hI (by omega), ob1_s]
  · unfold F_X11_wrongLetters
    rw [sS_sA, lt_d, M_wrong hM hI (by omega)]
theorem E36 {S : SS} {τ : HV} {T N : Nat} (h : LR S τ T) (hN : 400 < N) : ∃ v, F_X10_bestNestSlot N S = some v ∧ F_X11_bestNestSlot N τ = some (v, sS τ 6 0) := by
  obtain ⟨A, t, s, rfl, hC, hM, hI⟩ := LR_get h
  refine ⟨bstR A, ?_, M_best hM.1 hM.2.2.2.1 hI (by omega)⟩
  unfold F_X10_bestNestSlot
  rw [C_best hC.1.1 hI (by omega), ob1_s]
theorem E32 {S : SS} {τ : HV} {T : Nat} (h : LR S τ T) : ∃ v, F_X10_daysUntilInspection S = some v ∧ F_X11_daysUntilInspection τ = some (v, sS τ 6 0) := by
  obtain ⟨A, t, s, rfl, hC, hM, hI⟩ := LR_get h
  refine ⟨nI (Hn A 4 - Hn A 6 % Hn A 4), ?_, ?_⟩
  · unfold F_X10_daysUntilInspection
    rw [C_toInsp hC.1.1 hI, ob1_s]
  · have bI := hI
    obtain ⟨hT, ⟨⟨b0, b0'⟩, ⟨b1, b1'⟩, b2, ⟨b3, b3'⟩, ⟨b4, b4'⟩, ⟨b5, b5'⟩, b6, b7⟩, hRw, hNs, hQu, hPr, hVm⟩ := id hI
    have hlt := Nat.mod_lt (Hn A 6) (show 0 < Hn A 4 by omega)
    unfold F_X11_daysUntilInspection
    rw [sS_sA, lt_d]
    simp (disch := omega) only [L0, L4, L6, L760, Z_vpb, Z_ag0, hM.1 4 (by decide), hM.1 6 (by decide), Z_eq, Z_rem, Z_sub, if_pos, if_neg]
theorem E45 {S : SS} {τ : HV} {T N : Nat} (h : LR S τ T) (hN : 400 < N) : ∃ v, F_X10_twigImbalance N S = some v ∧ F_X11_twigImbalance N τ = some (v, sS τ 6 0) := by
  obtain ⟨A, t, s, rfl, hC, hM, hI⟩ := LR_get h
  have hg : ∀ a b c d : Int32, a - ((b + c) + d) = ((a - b) - c) - d := fun a b c d => by grind
  have k0 : s 8 = Hc A 0 := hM.2.1.1 0 (by decide)
  have k1 : s 9 = Hc A 1 := hM.2.1.1 1 (by decide)
  have k2 : s 10 = Hc A 2 := hM.2.1.1 2 (by decide)
  have c0 : (S 0 0).1 16 = Hc A 0 := hC.1.1.2.1 0 (by decide)
  have c1 : (S 0 0).1 17 = Hc A 1 := hC.1.1.2.1 1 (by decide)
  have c2 : (S 0 0).1 18 = Hc A 2 := hC.1.1.2.1 2 (by decide)
  refine ⟨Hc A 0 - ((Hc A 1 + Hc A 2) + nI (cnt (twgB (Hr A)) (Hn A 0))), ?_, ?_⟩
  · unfold F_X10_twigImbalance
    rw [C_countTwigs hC.1.1 hI (by omega), ob1_s, c0, c1, c2]
  · unfold F_X11_twigImbalance
    rw [sS_sA, lt_d, M_twigs hM.1 hM.2.2.2.1 hI (by omega), ob1_s, if_pos (by decide), if_pos (by decide), if_pos (by decide), L8, L9, L10, Z_ag0 (by decide), Z_ag0 (by decide), Z_ag0 (by decide), k0, k1, k2, hg]
theorem E46 {S : SS} {τ : HV} {T N : Nat} (h : LR S τ T) (hN : 400 < N) : ∃ v, F_X10_messageImbalance S = v ∧ F_X11_messageImbalance N τ = some (v, sS τ 6 0) := by
  obtain ⟨A, t, s, rfl, hC, hM, hI⟩ := LR_get h
  have h11 := hM.2.2.1.1
  have hstep : ∀ g c, g < 2 → st_X11_messageImbalance_16 N c (nI g) (sA (sS t 6 0) 0 s) = some (.inl (c + ((((Hc A (10 + g) - Hc A (12 + g)) - Hc A (16 + g)) - nI (Hq A g).length) - nI (if (Hp A g).2.2 ≠ [] then 1 else 0)), nI (g + 1), sA (sS t 6 0) 0 s)) := fun g c hg => by
    have k14 : s (14 + g) = Hc A (10 + g) := hM.2.1.2 g 0 hg (by decide)
    have k16 : s (16 + g) = Hc A (12 + g) := hM.2.1.2 g 1 hg (by decide)
    have k20 : s (20 + g) = Hc A (16 + g) := hM.2.1.2 g 3 hg (by decide)
    have k12 : s (12 + g) = nI (Hq A g).length := hM.2.2.1.2 g hg
    unfold st_X11_messageImbalance_16
    rw [M_isInProgress hM.2.2.2.2.2.1 hg (Inv_pl hI hg).1, ob1_s]
    simp (disch := omega) only [L1, L2, L12, L14, L16, L20, L760, Z_vpb, Z_ag0, Z_add, Z_le, if_pos, if_neg, k14, k16, k20, k12, Z_truth, decide_eq_true_eq]
  have hq : ∀ g, g < 2 → F_X4_queuedMinusSettled (S 0 (1 + g)) = Hc A (10 + g) - ((((Hc A (12 + g)) + (Hc A (16 + g))) + nI (Hq A g).length) + nI (if (Hp A g).2.2 ≠ [] then 1 else 0)) := fun g hg => by
    have hG := hC.1.2 g hg
    have k6 : (S 0 (1 + g)).1 6 = Hc A (10 + g) := hG.1 0 (by decide)
    have k7 : (S 0 (1 + g)).1 7 = Hc A (12 + g) := hG.1 1 (by decide)
    have k9 : (S 0 (1 + g)).1 9 = Hc A (16 + g) := hG.1 3 (by decide)
    have k2 : (S 0 (1 + g)).1 2 = nI (Hq A g).length := hG.2.2.1
    unfold F_X4_queuedMinusSettled
    rw [k6, k7, k9, k2]
    simp only [C_isWriting hG (Inv_pl hI hg).1]
    by_cases c : (Hp A g).2.2 ≠ []
    · rw [if_pos c, if_pos c]; rfl
    · rw [if_neg c, if_neg c]; rfl
  refine ⟨_, rfl, ?_⟩
  unfold F_X11_messageImbalance F_X10_messageImbalance
  rw [sS_sA, lt_d, if_pos (by decide), L11, Z_ag0 (by decide), h11, show S 0 1 = S 0 (1 + 0) from rfl, show S 0 2 = S 0 (1 + 1) from rfl, hq 0 (by decide), hq 1 (by decide), hC.2.1]
  obtain ⟨k, hk⟩ : ∃ k, N = k + 3 := ⟨N - 3, by omega⟩
  generalize hP : nI (if (Hp A 0).2.2 ≠ [] then 1 else 0) = P0 at hstep ⊢
  generalize hP1 : nI (if (Hp A 1).2.2 ≠ [] then 1 else 0) = P1 at hstep ⊢
  have g1 : (fun z : Int32 × Int32 × HV => st_X11_messageImbalance_16 N z.1 z.2.1 z.2.2) (-nI (Hl A).length, 0, sA (sS t 6 0) 0 s) = _ := hstep 0 _ (by decide)
  have g2 : ∀ c, (fun z : Int32 × Int32 × HV => st_X11_messageImbalance_16 N z.1 z.2.1 z.2.2) (c, nI (0 + 1), sA (sS t 6 0) 0 s) = _ := fun c => hstep 1 c (by decide)
  have g3 : ∀ c, (fun z : Int32 × Int32 × HV => st_X11_messageImbalance_16 N z.1 z.2.1 z.2.2) (c, nI (1 + 1), sA (sS t 6 0) 0 s) = some (.inr (c, sA (sS t 6 0) 0 s)) := fun c => by
    show st_X11_messageImbalance_16 N c (nI (1 + 1)) _ = _
    unfold st_X11_messageImbalance_16
    rw [if_pos (by decide)]
  generalize hF : (fun z : Int32 × Int32 × HV => st_X11_messageImbalance_16 N z.1 z.2.1 z.2.2) = F at g1 g2 g3 ⊢
  rw [hk, lpN_l g1, lpN_l (g2 _), lpN_r (g3 _), hP, hP1]
  congr 2
  have hg : ∀ p a b c d e a' b' c' d' e' : Int32, -p + ((((a - b) - c) - d) - e) + ((((a' - b') - c') - d') - e') = a - (((b + c) + d) + e) + (a' - (((b' + c') + d') + e')) - p := fun p a b c d e a' b' c' d' e' => by grind
  exact hg _ _ _ _ _ _ _ _ _ _ _
theorem E12 {S : SS} {τ : HV} {T : Nat} (h : LR S τ T) (p : Int32) : rQ (F_X10_letterAt p S) (F_X11_letterAt p τ) τ 3 := by
  obtain ⟨A, t, s, rfl, hC, hM, hI⟩ := LR_get h
  have hH := hC.1.1
  have bI := hI
  obtain ⟨hT, ⟨⟨b0, b0'⟩, ⟨b1, b1'⟩, b2, ⟨b3, b3'⟩, ⟨b4, b4'⟩, ⟨b5, b5'⟩, b6, b7⟩, hRw, hNs, hQu, hPr, hVm⟩ := id hI
  unfold F_X10_letterAt F_X11_letterAt
  rcases slot_c hC hM hI p with ⟨e1, e2⟩ | ⟨k, hk, rfl, e1, e2⟩
  · exact Or.inr ⟨0, by rw [e1, Zox_r], by rw [e2, ob1_s, pas_f, lt2_d, if_neg Bool.false_ne_true]⟩
  · rw [e1, Zox_l, e2, ob1_s, pas_t, lt2_d, if_pos rfl, sS_sA]
    have hk40 : k < 40 := by omega
    have hk31 : k < 2 ^ 31 := by omega
    have hk30 : k < 2 ^ 30 := by omega
    have hk20 : k < 2 ^ 20 := by omega
    rw [M_hasTwig hM.2.2.2.1 hRw hk40, ob1_s, L0, M_ofR hM.2.2.2.1 (by decide) hk40, mLet_0, ob1_s, C_row hH.2.2 bI (by decide) hk31]
    simp only [C_hasTwig hH bI hk31, decide_eq_true_eq]
    by_cases c : 0 < Hr A 2 k
    · rw [if_pos c, if_pos c, if_pos c]
      exact rQl ⟨_, rfl, rfl⟩
    · rw [if_neg c, if_neg c]
      exact rQl ⟨_, rfl, rfl⟩
theorem E13 {S : SS} {τ : HV} {T : Nat} (h : LR S τ T) (p : Int32) : rQ (F_X10_ownerAt p S) (F_X11_ownerAt p τ) τ 3 := by
  obtain ⟨A, t, s, rfl, hC, hM, hI⟩ := LR_get h
  have hH := hC.1.1
  have bI := hI
  obtain ⟨hT, ⟨⟨b0, b0'⟩, ⟨b1, b1'⟩, b2, ⟨b3, b3'⟩, ⟨b4, b4'⟩, ⟨b5, b5'⟩, b6, b7⟩, hRw, hNs, hQu, hPr, hVm⟩ := id hI
  unfold F_X10_ownerAt F_X11_ownerAt
  rcases slot_c hC hM hI p with ⟨e1, e2⟩ | ⟨k, hk, rfl, e1, e2⟩
  · exact Or.inr ⟨0, by rw [e1, Zox_r], by rw [e2, ob1_s, pas_f, lt2_d, if_neg Bool.false_ne_true]⟩
  · rw [e1, Zox_l, e2, ob1_s, pas_t, lt2_d, if_pos rfl, sS_sA]
    have hk40 : k < 40 := by omega
    have hk31 : k < 2 ^ 31 := by omega
    have hk30 : k < 2 ^ 30 := by omega
    have hk20 : k < 2 ^ 20 := by omega
    rw [M_hasTwig hM.2.2.2.1 hRw hk40, ob1_s, L1, M_ofR hM.2.2.2.1 (by decide) hk40, mLet_1, ob1_s, C_row hH.2.2 bI (by decide) hk31]
    simp only [C_hasTwig hH bI hk31, decide_eq_true_eq]
    by_cases c : 0 < Hr A 2 k
    · rw [if_pos c, if_pos c, if_pos c]
      exact rQl ⟨_, rfl, rfl⟩
    · rw [if_neg c, if_neg c]
      exact rQl ⟨_, rfl, rfl⟩
theorem E14 {S : SS} {τ : HV} {T : Nat} (h : LR S τ T) (p : Int32) : rQ (F_X10_lengthAt p S) (F_X11_lengthAt p τ) τ 3 := by
  obtain ⟨A, t, s, rfl, hC, hM, hI⟩ := LR_get h
  have hH := hC.1.1
  have bI := hI
  obtain ⟨hT, ⟨⟨b0, b0'⟩, ⟨b1, b1'⟩, b2, ⟨b3, b3'⟩, ⟨b4, b4'⟩, ⟨b5, b5'⟩, b6, b7⟩, hRw, hNs, hQu, hPr, hVm⟩ := id hI
  unfold F_X10_lengthAt F_X11_lengthAt
  rcases slot_c hC hM hI p with ⟨e1, e2⟩ | ⟨k, hk, rfl, e1, e2⟩
  · exact Or.inr ⟨0, by rw [e1, Zox_r], by rw [e2, ob1_s, pas_f, lt2_d, if_neg Bool.false_ne_true]⟩
  · rw [e1, Zox_l, e2, ob1_s, pas_t, lt2_d, if_pos rfl, sS_sA]
    have hk40 : k < 40 := by omega
    have hk31 : k < 2 ^ 31 := by omega
    have hk30 : k < 2 ^ 30 := by omega
    have hk20 : k < 2 ^ 20 := by omega
    exact rQl ⟨nI (Hr A 2 k), by rw [C_row hH.2.2 bI (by decide) hk31], by rw [L2, M_ofR hM.2.2.2.1 (by decide) hk40, mLet_2, ob1_s]⟩
theorem E16 {S : SS} {τ : HV} {T : Nat} (h : LR S τ T) (p : Int32) : rQ (F_X10_nestDays p S) (F_X11_nestDays p τ) τ 3 := by
  obtain ⟨A, t, s, rfl, hC, hM, hI⟩ := LR_get h
  have hH := hC.1.1
  have bI := hI
  obtain ⟨hT, ⟨⟨b0, b0'⟩, ⟨b1, b1'⟩, b2, ⟨b3, b3'⟩, ⟨b4, b4'⟩, ⟨b5, b5'⟩, b6, b7⟩, hRw, hNs, hQu, hPr, hVm⟩ := id hI
  unfold F_X10_nestDays F_X11_nestDays
  rcases slot_c hC hM hI p with ⟨e1, e2⟩ | ⟨k, hk, rfl, e1, e2⟩
  · exact Or.inr ⟨0, by rw [e1, Zox_r], by rw [e2, ob1_s, pas_f, lt2_d, if_neg Bool.false_ne_true]⟩
  · rw [e1, Zox_l, e2, ob1_s, pas_t, lt2_d, if_pos rfl, sS_sA]
    have hk40 : k < 40 := by omega
    have hk31 : k < 2 ^ 31 := by omega
    have hk30 : k < 2 ^ 30 := by omega
    have hk20 : k < 2 ^ 20 := by omega
    exact rQl ⟨nI (Hr A 3 k), by rw [C_row hH.2.2 bI (by decide) hk31], by rw [L4, M_ofR hM.2.2.2.1 (by decide) hk40, mLet_4, ob1_s]⟩
theorem E15 {S : SS} {τ : HV} {T N : Nat} (h : LR S τ T) (hN : 400 < N) (p : Int32) : rQ (F_X10_isReserved p S) (F_X11_isReserved N p τ) τ 3 := by
  obtain ⟨A, t, s, rfl, hC, hM, hI⟩ := LR_get h
  have hH := hC.1.1
  have bI := hI
  obtain ⟨hT, ⟨⟨b0, b0'⟩, ⟨b1, b1'⟩, b2, ⟨b3, b3'⟩, ⟨b4, b4'⟩, ⟨b5, b5'⟩, b6, b7⟩, hRw, hNs, hQu, hPr, hVm⟩ := id hI
  unfold F_X10_isReserved F_X11_isReserved
  rcases slot_c hC hM hI p with ⟨e1, e2⟩ | ⟨k, hk, rfl, e1, e2⟩
  · exact Or.inr ⟨false, by rw [e1, Zox_r], by rw [e2, ob1_s, pas_f, lt2_d, if_neg Bool.false_ne_true]⟩
  · rw [e1, Zox_l, e2, ob1_s, pas_t, lt2_d, if_pos rfl, sS_sA]
    have hk40 : k < 40 := by omega
    have hk31 : k < 2 ^ 31 := by omega
    have hk30 : k < 2 ^ 30 := by omega
    have hk20 : k < 2 ^ 20 := by omega
    rw [M_isReservedAt hM bI hk20 (by omega), ob1_s]
    have hb := C_isBooked hH bI hk31
    refine rQl ⟨F_X5_isBooked (nI k) (S 0), rfl, ?_⟩
    by_cases c : 0 < Hr A 4 k
    · rw [if_pos (by simpa using c), show F_X5_isBooked (nI k) (S 0) = true by rw [hb]; exact c]
    · rw [if_neg (by simpa using c), show F_X5_isBooked (nI k) (S 0) = false by rw [← Bool.not_eq_true, hb]; exact c]
theorem E17 {S : SS} {τ : HV} {T : Nat} (h : LR S τ T) (p : Int32) : rQ (F_X10_isProtected p S) (F_X11_isProtected p τ) τ 3 := by
  obtain ⟨A, t, s, rfl, hC, hM, hI⟩ := LR_get h
  have hH := hC.1.1
  have bI := hI
  obtain ⟨hT, ⟨⟨b0, b0'⟩, ⟨b1, b1'⟩, b2, ⟨b3, b3'⟩, ⟨b4, b4'⟩, ⟨b5, b5'⟩, b6, b7⟩, hRw, hNs, hQu, hPr, hVm⟩ := id hI
  unfold F_X10_isProtected F_X11_isProtected
  rcases slot_c hC hM hI p with ⟨e1, e2⟩ | ⟨k, hk, rfl, e1, e2⟩
  · exact Or.inr ⟨false, by rw [e1, Zox_r], by rw [e2, ob1_s, pas_f, lt2_d, if_neg Bool.false_ne_true]⟩
  · rw [e1, Zox_l, e2, ob1_s, pas_t, lt2_d, if_pos rfl, sS_sA]
    have hk40 : k < 40 := by omega
    have hk31 : k < 2 ^ 31 := by omega
    have hk30 : k < 2 ^ 30 := by omega
    have hk20 : k < 2 ^ 20 := by omega
    rw [M_isSafe hM.1 hM.2.2.2.1 bI hk30, ob1_s]
    have hb := C_isGuarded hH bI hk30
    refine rQl ⟨F_X5_isGuarded (nI k) (S 0), rfl, ?_⟩
    by_cases c : grd (Hr A) k
    · rw [if_pos (decide_eq_true c), show F_X5_isGuarded (nI k) (S 0) = true by rw [hb]; exact c]
    · rw [if_neg (fun q => c (of_decide_eq_true q)), show F_X5_isGuarded (nI k) (S 0) = false by rw [← Bool.not_eq_true, hb]; exact c]
theorem E27 {S : SS} {τ : HV} {T N : Nat} (h : LR S τ T) (hN : 400 < N) (p : Int32) : rQ (F_X10_plantReason p S) (F_X11_plantReason N p τ) τ 3 := by
  obtain ⟨A, t, s, rfl, hC, hM, hI⟩ := LR_get h
  have hH := hC.1.1
  have bI := hI
  obtain ⟨hT, ⟨⟨b0, b0'⟩, ⟨b1, b1'⟩, b2, ⟨b3, b3'⟩, ⟨b4, b4'⟩, ⟨b5, b5'⟩, b6, b7⟩, hRw, hNs, hQu, hPr, hVm⟩ := id hI
  unfold F_X10_plantReason F_X11_plantReason
  rcases slot_c hC hM hI p with ⟨e1, e2⟩ | ⟨k, hk, rfl, e1, e2⟩
  · exact Or.inr ⟨0, by rw [e1, Zox_r], by rw [e2, ob1_s, pas_f, lt2_d, if_neg Bool.false_ne_true]⟩
  · rw [e1, Zox_l, e2, ob1_s, pas_t, lt2_d, if_pos rfl, sS_sA]
    have hk40 : k < 40 := by omega
    have hk31 : k < 2 ^ 31 := by omega
    have hk30 : k < 2 ^ 30 := by omega
    have hk20 : k < 2 ^ 20 := by omega
    exact rQl ⟨nI (plR (Hr A) (Hn A 7) k), by rw [C_plR hH bI hk31], by rw [M_plR hM bI hk (by omega), ob1_s]⟩
theorem E28 {S : SS} {τ : HV} {T : Nat} (h : LR S τ T) (p : Int32) : rQ (F_X10_removeReason p S) (F_X11_removeReason p τ) τ 3 := by
  obtain ⟨A, t, s, rfl, hC, hM, hI⟩ := LR_get h
  have hH := hC.1.1
  have bI := hI
  obtain ⟨hT, ⟨⟨b0, b0'⟩, ⟨b1, b1'⟩, b2, ⟨b3, b3'⟩, ⟨b4, b4'⟩, ⟨b5, b5'⟩, b6, b7⟩, hRw, hNs, hQu, hPr, hVm⟩ := id hI
  unfold F_X10_removeReason F_X11_removeReason
  rcases slot_c hC hM hI p with ⟨e1, e2⟩ | ⟨k, hk, rfl, e1, e2⟩
  · exact Or.inr ⟨0, by rw [e1, Zox_r], by rw [e2, ob1_s, pas_f, lt2_d, if_neg Bool.false_ne_true]⟩
  · rw [e1, Zox_l, e2, ob1_s, pas_t, lt2_d, if_pos rfl, sS_sA]
    have hk40 : k < 40 := by omega
    have hk31 : k < 2 ^ 31 := by omega
    have hk30 : k < 2 ^ 30 := by omega
    have hk20 : k < 2 ^ 20 := by omega
    exact rQl ⟨nI (reR (Hr A) (Hn A 7) (Hn A 6) k), by rw [C_reR hH bI hk30], by rw [M_reR hM.1 hM.2.2.2.1 bI hk40, ob1_s]⟩
theorem E29 {S : SS} {τ : HV} {T : Nat} (h : LR S τ T) (p : Int32) : rQ (F_X10_trimReason p S) (F_X11_trimReason p τ) τ 3 := by
  obtain ⟨A, t, s, rfl, hC, hM, hI⟩ := LR_get h
  have hH := hC.1.1
  have bI := hI
  obtain ⟨hT, ⟨⟨b0, b0'⟩, ⟨b1, b1'⟩, b2, ⟨b3, b3'⟩, ⟨b4, b4'⟩, ⟨b5, b5'⟩, b6, b7⟩, hRw, hNs, hQu, hPr, hVm⟩ := id hI
  unfold F_X10_trimReason F_X11_trimReason
  rcases slot_c hC hM hI p with ⟨e1, e2⟩ | ⟨k, hk, rfl, e1, e2⟩
  · exact Or.inr ⟨0, by rw [e1, Zox_r], by rw [e2, ob1_s, pas_f, lt2_d, if_neg Bool.false_ne_true]⟩
  · rw [e1, Zox_l, e2, ob1_s, pas_t, lt2_d, if_pos rfl, sS_sA]
    have hk40 : k < 40 := by omega
    have hk31 : k < 2 ^ 31 := by omega
    have hk30 : k < 2 ^ 30 := by omega
    have hk20 : k < 2 ^ 20 := by omega
    exact rQl ⟨nI (trR (Hr A) (Hn A 7) (Hn A 6) k), by rw [C_trR hH bI hk30], by rw [M_trR hM.1 hM.2.2.2.1 bI hk40, ob1_s]⟩
theorem E31 {S : SS} {τ : HV} {T : Nat} (h : LR S τ T) (p : Int32) : rQ (F_X10_keepReason p S) (F_X11_keepReason p τ) τ 3 := by
  obtain ⟨A, t, s, rfl, hC, hM, hI⟩ := LR_get h
  have hH := hC.1.1
  have bI := hI
  obtain ⟨hT, ⟨⟨b0, b0'⟩, ⟨b1, b1'⟩, b2, ⟨b3, b3'⟩, ⟨b4, b4'⟩, ⟨b5, b5'⟩, b6, b7⟩, hRw, hNs, hQu, hPr, hVm⟩ := id hI
  unfold F_X10_keepReason F_X11_keepReason
  rcases slot_c hC hM hI p with ⟨e1, e2⟩ | ⟨k, hk, rfl, e1, e2⟩
  · exact Or.inr ⟨0, by rw [e1, Zox_r], by rw [e2, ob1_s, pas_f, lt2_d, if_neg Bool.false_ne_true]⟩
  · rw [e1, Zox_l, e2, ob1_s, pas_t, lt2_d, if_pos rfl, sS_sA]
    have hk40 : k < 40 := by omega
    have hk31 : k < 2 ^ 31 := by omega
    have hk30 : k < 2 ^ 30 := by omega
    have hk20 : k < 2 ^ 20 := by omega
    exact rQl ⟨nI (keepR (Hr A) (Hn A 3) k), by rw [C_keepReason hH bI hk30], by rw [M_kept hM.1 hM.2.2.2.1 bI hk40, ob1_s]⟩
theorem E19 {S : SS} {τ : HV} {T : Nat} (h : LR S τ T) (p : Int32) : rQ (F_X10_pendingCount p S) (F_X11_pendingCount p τ) τ 2 := by
  obtain ⟨A, t, s, rfl, hC, hM, hI⟩ := LR_get h
  have hH := hC.1.1
  have bI := hI
  obtain ⟨hT, ⟨⟨b0, b0'⟩, ⟨b1, b1'⟩, b2, ⟨b3, b3'⟩, ⟨b4, b4'⟩, ⟨b5, b5'⟩, b6, b7⟩, hRw, hNs, hQu, hPr, hVm⟩ := id hI
  unfold F_X10_pendingCount F_X11_pendingCount
  rcases gard_c p with ⟨e1, e2⟩ | ⟨g, hg, rfl, e1, e2⟩
  · exact Or.inr ⟨0, by rw [e1, Zox_r], by rw [e2, pas_f, lt2_d, if_neg Bool.false_ne_true]⟩
  · rw [e1, Zox_l, e2, pas_t, lt2_d, if_pos rfl, sS_sA]
    have hG := hC.1.2 g hg
    have hgs := Z_gsel hg
    have hpl := Inv_pl bI hg
    have q8 := (hQu g hg).1
    have k12 : s (12 + g) = nI (Hq A g).length := hM.2.2.1.2 g hg
    exact rQl ⟨nI (Hq A g).length, by rw [hgs, hG.2.2.1], by simp (disch := omega) only [L12, L760, Z_add, Z_vpb, Z_ag0, if_pos, k12]⟩
theorem E21 {S : SS} {τ : HV} {T : Nat} (h : LR S τ T) (p : Int32) : rQ (F_X10_lettersWritten p S) (F_X11_lettersWritten p τ) τ 2 := by
  obtain ⟨A, t, s, rfl, hC, hM, hI⟩ := LR_get h
  have hH := hC.1.1
  have bI := hI
  obtain ⟨hT, ⟨⟨b0, b0'⟩, ⟨b1, b1'⟩, b2, ⟨b3, b3'⟩, ⟨b4, b4'⟩, ⟨b5, b5'⟩, b6, b7⟩, hRw, hNs, hQu, hPr, hVm⟩ := id hI
  unfold F_X10_lettersWritten F_X11_lettersWritten
  rcases gard_c p with ⟨e1, e2⟩ | ⟨g, hg, rfl, e1, e2⟩
  · exact Or.inr ⟨0, by rw [e1, Zox_r], by rw [e2, pas_f, lt2_d, if_neg Bool.false_ne_true]⟩
  · rw [e1, Zox_l, e2, pas_t, lt2_d, if_pos rfl, sS_sA]
    have hG := hC.1.2 g hg
    have hgs := Z_gsel hg
    have hpl := Inv_pl bI hg
    have q8 := (hQu g hg).1
    rw [M_isInProgress hM.2.2.2.2.2.1 hg hpl.1, ob1_s, hgs, hG.2.1.2.2]
    unfold F_X11_progressOf
    by_cases c : (Hp A g).2.2 ≠ []
    · have k14 := ((hM.2.2.2.2.2.1 g hg).2 c).2.2
      refine rQl ⟨nI (Hp A g).1, rfl, ?_⟩
      rw [if_pos (decide_eq_true c)]
      simp (disch := omega) only [L14, L15, L430, L760, Z_mul, Z_add, Z_vpb, Z_ag0, if_pos, k14]
    · have hb := (hPr g hg).1 (Classical.byContradiction c)
      refine rQl ⟨nI 0, by rw [hb]; rfl, ?_⟩
      rw [if_neg (fun q => c (of_decide_eq_true q))]
      rfl
theorem E22 {S : SS} {τ : HV} {T : Nat} (h : LR S τ T) (p : Int32) : rQ (F_X10_startSlot p S) (F_X11_startSlot p τ) τ 2 := by
  obtain ⟨A, t, s, rfl, hC, hM, hI⟩ := LR_get h
  have hH := hC.1.1
  have bI := hI
  obtain ⟨hT, ⟨⟨b0, b0'⟩, ⟨b1, b1'⟩, b2, ⟨b3, b3'⟩, ⟨b4, b4'⟩, ⟨b5, b5'⟩, b6, b7⟩, hRw, hNs, hQu, hPr, hVm⟩ := id hI
  unfold F_X10_startSlot F_X11_startSlot
  rcases gard_c p with ⟨e1, e2⟩ | ⟨g, hg, rfl, e1, e2⟩
  · exact Or.inr ⟨0, by rw [e1, Zox_r], by rw [e2, pas_f, lt2_d, if_neg Bool.false_ne_true]⟩
  · rw [e1, Zox_l, e2, pas_t, lt2_d, if_pos rfl, sS_sA]
    have hG := hC.1.2 g hg
    have hgs := Z_gsel hg
    have hpl := Inv_pl bI hg
    have q8 := (hQu g hg).1
    rw [M_isInProgress hM.2.2.2.2.2.1 hg hpl.1, ob1_s, hgs]
    simp only [C_isWriting hG hpl.1]
    unfold F_X11_progressOf
    by_cases c : (Hp A g).2.2 ≠ []
    · have k13 := ((hM.2.2.2.2.2.1 g hg).2 c).2.1
      refine rQl ⟨nI (Hp A g).2.1, by rw [if_pos c, hG.2.1.1], ?_⟩
      rw [if_pos (decide_eq_true c)]
      simp (disch := omega) only [L13, L15, L430, L760, Z_mul, Z_add, Z_vpb, Z_ag0, if_pos, k13]
    · refine rQl ⟨-1, by rw [if_neg c], ?_⟩
      rw [if_neg (fun q => c (of_decide_eq_true q))]
theorem E23 {S : SS} {τ : HV} {T N : Nat} (h : LR S τ T) (hN : 400 < N) (p : Int32) : rQ (F_X10_postedCount N p S) (F_X11_postedCount N p τ) τ 2 := by
  obtain ⟨A, t, s, rfl, hC, hM, hI⟩ := LR_get h
  have hH := hC.1.1
  have bI := hI
  obtain ⟨hT, ⟨⟨b0, b0'⟩, ⟨b1, b1'⟩, b2, ⟨b3, b3'⟩, ⟨b4, b4'⟩, ⟨b5, b5'⟩, b6, b7⟩, hRw, hNs, hQu, hPr, hVm⟩ := id hI
  unfold F_X10_postedCount F_X11_postedCount
  rcases gard_c p with ⟨e1, e2⟩ | ⟨g, hg, rfl, e1, e2⟩
  · exact Or.inr ⟨0, by rw [e1, Zox_r], by rw [e2, pas_f, lt2_d, if_neg Bool.false_ne_true]⟩
  · rw [e1, Zox_l, e2, pas_t, lt2_d, if_pos rfl, sS_sA]
    have hG := hC.1.2 g hg
    have hgs := Z_gsel hg
    have hpl := Inv_pl bI hg
    have q8 := (hQu g hg).1
    rw [C_countOf hC.2 bI hg (by omega), ob1_s, M_postedOf hM bI hg (by omega), ob1_s]
    exact rQl ⟨_, rfl, rfl⟩
theorem E24 {S : SS} {τ : HV} {T N : Nat} (h : LR S τ T) (hN : 400 < N) (p : Int32) : rQ (F_X10_nextStartSlot N p S) (F_X11_nextStartSlot N p τ) τ 2 := by
  obtain ⟨A, t, s, rfl, hC, hM, hI⟩ := LR_get h
  have hH := hC.1.1
  have bI := hI
  obtain ⟨hT, ⟨⟨b0, b0'⟩, ⟨b1, b1'⟩, b2, ⟨b3, b3'⟩, ⟨b4, b4'⟩, ⟨b5, b5'⟩, b6, b7⟩, hRw, hNs, hQu, hPr, hVm⟩ := id hI
  unfold F_X10_nextStartSlot F_X11_nextStartSlot
  rcases gard_c p with ⟨e1, e2⟩ | ⟨g, hg, rfl, e1, e2⟩
  · exact Or.inr ⟨0, by rw [e1, Zox_r], by rw [e2, pas_f, lt2_d, if_neg Bool.false_ne_true]⟩
  · rw [e1, Zox_l, e2, pas_t, lt2_d, if_pos rfl, sS_sA]
    have hG := hC.1.2 g hg
    have hgs := Z_gsel hg
    have hpl := Inv_pl bI hg
    have q8 := (hQu g hg).1
    rw [hgs, L0, C_lengthOf hG q8 (by decide), C_findStart hH bI (by omega) (by
      by_cases c : 0 < (Hq A g).length
      · have := (Inv_qw bI hg c).2.1; omega
      · rw [gD_no (by omega)]; decide), ob1_s, M_startOfNext hM bI hg (by omega), ob1_s]
    exact rQl ⟨_, rfl, rfl⟩
theorem E30 {S : SS} {τ : HV} {T N : Nat} (h : LR S τ T) (hN : 400 < N) (p : Int32) : rQ (F_X10_writeReason N p S) (F_X11_writeReason N p τ) τ 2 := by
  obtain ⟨A, t, s, rfl, hC, hM, hI⟩ := LR_get h
  have hH := hC.1.1
  have bI := hI
  obtain ⟨hT, ⟨⟨b0, b0'⟩, ⟨b1, b1'⟩, b2, ⟨b3, b3'⟩, ⟨b4, b4'⟩, ⟨b5, b5'⟩, b6, b7⟩, hRw, hNs, hQu, hPr, hVm⟩ := id hI
  unfold F_X10_writeReason F_X11_writeReason
  rcases gard_c p with ⟨e1, e2⟩ | ⟨g, hg, rfl, e1, e2⟩
  · exact Or.inr ⟨0, by rw [e1, Zox_r], by rw [e2, pas_f, lt2_d, if_neg Bool.false_ne_true]⟩
  · rw [e1, Zox_l, e2, pas_t, lt2_d, if_pos rfl, sS_sA]
    have hG := hC.1.2 g hg
    have hgs := Z_gsel hg
    have hpl := Inv_pl bI hg
    have q8 := (hQu g hg).1
    rw [C_wrR hC.1 bI hg (by omega), ob1_s, M_wrR hM bI hg (by omega), ob1_s]
    exact rQl ⟨_, rfl, rfl⟩
theorem E38 {S : SS} {τ : HV} {T : Nat} (h : LR S τ T) (p : Int32) : rQ (F_X10_messagesQueued p S) (F_X11_messagesQueued p τ) τ 2 := by
  obtain ⟨A, t, s, rfl, hC, hM, hI⟩ := LR_get h
  have hH := hC.1.1
  have bI := hI
  obtain ⟨hT, ⟨⟨b0, b0'⟩, ⟨b1, b1'⟩, b2, ⟨b3, b3'⟩, ⟨b4, b4'⟩, ⟨b5, b5'⟩, b6, b7⟩, hRw, hNs, hQu, hPr, hVm⟩ := id hI
  unfold F_X10_messagesQueued F_X11_messagesQueued
  unfold F_X11_counter
  rcases gard_c p with ⟨e1, e2⟩ | ⟨g, hg, rfl, e1, e2⟩
  · exact Or.inr ⟨0, by rw [e1, Zox_r], by rw [e2, pas_f, lt2_d, if_neg Bool.false_ne_true, ob_s]⟩
  · rw [e1, Zox_l, e2, pas_t, lt2_d, if_pos rfl, sS_sA]
    have hG := hC.1.2 g hg
    have hgs := Z_gsel hg
    have kc : (S 0 (1 + g)).1 6 = Hc A (10 + 2 * 0 + g) := hG.1 0 (by decide)
    have km : s (14 + g) = Hc A (10 + 2 * 0 + g) := hM.2.1.2 g 0 hg (by decide)
    exact rQl ⟨Hc A (10 + 2 * 0 + g), by rw [hgs, kc], by
      rw [L14, Z_add, if_pos (by rw [Z_vpb (by omega)]; omega), Z_ag0 (by omega), km, ob_s]⟩
theorem E39 {S : SS} {τ : HV} {T : Nat} (h : LR S τ T) (p : Int32) : rQ (F_X10_messagesDelivered p S) (F_X11_messagesDelivered p τ) τ 2 := by
  obtain ⟨A, t, s, rfl, hC, hM, hI⟩ := LR_get h
  have hH := hC.1.1
  have bI := hI
  obtain ⟨hT, ⟨⟨b0, b0'⟩, ⟨b1, b1'⟩, b2, ⟨b3, b3'⟩, ⟨b4, b4'⟩, ⟨b5, b5'⟩, b6, b7⟩, hRw, hNs, hQu, hPr, hVm⟩ := id hI
  unfold F_X10_messagesDelivered F_X11_messagesDelivered
  unfold F_X11_counter
  rcases gard_c p with ⟨e1, e2⟩ | ⟨g, hg, rfl, e1, e2⟩
  · exact Or.inr ⟨0, by rw [e1, Zox_r], by rw [e2, pas_f, lt2_d, if_neg Bool.false_ne_true, ob_s]⟩
  · rw [e1, Zox_l, e2, pas_t, lt2_d, if_pos rfl, sS_sA]
    have hG := hC.1.2 g hg
    have hgs := Z_gsel hg
    have kc : (S 0 (1 + g)).1 7 = Hc A (10 + 2 * 1 + g) := hG.1 1 (by decide)
    have km : s (16 + g) = Hc A (10 + 2 * 1 + g) := hM.2.1.2 g 1 hg (by decide)
    exact rQl ⟨Hc A (10 + 2 * 1 + g), by rw [hgs, kc], by
      rw [L16, Z_add, if_pos (by rw [Z_vpb (by omega)]; omega), Z_ag0 (by omega), km, ob_s]⟩
theorem E40 {S : SS} {τ : HV} {T : Nat} (h : LR S τ T) (p : Int32) : rQ (F_X10_messagesFailed p S) (F_X11_messagesFailed p τ) τ 2 := by
  obtain ⟨A, t, s, rfl, hC, hM, hI⟩ := LR_get h
  have hH := hC.1.1
  have bI := hI
  obtain ⟨hT, ⟨⟨b0, b0'⟩, ⟨b1, b1'⟩, b2, ⟨b3, b3'⟩, ⟨b4, b4'⟩, ⟨b5, b5'⟩, b6, b7⟩, hRw, hNs, hQu, hPr, hVm⟩ := id hI
  unfold F_X10_messagesFailed F_X11_messagesFailed
  unfold F_X11_counter
  rcases gard_c p with ⟨e1, e2⟩ | ⟨g, hg, rfl, e1, e2⟩
  · exact Or.inr ⟨0, by rw [e1, Zox_r], by rw [e2, pas_f, lt2_d, if_neg Bool.false_ne_true, ob_s]⟩
  · rw [e1, Zox_l, e2, pas_t, lt2_d, if_pos rfl, sS_sA]
    have hG := hC.1.2 g hg
    have hgs := Z_gsel hg
    have kc : (S 0 (1 + g)).1 8 = Hc A (10 + 2 * 2 + g) := hG.1 2 (by decide)
    have km : s (18 + g) = Hc A (10 + 2 * 2 + g) := hM.2.1.2 g 2 hg (by decide)
    exact rQl ⟨Hc A (10 + 2 * 2 + g), by rw [hgs, kc], by
      rw [L18, Z_add, if_pos (by rw [Z_vpb (by omega)]; omega), Z_ag0 (by omega), km, ob_s]⟩
theorem E41 {S : SS} {τ : HV} {T : Nat} (h : LR S τ T) (p : Int32) : rQ (F_X10_messagesDropped p S) (F_X11_messagesDropped p τ) τ 2 := by
  obtain ⟨A, t, s, rfl, hC, hM, hI⟩ := LR_get h
  have hH := hC.1.1
  have bI := hI
  obtain ⟨hT, ⟨⟨b0, b0'⟩, ⟨b1, b1'⟩, b2, ⟨b3, b3'⟩, ⟨b4, b4'⟩, ⟨b5, b5'⟩, b6, b7⟩, hRw, hNs, hQu, hPr, hVm⟩ := id hI
  unfold F_X10_messagesDropped F_X11_messagesDropped
  unfold F_X11_counter
  rcases gard_c p with ⟨e1, e2⟩ | ⟨g, hg, rfl, e1, e2⟩
  · exact Or.inr ⟨0, by rw [e1, Zox_r], by rw [e2, pas_f, lt2_d, if_neg Bool.false_ne_true, ob_s]⟩
  · rw [e1, Zox_l, e2, pas_t, lt2_d, if_pos rfl, sS_sA]
    have hG := hC.1.2 g hg
    have hgs := Z_gsel hg
    have kc : (S 0 (1 + g)).1 9 = Hc A (10 + 2 * 3 + g) := hG.1 3 (by decide)
    have km : s (20 + g) = Hc A (10 + 2 * 3 + g) := hM.2.1.2 g 3 hg (by decide)
    exact rQl ⟨Hc A (10 + 2 * 3 + g), by rw [hgs, kc], by
      rw [L20, Z_add, if_pos (by rw [Z_vpb (by omega)]; omega), Z_ag0 (by omega), km, ob_s]⟩
theorem C_letterOf {A : AS} {u : HV} {g : Nat} (hG : RG A g u) (h8 : (Hq A g).length ≤ 8) (hw : ∀ k, k < (Hq A g).length → ((Hq A g).getD k []).length ≤ 12) : (∀ x y : Int32, (x < 0 ∨ nI (Hq A g).length ≤ x) → F_X4_letterOf x y u = -1) ∧ (∀ m, ∀ y : Int32, m < (Hq A g).length → (y < 0 ∨ nI ((Hq A g).getD m []).length ≤ y) → F_X4_letterOf (nI m) y u = -1) ∧ ∀ m i, m < (Hq A g).length → i < ((Hq A g).getD m []).length → F_X4_letterOf (nI m) (nI i) u = nI (((Hq A g).getD m []).getD i 0) := by
  have h0 : ∀ y : Int32, ¬ y < 0 → (0 : Int32) ≤ y := fun y hy => by
    rw [Int32.le_iff_toInt_le]
    rw [Int32.lt_iff_toInt_lt] at hy
    omega
  refine ⟨fun x y hx => ?_, fun m y hm hy => ?_, fun m i hm hi => ?_⟩
  · have hp : F_X4_hasPending x u = false := by
      unfold F_X4_hasPending
      rw [hG.2.2.1]
      rcases hx with c | c
      · rw [if_pos c]
      · rw [if_pos c]; split <;> rfl
    unfold F_X4_letterOf F_X4_lengthOf
    rw [hp, if_neg Bool.false_ne_true]
    by_cases c3 : y < 0
    · rw [if_pos c3]
    · rw [if_neg c3, if_pos (h0 y c3)]
  · unfold F_X4_letterOf
    rw [C_lengthOf hG h8 (by omega)]
    rcases hy with c | c
    · rw [if_pos c]
    · rw [if_pos c]; split <;> rfl
  · have hl := hw m hm
    unfold F_X4_letterOf
    rw [C_lengthOf hG h8 (by omega), if_neg (nI_pos (by omega)), if_neg (by rw [Z_le (by omega) (by omega)]; omega), L12, Z_mul, Z_add, Z_rget (by omega) (by decide), if_pos (by omega), show m * 12 + i = 12 * m + i by omega, hG.2.2.2.2 m i hm hi]
theorem E20 {S : SS} {τ : HV} {T : Nat} (h : LR S τ T) (p p2 p3 : Int32) : rQ (F_X10_pendingLetter p p2 p3 S) (F_X11_pendingLetter p p2 p3 τ) τ 2 := by
  obtain ⟨A, t, s, rfl, hC, hM, hI⟩ := LR_get h
  have bI := hI
  obtain ⟨hT, ⟨⟨b0, b0'⟩, ⟨b1, b1'⟩, b2, ⟨b3, b3'⟩, ⟨b4, b4'⟩, ⟨b5, b5'⟩, b6, b7⟩, hRw, hNs, hQu, hPr, hVm⟩ := id hI
  unfold F_X10_pendingLetter F_X11_pendingLetter
  rcases gard_c p with ⟨e1, e2⟩ | ⟨g, hg, rfl, e1, e2⟩
  · exact Or.inr ⟨0, by rw [e1, Zox_r], by rw [e2, pas_f, lt2_d, if_neg Bool.false_ne_true]⟩
  · rw [e1, Zox_l, e2, pas_t, lt2_d, if_pos rfl, sS_sA]
    have hG := hC.1.2 g hg
    have hgs := Z_gsel hg
    have hpl := Inv_pl bI hg
    have q8 := (hQu g hg).1
    have k12 : s (12 + g) = nI (Hq A g).length := hM.2.2.1.2 g hg
    obtain ⟨c1, c2, c3⟩ := C_letterOf hG q8 (fun k hk => (Inv_qw bI hg hk).2.1)
    rw [hgs]
    have kv : vpb (12 + nI g) 760 = true := by rw [L12, Z_add, Z_vpb (by omega)]; omega
    rw [if_pos kv, show ag (sA (sS t 6 0) 0 s) 0 (12 + nI g) = nI (Hq A g).length by rw [L12, Z_add, Z_ag0 (by omega), k12]]
    rcases in_c p2 (n := (Hq A g).length) (by omega) with ⟨e3, e4⟩ | ⟨m, hm, rfl, e3⟩
    · exact rQl ⟨-1, by rw [c1 _ _ e4], by rw [e3, if_neg Bool.false_ne_true]⟩
    · have hwd := Inv_qw bI hg hm
      obtain ⟨w1, w2⟩ := hM.2.2.2.2.1 g m hg hm
      have hl12 := hwd.2.1
      have hkk : 222 + 13 * (8 * g + m) < 430 := by omega
      rw [e3, if_pos rfl]
      have kw : F_X11_waitingAt (nI g) (nI m) = nI (222 + 13 * (8 * g + m)) := by
        unfold F_X11_waitingAt
        simp only [L8, L13, L222, Z_mul, Z_add]
      rw [kw, if_pos (by rw [Z_vpb (by omega)]; omega), Z_ag0 (by omega), w1]
      rcases in_c p3 (n := ((Hq A g).getD m []).length) (by omega) with ⟨e5, e6⟩ | ⟨i, hi, rfl, e5⟩
      · exact rQl ⟨-1, by rw [c2 m _ hm e6], by rw [e5, if_neg Bool.false_ne_true]⟩
      · refine rQl ⟨nI (((Hq A g).getD m []).getD i 0), by rw [c3 m i hm hi], ?_⟩
        rw [e5, if_pos rfl, L1, Z_add, Z_add, if_pos (by rw [Z_vpb (by omega)]; omega), Z_ag0 (by omega), w2 i hi]
