/-! ===== looking on: the other side ===== -/
theorem M_twigs {A : AS} {T : Nat} {t : HV} {s : Nat → Int32} (hf : RMf (Hn A) s) (hr : RMr (Hr A) s) (hI : Inv A T) {N : Nat} (hN : 40 < N) : F_X11_twigs N (sA t 0 s) = some (nI (cnt (twgB (Hr A)) (Hn A 0))) := by
  have bI := hI
  obtain ⟨hT, ⟨⟨b0, b0'⟩, ⟨b1, b1'⟩, b2, ⟨b3, b3'⟩, ⟨b4, b4'⟩, ⟨b5, b5'⟩, b6, b7⟩, hRw, hNs, hQu, hPr, hVm⟩ := id hI
  have n0 : s 0 = nI (Hn A 0) := hf 0 (by decide)
  unfold F_X11_twigs
  refine lp_cnt (twgB (Hr A)) (by omega) (fun i c hi hc => ?_) (fun c hc => ?_)
  · show st_X11_twigs_4 N (nI c) (nI i) (sA t 0 s) = _
    unfold st_X11_twigs_4
    simp (disch := omega) only [L0, L1, L760, Z_vpb, Z_ag0, n0, Z_le, Z_add, if_pos, if_neg, M_hasTwig hr hRw (show i < 40 by omega), ob1_s, Z_truth]
    rfl
  · show st_X11_twigs_4 N (nI c) (nI (Hn A 0)) (sA t 0 s) = _
    unfold st_X11_twigs_4
    simp (disch := omega) only [L0, L760, Z_vpb, Z_ag0, n0, Z_le, if_pos]
theorem M_nests {A : AS} {T : Nat} {t : HV} {s : Nat → Int32} (hf : RMf (Hn A) s) (hr : RMr (Hr A) s) (hI : Inv A T) {N : Nat} (hN : 40 < N) : F_X11_nests N (sA t 0 s) = some (nI (cnt (nstB (Hr A)) (Hn A 0))) := by
  have bI := hI
  obtain ⟨hT, ⟨⟨b0, b0'⟩, ⟨b1, b1'⟩, b2, ⟨b3, b3'⟩, ⟨b4, b4'⟩, ⟨b5, b5'⟩, b6, b7⟩, hRw, hNs, hQu, hPr, hVm⟩ := id hI
  have n0 : s 0 = nI (Hn A 0) := hf 0 (by decide)
  unfold F_X11_nests
  refine lp_cnt (nstB (Hr A)) (by omega) (fun i c hi hc => ?_) (fun c hc => ?_)
  · show st_X11_nests_4 N (nI c) (nI i) (sA t 0 s) = _
    have q3 := Inv_b bI i (a := 3) (by decide)
    unfold st_X11_nests_4
    rw [L4, M_ofR hr (by decide) (show i < 40 by omega), mLet_4]
    simp (disch := omega) only [L0, L1, L760, Z_vpb, Z_ag0, n0, Z_le, Z_add, if_pos, if_neg, ob1_s, Z_truth, nstB_t]
    by_cases c : Hr A 3 i ≤ 0
    · rw [if_pos c, if_neg (show ¬ 0 < Hr A 3 i by omega)]; rfl
    · rw [if_neg c, if_pos (show 0 < Hr A 3 i by omega)]; rfl
  · show st_X11_nests_4 N (nI c) (nI (Hn A 0)) (sA t 0 s) = _
    unfold st_X11_nests_4
    simp (disch := omega) only [L0, L760, Z_vpb, Z_ag0, n0, Z_le, if_pos]
theorem M_plR {A : AS} {T : Nat} {t : HV} {s : Nat → Int32} (hM : RM A s) (hI : Inv A T) {k N : Nat} (hk : k < Hn A 0) (hN : 40 < N) : F_X11_whyNotPlant N (nI k) (sA t 0 s) = some (nI (plR (Hr A) (Hn A 7) k)) := by
  have bI := hI
  obtain ⟨hT, ⟨⟨b0, b0'⟩, ⟨b1, b1'⟩, b2, ⟨b3, b3'⟩, ⟨b4, b4'⟩, ⟨b5, b5'⟩, b6, b7⟩, hRw, hNs, hQu, hPr, hVm⟩ := id hI
  have n7 : s 7 = nI (Hn A 7) := hM.1 7 (by decide)
  unfold F_X11_whyNotPlant plR
  rw [M_hasTwig hM.2.2.2.1 hRw (show k < 40 by omega), M_isReservedAt hM bI (show k < 2 ^ 20 by omega) hN, M_hasNest hM.1 hM.2.2.2.1 bI (show k < 2 ^ 31 by omega)]
  simp (disch := omega) only [L0, L7, L760, Z_vpb, Z_ag0, n7, Z_eq, if_pos, ob1_s, decide_eq_true_eq]
  by_cases c0 : 0 < Hn A 7
  · rw [if_neg (by omega), if_pos c0]
    by_cases c1 : 0 < Hr A 2 k
    · rw [if_pos c1, if_pos c1]; rfl
    · rw [if_neg c1, if_neg c1]
      by_cases c2 : 0 < Hr A 4 k
      · rw [if_pos c2, if_pos c2]; rfl
      · rw [if_neg c2, if_neg c2]
        by_cases c3 : 0 < Hr A 3 k
        · rw [if_pos c3, if_pos c3]; rfl
        · rw [if_neg c3, if_neg c3]
  · rw [if_pos (by omega), if_neg c0]; rfl
theorem M_toR {A : AS} {T : Nat} {t : HV} {s : Nat → Int32} (hf : RMf (Hn A) s) (hr : RMr (Hr A) s) (hI : Inv A T) {k : Nat} (hk : k < 40) : F_X11_whyNotTouch (nI k) (sA t 0 s) = some (nI (toR (Hr A) (Hn A 7) (Hn A 6) k)) := by
  have bI := hI
  obtain ⟨hT, ⟨⟨b0, b0'⟩, ⟨b1, b1'⟩, b2, ⟨b3, b3'⟩, ⟨b4, b4'⟩, ⟨b5, b5'⟩, b6, b7⟩, hRw, hNs, hQu, hPr, hVm⟩ := id hI
  have n7 : s 7 = nI (Hn A 7) := hf 7 (by decide)
  have q1 := Inv_b bI k (a := 1) (by decide)
  have qm : Hn A 6 % 2 < 2 := Nat.mod_lt _ (by decide)
  unfold F_X11_whyNotTouch toR
  rw [M_hasTwig hr hRw hk, L1, M_ofR hr (by decide) hk, mLet_1, M_activeNow hf bI]
  simp (disch := omega) only [L0, L7, L760, Z_vpb, Z_ag0, n7, Z_eq, if_pos, ob1_s, decide_eq_true_eq]
  by_cases c0 : 0 < Hn A 7
  · rw [if_neg (by omega), if_pos c0]
    by_cases c1 : 0 < Hr A 2 k
    · rw [if_pos c1, if_pos c1]
      by_cases c2 : Hr A 1 k = Hn A 6 % 2
      · rw [if_pos c2, if_pos c2]
      · rw [if_neg c2, if_neg c2]; rfl
    · rw [if_neg c1, if_neg c1]; rfl
  · rw [if_pos (by omega), if_neg c0]
theorem M_reR {A : AS} {T : Nat} {t : HV} {s : Nat → Int32} (hf : RMf (Hn A) s) (hr : RMr (Hr A) s) (hI : Inv A T) {k : Nat} (hk : k < 40) : F_X11_whyNotRemove (nI k) (sA t 0 s) = some (nI (reR (Hr A) (Hn A 7) (Hn A 6) k)) := by
  have ht := toR_le (R := Hr A) (a := Hn A 7) (d := Hn A 6) (k := k)
  unfold F_X11_whyNotRemove reR
  rw [M_toR hf hr hI hk, ob1_s, L3, M_ofR hr (by decide) hk, ob1_s, mLet_3, M_isSafe hf hr hI (by omega)]
  simp (disch := omega) only [L0, L1, Z_eq, ob1_s, decide_eq_true_eq]
  by_cases c0 : toR (Hr A) (Hn A 7) (Hn A 6) k = 0
  · rw [if_pos c0, if_pos c0]
    have h2 : 0 < Hr A 2 k := by
      unfold toR at c0
      split at c0
      · split at c0
        · assumption
        · omega
      · omega
    by_cases c1 : 0 < Hr A 4 k
    · rw [if_pos (by rw [if_pos ⟨h2, c1⟩]), if_pos c1]; rfl
    · rw [if_neg (by rw [if_neg (fun q => c1 q.2)]; decide), if_neg c1]
      by_cases c2 : grd (Hr A) k
      · rw [if_pos c2, if_pos c2]; rfl
      · rw [if_neg c2, if_neg c2]
  · rw [if_neg c0, if_neg c0]
theorem M_trR {A : AS} {T : Nat} {t : HV} {s : Nat → Int32} (hf : RMf (Hn A) s) (hr : RMr (Hr A) s) (hI : Inv A T) {k : Nat} (hk : k < 40) : F_X11_whyNotTrim (nI k) (sA t 0 s) = some (nI (trR (Hr A) (Hn A 7) (Hn A 6) k)) := by
  have ht := toR_le (R := Hr A) (a := Hn A 7) (d := Hn A 6) (k := k)
  unfold F_X11_whyNotTrim trR
  rw [M_toR hf hr hI hk, ob1_s, M_isSafe hf hr hI (by omega)]
  simp (disch := omega) only [L0, Z_eq, ob1_s, decide_eq_true_eq]
  by_cases c0 : toR (Hr A) (Hn A 7) (Hn A 6) k = 0
  · rw [if_pos c0, if_pos c0]
    by_cases c2 : grd (Hr A) k
    · rw [if_pos c2, if_pos c2]; rfl
    · rw [if_neg c2, if_neg c2]
  · rw [if_neg c0, if_neg c0]
theorem M_kept {A : AS} {T : Nat} {t : HV} {s : Nat → Int32} (hf : RMf (Hn A) s) (hr : RMr (Hr A) s) (hI : Inv A T) {k : Nat} (hk : k < 40) : F_X11_whyKept (nI k) (sA t 0 s) = some (nI (keepR (Hr A) (Hn A 3) k)) := by
  have bI := hI
  obtain ⟨hT, ⟨⟨b0, b0'⟩, ⟨b1, b1'⟩, b2, ⟨b3, b3'⟩, ⟨b4, b4'⟩, ⟨b5, b5'⟩, b6, b7⟩, hRw, hNs, hQu, hPr, hVm⟩ := id hI
  have q2 := Inv_b bI k (a := 2) (by decide)
  have n3 : s 3 = nI (Hn A 3) := hf 3 (by decide)
  unfold F_X11_whyKept keepR
  rw [M_hasTwig hr hRw hk, L2, M_ofR hr (by decide) hk, mLet_2, M_isSafe hf hr bI (by omega)]
  simp (disch := omega) only [L3, L760, Z_vpb, Z_ag0, n3, Z_lt, if_pos, ob1_s, decide_eq_true_eq]
  by_cases c0 : 0 < Hr A 2 k
  · rw [if_pos c0, if_pos c0]
    by_cases c1 : Hn A 3 < Hr A 2 k
    · rw [if_pos c1, if_pos c1]
      by_cases c2 : grd (Hr A) k
      · rw [if_pos c2, if_pos c2]; rfl
      · rw [if_neg c2, if_neg c2]; rfl
    · rw [if_neg c1, if_neg c1]; rfl
  · rw [if_neg c0, if_neg c0]; rfl
theorem M_wrR {A : AS} {T : Nat} {t : HV} {s : Nat → Int32} (hM : RM A s) (hI : Inv A T) {N g : Nat} (hg : g < 2) (hN : 40 < N) : F_X11_whyNotWrite N (nI g) (sA t 0 s) = some (nI (wrR A g)) := by
  have bI := hI
  obtain ⟨hT, ⟨⟨b0, b0'⟩, ⟨b1, b1'⟩, b2, ⟨b3, b3'⟩, ⟨b4, b4'⟩, ⟨b5, b5'⟩, b6, b7⟩, hRw, hNs, hQu, hPr, hVm⟩ := id hI
  have qm : Hn A 6 % 2 < 2 := Nat.mod_lt _ (by decide)
  have q8 := (hQu g hg).1
  have n7 : s 7 = nI (Hn A 7) := hM.1 7 (by decide)
  have n12 : s (12 + g) = nI (Hq A g).length := hM.2.2.1.2 g hg
  unfold F_X11_whyNotWrite wrR
  rw [M_activeNow hM.1 bI, ob1_s, M_isInProgress hM.2.2.2.2.2.1 hg (Inv_pl bI hg).1, ob1_s, M_startOfNext hM bI hg hN, ob1_s]
  simp (disch := omega) only [L0, L7, L12, L760, Z_vpb, Z_ag0, n7, n12, Z_eq, Z_add, if_pos, decide_eq_true_eq]
  by_cases c0 : g = Hn A 6 % 2
  · rw [if_pos c0, if_pos c0]
    by_cases c1 : 0 < Hn A 7
    · rw [if_neg (by omega), if_pos c1]
      by_cases c2 : (Hp A g).2.2 ≠ []
      · rw [if_pos c2, if_pos c2]
      · rw [if_neg c2, if_neg c2]
        by_cases c3 : (Hq A g).length = 0
        · rw [if_pos c3, if_pos c3]; rfl
        · rw [if_neg c3, if_neg c3]
          cases hf : fStart (Hr A) (Hn A 0) ((Hq A g).getD 0 []).length with
          | none => rfl
          | some k =>
            have hk := (fStart_fit hf).2.1
            show (if nI k = -1 then some 12 else some (nI 0)) = _
            rw [if_neg (by rw [Z_m1 (by omega)]; exact not_false)]
    · rw [if_pos (by omega), if_neg c1]; rfl
  · rw [if_neg c0, if_neg c0]; rfl
theorem M_mark {A : AS} {T : Nat} {t : HV} {s : Nat → Int32} (hM : RM A s) (hI : Inv A T) {k N : Nat} (hk : k < Hn A 0) (hN : 40 < N) : F_X11_markOf N (nI k) (sA t 0 s) = some (nI (sgN (Hr A) k)) := by
  have bI := hI
  obtain ⟨hT, ⟨⟨b0, b0'⟩, ⟨b1, b1'⟩, b2, ⟨b3, b3'⟩, ⟨b4, b4'⟩, ⟨b5, b5'⟩, b6, b7⟩, hRw, hNs, hQu, hPr, hVm⟩ := id hI
  have q1 := Inv_b bI k (a := 1) (by decide)
  have hlet := (hRw k).2.2.1
  unfold F_X11_markOf sgN
  rw [M_hasTwig hM.2.2.2.1 hRw (show k < 40 by omega), M_isReservedAt hM bI (show k < 2 ^ 20 by omega) hN, M_hasNest hM.1 hM.2.2.2.1 bI (show k < 2 ^ 31 by omega), L0, L1, M_ofR hM.2.2.2.1 (by decide) (show k < 40 by omega), M_ofR hM.2.2.2.1 (by decide) (show k < 40 by omega), mLet_0, mLet_1]
  simp only [ob1_s, decide_eq_true_eq, L32]
  by_cases c0 : 0 < Hr A 2 k
  · have := hlet c0
    rw [if_pos c0, if_pos c0, if_pos c0, if_pos c0]
    have hz : (nI (Hr A 1 k) = nI 1) = (Hr A 1 k = 1) := Z_eq (by omega) (by omega)
    by_cases c1 : Hr A 1 k = 1
    · rw [if_pos (by rw [hz]; exact c1), if_pos c1, Z_sub (by omega)]
    · rw [if_neg (by rw [hz]; exact c1), if_neg c1]
  · rw [if_neg c0, if_neg c0]
    by_cases c1 : 0 < Hr A 4 k
    · rw [if_pos c1, if_pos c1]; rfl
    · rw [if_neg c1, if_neg c1]
      by_cases c2 : 0 < Hr A 3 k
      · rw [if_pos c2, if_pos c2]; rfl
      · rw [if_neg c2, if_neg c2]; rfl
theorem M_longest {A : AS} {T : Nat} {t : HV} {s : Nat → Int32} (hM : RM A s) (hI : Inv A T) {N : Nat} (hN : 40 < N) : lpN N (fun z => st_X11_longestFreeRun_11 N z.1 z.2.1 z.2.2.1 z.2.2.2) (0, 0, 0, sA t 0 s) = some (nI (lrF (Hr A) (Hn A 0)).1, sA t 0 s) := by
  have bI := hI
  obtain ⟨hT, ⟨⟨b0, b0'⟩, ⟨b1, b1'⟩, b2, ⟨b3, b3'⟩, ⟨b4, b4'⟩, ⟨b5, b5'⟩, b6, b7⟩, hRw, hNs, hQu, hPr, hVm⟩ := id hI
  have n0 : s 0 = nI (Hn A 0) := hM.1 0 (by decide)
  have key := lpN_for (f := fun z => st_X11_longestFreeRun_11 N z.1 z.2.1 z.2.2.1 z.2.2.2) (x := fun i => (nI (lrF (Hr A) i).1, nI (lrF (Hr A) i).2, nI i, sA t 0 s)) (r := (nI (lrF (Hr A) (Hn A 0)).1, sA t 0 s)) (n := Hn A 0) (N := N) (by omega) (fun i hi => ?_) ?_
  · exact key
  · show st_X11_longestFreeRun_11 N (nI (lrF (Hr A) i).1) (nI (lrF (Hr A) i).2) (nI i) (sA t 0 s) = some (.inl (nI (lrF (Hr A) (i + 1)).1, nI (lrF (Hr A) (i + 1)).2, nI (i + 1), sA t 0 s))
    have hb := lrF_le (R := Hr A) i
    unfold st_X11_longestFreeRun_11
    rw [M_isFree hM bI (show i < 40 by omega) hN, ob1_s, lrF_s]
    simp (disch := omega) only [L0, L1, L760, Z_vpb, Z_ag0, n0, Z_le, Z_lt, Z_add, if_pos, if_neg, Nat.not_lt_zero]
    by_cases c : freB (Hr A) i = true
    · rw [if_pos c, if_pos c]
      by_cases c2 : (lrF (Hr A) i).2 + 1 ≤ (lrF (Hr A) i).1
      · rw [if_neg (by omega), Nat.max_eq_left c2]
      · rw [if_pos (by omega), Nat.max_eq_right (by omega)]
    · rw [if_neg c, if_neg c]; rfl
  · show st_X11_longestFreeRun_11 N (nI (lrF (Hr A) (Hn A 0)).1) _ (nI (Hn A 0)) (sA t 0 s) = _
    unfold st_X11_longestFreeRun_11
    simp (disch := omega) only [L0, L760, Z_vpb, Z_ag0, n0, Z_le, if_pos]
theorem M_yard {A : AS} {T : Nat} {t : HV} {s : Nat → Int32} (hM : RM A s) (hI : Inv A T) {N : Nat} (hN : 40 < N) (y : Int32) : lpN N (fun z => st_X11_yardLetterCount_9 N y z.1 z.2.1 z.2.2) (0, 0, sA t 0 s) = some (nI (cnt (yrdB (Hr A) (Hn A 5) y) (Hn A 0)), sA t 0 s) := by
  have bI := hI
  obtain ⟨hT, ⟨⟨b0, b0'⟩, ⟨b1, b1'⟩, b2, ⟨b3, b3'⟩, ⟨b4, b4'⟩, ⟨b5, b5'⟩, b6, b7⟩, hRw, hNs, hQu, hPr, hVm⟩ := id hI
  have n0 : s 0 = nI (Hn A 0) := hM.1 0 (by decide)
  have n5 : s 5 = nI (Hn A 5) := hM.1 5 (by decide)
  have key := lpN_for (f := fun z => st_X11_yardLetterCount_9 N y z.1 z.2.1 z.2.2) (x := fun i => (nI (cnt (yrdB (Hr A) (Hn A 5) y) i), nI i, sA t 0 s)) (r := (nI (cnt (yrdB (Hr A) (Hn A 5) y) (Hn A 0)), sA t 0 s)) (n := Hn A 0) (N := N) (by omega) (fun i hi => ?_) ?_
  · exact key
  · show st_X11_yardLetterCount_9 N y (nI (cnt (yrdB (Hr A) (Hn A 5) y) i)) (nI i) (sA t 0 s) = some (.inl (nI (cnt (yrdB (Hr A) (Hn A 5) y) (i + 1)), nI (i + 1), sA t 0 s))
    unfold st_X11_yardLetterCount_9
    rw [M_hasTwig hM.2.2.2.1 hRw (show i < 40 by omega), ob1_s, cnt_s]
    simp (disch := omega) only [L0, L1, L5, L760, Z_vpb, Z_ag0, n0, n5, Z_le, Z_eq, Z_div, Z_add, if_pos, if_neg, Z_truth, decide_eq_true_eq, yrdB_t]
    by_cases c2 : 0 < Hr A 2 i
    · by_cases c1 : nI (i / Hn A 5) = y
      · rw [if_pos c2, if_pos c1, if_pos (show 0 < Hr A 2 i ∧ nI (i / Hn A 5) = y from ⟨c2, c1⟩)]; rfl
      · rw [if_pos c2, if_neg c1, if_neg (show ¬ (0 < Hr A 2 i ∧ nI (i / Hn A 5) = y) from fun q => c1 q.2)]; rfl
    · rw [if_neg c2, if_neg (show ¬ (0 < Hr A 2 i ∧ nI (i / Hn A 5) = y) from fun q => c2 q.1)]; rfl
  · show st_X11_yardLetterCount_9 N y _ (nI (Hn A 0)) (sA t 0 s) = _
    unfold st_X11_yardLetterCount_9
    simp (disch := omega) only [L0, L760, Z_vpb, Z_ag0, n0, Z_le, if_pos]
theorem M_postedOf {A : AS} {T : Nat} {t : HV} {s : Nat → Int32} (hM : RM A s) (hI : Inv A T) {N g : Nat} (hg : g < 2) (hN : 40 < N) : F_X11_postedOf N (nI g) (sA t 0 s) = some (nI (cnt (pstB A g) (Hl A).length)) := by
  have hL := Inv_l hI
  have h11 := hM.2.2.1.1
  unfold F_X11_postedOf
  refine lp_cnt (pstB A g) (by omega) (fun i c hi hc => ?_) (fun c hc => ?_)
  · show st_X11_postedOf_4 N (nI g) (nI c) (nI i) (sA t 0 s) = _
    have hok := (Inv_lk hI hi).1
    have h14 := (hM.2.2.2.2.2.2 i hi).2.2
    unfold st_X11_postedOf_4 F_X11_postAt
    simp (disch := omega) only [L1, L11, L14, L15, L460, L760, Z_vpb, Z_ag0, h11, h14, Z_le, Z_eq, Z_add, Z_mul, if_pos, if_neg, pstB_t, Z_truth]
    by_cases c1 : ((Hl A).getD i bare).1 = g
    · rw [if_pos c1, if_pos c1]; rfl
    · rw [if_neg c1, if_neg c1]; rfl
  · show st_X11_postedOf_4 N (nI g) (nI c) (nI (Hl A).length) (sA t 0 s) = _
    unfold st_X11_postedOf_4
    simp (disch := omega) only [L11, L760, Z_vpb, Z_ag0, h11, Z_le, if_pos]
theorem M_wrongIn {A : AS} {T : Nat} {t : HV} {s : Nat → Int32} (hr : RMr (Hr A) s) (hI : Inv A T) {m : Msg} (hm : okMs (Hr A) (Hn A 0) m) {N p n : Nat} (hp : p + 13 < 760) (hw : wAt s p m.2.2) (h13 : s (p + 13) = nI m.2.1) (hn : n ≤ m.2.2.length) (hN : 40 < N) : F_X11_wrongIn N (nI p) (nI n) (nI m.1) (sA t 0 s) = some (nI (wrgN (Hr A) m.1 m.2.1 n)) := by
  have bI := hI
  obtain ⟨hT, ⟨⟨b0, b0'⟩, ⟨b1, b1'⟩, b2, ⟨b3, b3'⟩, ⟨b4, b4'⟩, ⟨b5, b5'⟩, b6, b7⟩, hRw, hNs, hQu, hPr, hVm⟩ := id hI
  obtain ⟨hg, hwd, h40, hlt⟩ := hm
  have h12 := hwd.2.1
  unfold F_X11_wrongIn wrgN
  refine lp_cnt (wrgB (Hr A) m.1 m.2.1) (by omega) (fun i c hi hc => ?_) (fun c hc => ?_)
  · show st_X11_wrongIn_6 N (nI p) (nI n) (nI m.1) (nI c) (nI i) (sA t 0 s) = _
    have e4 := hlt i (by omega)
    have ew := hw.2 i (by omega)
    have hl := hwd.2.2 i (by omega)
    have q0 := Inv_b bI (m.2.1 + i) (a := 0) (by decide)
    have q1 := Inv_b bI (m.2.1 + i) (a := 1) (by decide)
    unfold st_X11_wrongIn_6
    simp (disch := omega) only [L0, L1, L13, L760, Z_vpb, Z_ag0, h13, ew, Z_add, Z_le, if_pos, if_neg, M_ofR hr, mLet_0, mLet_1, ob1_s, Z_truth]
    by_cases c0 : 0 < Hr A 2 (m.2.1 + i)
    · rw [if_pos c0, if_pos c0]
      simp (disch := omega) only [Z_eq, ← e4]
      by_cases c1 : Hr A 0 (m.2.1 + i) = Hr A 4 (m.2.1 + i)
      · by_cases c2 : Hr A 1 (m.2.1 + i) = m.1
        · rw [if_pos c1, if_pos c2, if_neg (show ¬ (wrgB (Hr A) m.1 m.2.1 i = true) by rw [wrgB_t]; exact fun q => q ⟨c0, c1, c2⟩)]; rfl
        · rw [if_pos c1, if_neg c2, if_pos (show wrgB (Hr A) m.1 m.2.1 i = true by rw [wrgB_t]; exact fun q => c2 q.2.2)]; rfl
      · rw [if_neg c1, if_pos (show wrgB (Hr A) m.1 m.2.1 i = true by rw [wrgB_t]; exact fun q => c1 q.2.1)]; rfl
    · rw [if_neg c0, if_neg (show ¬ (nI 0 = nI (m.2.2.getD i 0)) by rw [Z_eq (by omega) (by omega)]; omega), if_pos (show wrgB (Hr A) m.1 m.2.1 i = true by rw [wrgB_t]; exact fun q => c0 q.1)]; rfl
  · show st_X11_wrongIn_6 N (nI p) (nI n) (nI m.1) (nI c) (nI n) (sA t 0 s) = _
    unfold st_X11_wrongIn_6
    simp (disch := omega) only [Z_le, if_pos]
theorem M_wrong {A : AS} {T : Nat} {t : HV} {s : Nat → Int32} (hM : RM A s) (hI : Inv A T) {N : Nat} (hN : 40 < N) : lpN N (fun z => st_X11_wrongLetters_9 N z.1 z.2.1 z.2.2) (0, 0, sA t 0 s) = some (nI (wrgAll A), sA t 0 s) := by
  have bI := hI
  obtain ⟨hT, ⟨⟨b0, b0'⟩, ⟨b1, b1'⟩, b2, ⟨b3, b3'⟩, ⟨b4, b4'⟩, ⟨b5, b5'⟩, b6, b7⟩, hRw, hNs, hQu, hPr, hVm⟩ := id hI
  have hL := Inv_l bI
  have h11 := hM.2.2.1.1
  have hstep : ∀ g c, g < 2 → st_X11_wrongLetters_9 N (nI c) (nI g) (sA t 0 s) = some (.inl (nI (c + wrgN (Hr A) g (Hp A g).2.1 (Hp A g).1), nI (g + 1), sA t 0 s)) := fun g c hg => by
    have hpr := M_isInProgress (t := t) hM.2.2.2.2.2.1 hg (Inv_pl bI hg).1
    unfold st_X11_wrongLetters_9 F_X11_progressOf
    rw [hpr, ob1_s]
    by_cases cw : (Hp A g).2.2 = []
    · have hb := (hPr g hg).1 cw
      rw [hb]
      simp (disch := omega) only [L0, L1, L2, Z_le, Z_add, if_neg, cw, ne_eq, not_true, decide_false, Bool.false_eq_true, ↓reduceIte]
      rfl
    · obtain ⟨w1, w2, w3⟩ := (hM.2.2.2.2.2.1 g hg).2 cw
      have hok := Inv_m bI (msgs_p hg cw)
      have hw := M_wrongIn (t := t) hM.2.2.2.1 bI hok (N := N) (p := 430 + 15 * g) (n := (Hp A g).1) (by omega) w1 w2 (Inv_pl bI hg).2.2 hN
      dsimp only at hw
      simp (disch := omega) only [L1, L2, L14, L15, L430, L760, Z_vpb, Z_ag0, Z_mul, Z_le, Z_add, if_neg, if_pos, cw, ne_eq, not_false_eq_true, decide_true, ↓reduceIte, w3, hw, ob1_s]
  have hpost : ∀ c, lpN N (fun z => st_X11_wrongLetters_57 N z.1 z.2.1 z.2.2) (nI c, 0, sA t 0 s) = some (nI (c + sumF (wrgL A) (Hl A).length), sA t 0 s) := fun c => by
    have key := lpN_for (f := fun z => st_X11_wrongLetters_57 N z.1 z.2.1 z.2.2) (x := fun i => (nI (c + sumF (wrgL A) i), nI i, sA t 0 s)) (r := (nI (c + sumF (wrgL A) (Hl A).length), sA t 0 s)) (n := (Hl A).length) (N := N) (by omega) (fun i hi => ?_) ?_
    · exact key
    · show st_X11_wrongLetters_57 N (nI (c + sumF (wrgL A) i)) (nI i) (sA t 0 s) = some (.inl (nI (c + (sumF (wrgL A) i + wrgL A i)), nI (i + 1), sA t 0 s))
      have hok := Inv_lk bI hi
      have hlk := hM.2.2.2.2.2.2 i hi
      have hlo := RMl_ok bI i hi
      have hw := M_wrongIn (t := t) hM.2.2.2.1 bI hok (N := N) (p := 460 + 15 * i) (n := ((Hl A).getD i bare).2.2.length) (by omega) hlk.1 hlk.2.1 (Nat.le_refl _) hN
      unfold st_X11_wrongLetters_57 F_X11_postAt
      simp (disch := omega) only [L1, L11, L14, L15, L460, L760, Z_vpb, Z_ag0, Z_mul, Z_le, Z_add, if_neg, if_pos, h11, hlk.1.1, hlk.2.2, hw, ob1_s]
      rw [Nat.add_assoc]
      rfl
    · show st_X11_wrongLetters_57 N (nI (c + sumF (wrgL A) (Hl A).length)) (nI (Hl A).length) (sA t 0 s) = _
      unfold st_X11_wrongLetters_57
      simp (disch := omega) only [L11, L760, Z_vpb, Z_ag0, h11, Z_le, if_pos]
  obtain ⟨k, hk⟩ : ∃ k, N = k + 3 := ⟨N - 3, by omega⟩
  have h1 : (fun z : Int32 × Int32 × HV => st_X11_wrongLetters_9 N z.1 z.2.1 z.2.2) (0, 0, sA t 0 s) = some (.inl (nI (0 + wrgN (Hr A) 0 (Hp A 0).2.1 (Hp A 0).1), nI (0 + 1), sA t 0 s)) := hstep 0 0 (by decide)
  have h2 : (fun z : Int32 × Int32 × HV => st_X11_wrongLetters_9 N z.1 z.2.1 z.2.2) (nI (0 + wrgN (Hr A) 0 (Hp A 0).2.1 (Hp A 0).1), nI (0 + 1), sA t 0 s) = some (.inl (nI (0 + wrgN (Hr A) 0 (Hp A 0).2.1 (Hp A 0).1 + wrgN (Hr A) 1 (Hp A 1).2.1 (Hp A 1).1), nI (1 + 1), sA t 0 s)) := hstep 1 _ (by decide)
  have h3 : (fun z : Int32 × Int32 × HV => st_X11_wrongLetters_9 N z.1 z.2.1 z.2.2) (nI (0 + wrgN (Hr A) 0 (Hp A 0).2.1 (Hp A 0).1 + wrgN (Hr A) 1 (Hp A 1).2.1 (Hp A 1).1), nI (1 + 1), sA t 0 s) = some (.inr (nI (wrgAll A), sA t 0 s)) := by
    show st_X11_wrongLetters_9 N (nI _) (nI (1 + 1)) (sA t 0 s) = _
    unfold st_X11_wrongLetters_9
    rw [if_pos (by decide), hpost, ob1_s, Nat.zero_add]
    rfl
  generalize hF : (fun z : Int32 × Int32 × HV => st_X11_wrongLetters_9 N z.1 z.2.1 z.2.2) = F at h1 h2 h3 ⊢
  rw [hk]
  exact (lpN_l h1).trans ((lpN_l h2).trans (lpN_r h3))
theorem M_savedBy {A : AS} {T : Nat} {t : HV} {s : Nat → Int32} (hf : RMf (Hn A) s) (hr : RMr (Hr A) s) (hI : Inv A T) {k N : Nat} (hk : k < Hn A 0) (hN : 40 < N) : F_X11_savedBy N (nI k) (sA t 0 s) = some (nI (svN A k)) := by
  have bI := hI
  obtain ⟨hT, ⟨⟨b0, b0'⟩, ⟨b1, b1'⟩, b2, ⟨b3, b3'⟩, ⟨b4, b4'⟩, ⟨b5, b5'⟩, b6, b7⟩, hRw, hNs, hQu, hPr, hVm⟩ := id hI
  have hin : ∀ c j, j ≤ k + 1 → st_X11_savedBy_6 N (nI k) (nI c) (nI j) (sA t 0 s) = some (.inl (nI (c + b2N (pruB (Hr A) (Hn A 3) j)), nI (j + 1))) := fun c j hj => by
    unfold st_X11_savedBy_6
    rw [M_isSlot hf bI (show j < 2 ^ 31 by omega), ob1_s]
    simp (disch := omega) only [L1, Z_add, Z_lt, if_neg, decide_eq_true_eq, Z_truth]
    by_cases c0 : j < Hn A 0
    · rw [if_pos c0, M_wouldPrune hf hr bI (show j < 40 by omega), ob1_s]
      unfold b2N
      by_cases c1 : pruB (Hr A) (Hn A 3) j = true
      · rw [if_pos c1, if_pos c1]; rfl
      · rw [if_neg c1, if_neg c1]; rfl
    · have hs := (Inv_s bI (k := j) (by omega)).1
      have hp : ¬ pruB (Hr A) (Hn A 3) j = true := by rw [pruB_t, hs]; exact fun q => absurd q.1 (by omega)
      rw [if_neg c0]
      unfold b2N
      rw [if_neg hp]
      rfl
  have hend : ∀ c, st_X11_savedBy_6 N (nI k) (nI c) (nI (k + 1 + 1)) (sA t 0 s) = some (.inr (nI c)) := fun c => by
    unfold st_X11_savedBy_6
    simp (disch := omega) only [L1, Z_add, Z_lt, if_pos]
  unfold F_X11_savedBy
  obtain ⟨n, hn⟩ : ∃ n, N = n + 4 := ⟨N - 4, by omega⟩
  have f2 : ∀ c, (fun z : Int32 × Int32 => st_X11_savedBy_6 N (nI k) z.1 z.2 (sA t 0 s)) (nI c, nI k) = some (.inl (nI (c + b2N (pruB (Hr A) (Hn A 3) k)), nI (k + 1))) := fun c => hin c k (by omega)
  have f3 : ∀ c, (fun z : Int32 × Int32 => st_X11_savedBy_6 N (nI k) z.1 z.2 (sA t 0 s)) (nI c, nI (k + 1)) = some (.inl (nI (c + b2N (pruB (Hr A) (Hn A 3) (k + 1))), nI (k + 1 + 1))) := fun c => hin c (k + 1) (by omega)
  have f4 : ∀ c, (fun z : Int32 × Int32 => st_X11_savedBy_6 N (nI k) z.1 z.2 (sA t 0 s)) (nI c, nI (k + 1 + 1)) = some (.inr (nI c)) := hend
  have f1 : (fun z : Int32 × Int32 => st_X11_savedBy_6 N (nI k) z.1 z.2 (sA t 0 s)) (0, nI k - 1) = some (.inl (nI (if k = 0 then 0 else b2N (pruB (Hr A) (Hn A 3) (k - 1))), nI k)) := by
    by_cases c : k = 0
    · subst c
      rw [if_pos rfl]
      show st_X11_savedBy_6 N (nI 0) 0 (nI 0 - 1) (sA t 0 s) = _
      unfold st_X11_savedBy_6
      rw [show nI 0 - 1 = -1 by decide, M_isSlotN hf bI (Or.inl (by decide)), ob1_s, if_neg (by decide), if_neg (by decide)]
      rfl
    · rw [if_neg c]
      show st_X11_savedBy_6 N (nI k) (nI 0) (nI k - 1) (sA t 0 s) = _
      rw [L1, Z_sub (by omega), hin 0 (k - 1) (by omega), Nat.zero_add, show k - 1 + 1 = k by omega]
  generalize hF : (fun z : Int32 × Int32 => st_X11_savedBy_6 N (nI k) z.1 z.2 (sA t 0 s)) = F at f1 f2 f3 f4 ⊢
  rw [hn]
  exact (lpN_l f1).trans ((lpN_l (f2 _)).trans ((lpN_l (f3 _)).trans (lpN_r (f4 _))))
theorem M_best {A : AS} {T : Nat} {t : HV} {s : Nat → Int32} (hf : RMf (Hn A) s) (hr : RMr (Hr A) s) (hI : Inv A T) {N : Nat} (hN : 40 < N) : F_X11_bestNestSlot N (sA t 0 s) = some (bstR A, sS (sA t 0 s) 6 0) := by
  have bI := hI
  obtain ⟨hT, ⟨⟨b0, b0'⟩, ⟨b1, b1'⟩, b2, ⟨b3, b3'⟩, ⟨b4, b4'⟩, ⟨b5, b5'⟩, b6, b7⟩, hRw, hNs, hQu, hPr, hVm⟩ := id hI
  have n0 : s 0 = nI (Hn A 0) := hf 0 (by decide)
  have hcl := cnt_le (nstB (Hr A)) (Hn A 0)
  unfold F_X11_bestNestSlot bstR
  rw [show sS (sA t 0 s) 6 0 = sA (sS t 6 0) 0 s from rfl, lt_d, M_nests hf hr bI hN, ob1_s]
  simp (disch := omega) only [L6, Z_eq]
  by_cases c6 : cnt (nstB (Hr A)) (Hn A 0) = 6
  · rw [if_pos c6, if_pos (by omega)]
  · rw [if_neg c6, if_neg (by omega)]
    have key := lpN_for (f := fun z => st_X11_bestNestSlot_22 N z.1 z.2.1 z.2.2.1 z.2.2.2) (x := fun i => (oI (bnF A i).1, oI (bnF A i).2, nI i, sA (sS t 6 0) 0 s)) (r := (oI (bnF A (Hn A 0)).1, sA (sS t 6 0) 0 s)) (n := Hn A 0) (N := N) (by omega) (fun i hi => ?_) ?_
    · exact key
    · show st_X11_bestNestSlot_22 N (oI (bnF A i).1) (oI (bnF A i).2) (nI i) (sA (sS t 6 0) 0 s) = some (.inl (oI (bnF A (i + 1)).1, oI (bnF A (i + 1)).2, nI (i + 1), sA (sS t 6 0) 0 s))
      have hsv := svN_le (A := A) (k := i)
      unfold st_X11_bestNestSlot_22
      rw [M_hasNest hf hr bI (show i < 2 ^ 31 by omega), ob1_s, M_savedBy hf hr bI hi hN, ob1_s, ob1_s, bnF_s]
      simp (disch := omega) only [L0, L1, L760, Z_vpb, Z_ag0, n0, Z_add, Z_le, if_pos, if_neg, decide_eq_true_eq]
      by_cases c0 : Hr A 3 i = 0
      · rw [if_neg (by omega)]
        cases h2 : (bnF A i).2 with
        | none =>
          show (if nI (svN A i) ≤ -1 then _ else _) = _
          rw [if_neg (by rw [Z_lm1 (by omega)]; exact not_false), if_pos ⟨c0, fun m hm => by cases hm⟩]
          rfl
        | some m =>
          have hm := bnF_le (A := A) i m h2
          show (if nI (svN A i) ≤ nI m then _ else _) = _
          have hz : (nI (svN A i) ≤ nI m) = (svN A i ≤ m) := Z_le (by omega) (by omega)
          by_cases c1 : svN A i ≤ m
          · rw [if_pos (by rw [hz]; exact c1), if_neg (by rintro ⟨_, q⟩; have := q m rfl; omega), h2]
          · rw [if_neg (by rw [hz]; exact c1), if_pos ⟨c0, fun m' hm' => by cases hm'; omega⟩]
            rfl
      · rw [if_pos (by omega), if_neg (fun q => c0 q.1)]
    · show st_X11_bestNestSlot_22 N (oI (bnF A (Hn A 0)).1) _ (nI (Hn A 0)) (sA (sS t 6 0) 0 s) = _
      unfold st_X11_bestNestSlot_22
      simp (disch := omega) only [L0, L760, Z_vpb, Z_ag0, n0, Z_le, if_pos]
