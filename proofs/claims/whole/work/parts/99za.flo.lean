/-! ===== the two calls that answer with a fraction ===== -/
theorem n32_i {r : UInt32} (h : r &&& 0x7fffffff ≤ 0x7f800000) : n32 r = true := decide_eq_true h
theorem n64_i {r : UInt64} (h : r &&& 0x7fffffffffffffff ≤ 0x7ff0000000000000) : n64 r = true := decide_eq_true h
theorem E48 {S : SS} {τ : HV} {T N : Nat} (h : LR S τ T) (hN : 400 < N) : ∃ v, F_X10_meanLength N S = some v ∧ n64 (FP.f2d v) = true ∧ Op.cmpValue (FP.dcmp (FP.f2d v) (FP.f2d v)) .l = 0 ∧ F_X11_meanLength N τ = some (v, sS τ 6 0) := by
  obtain ⟨A, t, s, rfl, hC, hM, hI⟩ := LR_get h
  have bI := hI
  obtain ⟨hT, ⟨⟨b0, b0'⟩, ⟨b1, b1'⟩, b2, ⟨b3, b3'⟩, ⟨b4, b4'⟩, ⟨b5, b5'⟩, b6, b7⟩, hRw, hNs, hQu, hPr, hVm⟩ := id hI
  have hcl := cnt_le (twgB (Hr A)) (Hn A 0)
  have hc := C_countTwigs (N := N) hC.1.1 bI (by omega)
  have hs := C_sum (N := N) hC.1.1 bI (by omega)
  have hm : ∀ t', F_X11_twigs N (sA t' 0 s) = some (nI (cnt (twgB (Hr A)) (Hn A 0))) := fun t' => M_twigs hM.1 hM.2.2.2.1 bI (by omega)
  have ea : ag (sA (sS t 6 0) 0 s) 0 0 = nI (Hn A 0) := by rw [L0, Z_ag0 (by decide), hM.1 0 (by decide)]
  have run : ∀ r, st_X11_meanLength_9 N (nI (sumF (Hr A 2) (Hn A 0))) (nI (Hn A 0)) (sA (sS t 6 0) 0 s) = some (.inr r) → F_X11_meanLength N (sA t 0 s) = some r := fun r hr => by
    unfold F_X11_meanLength
    rw [sS_sA, lt_d]
    have key := lpN_for (f := fun z => st_X11_meanLength_9 N z.1 z.2.1 z.2.2) (x := fun i => (nI (sumF (Hr A 2) i), nI i, sA (sS t 6 0) 0 s)) (r := r) (n := Hn A 0) (N := N) (by omega) (fun i hi => ?_) hr
    · exact key
    · show st_X11_meanLength_9 N (nI (sumF (Hr A 2) i)) (nI i) (sA (sS t 6 0) 0 s) = some (.inl (nI (sumF (Hr A 2) i + Hr A 2 i), nI (i + 1), sA (sS t 6 0) 0 s))
      unfold st_X11_meanLength_9
      rw [if_pos (show vpb 0 760 = true by decide), ea, if_neg (show ¬ nI (Hn A 0) ≤ nI i by rw [Z_le (by omega) (by omega)]; omega), show (2 : Int32) = nI 2 from rfl, M_ofR hM.2.2.2.1 (by decide) (by omega), mLet_2, ob1_s, Z_add, show (1 : Int32) = nI 1 from rfl, Z_add]
  by_cases c : cnt (twgB (Hr A)) (Hn A 0) = 0
  · refine ⟨FP.fconst0, ?_, n64_i (fl_n64 (fl_w fl_f0)), fl_c (fl_w fl_f0), run _ ?_⟩
    · unfold F_X10_meanLength
      rw [hc, ob1_s, c, if_pos (show nI 0 ≤ 0 by decide)]
    · unfold st_X11_meanLength_9
      rw [sS_sA, if_pos (show vpb 0 760 = true by decide), ea, if_pos (show nI (Hn A 0) ≤ nI (Hn A 0) by rw [Z_le (by omega) (by omega)]; omega), hm, ob1_s, c, if_pos (show nI 0 = 0 from rfl)]
  · have hb : nI (cnt (twgB (Hr A)) (Hn A 0)) ≠ 0 := by
      show ¬ nI (cnt (twgB (Hr A)) (Hn A 0)) = nI 0
      rw [Z_eq (by omega) (by omega)]
      exact c
    have hn := fl_d32 (nI (sumF (Hr A 2) (Hn A 0))) hb
    refine ⟨FP.fdiv (FP.i2f (nI (sumF (Hr A 2) (Hn A 0)))) (FP.i2f (nI (cnt (twgB (Hr A)) (Hn A 0)))), ?_, n64_i (fl_n64 (fl_w hn)), fl_c (fl_w hn), run _ ?_⟩
    · unfold F_X10_meanLength
      rw [hc, ob1_s, if_neg (show ¬ nI (cnt (twgB (Hr A)) (Hn A 0)) ≤ 0 by rw [L0, Z_le (by omega) (by omega)]; omega), hs, ob1_s, if_pos (n32_i (fl_n32 hn))]
    · unfold st_X11_meanLength_9
      rw [sS_sA, if_pos (show vpb 0 760 = true by decide), ea, if_pos (show nI (Hn A 0) ≤ nI (Hn A 0) by rw [Z_le (by omega) (by omega)]; omega), hm, ob1_s, if_neg hb, ob1_s, if_pos (n32_i (fl_n32 hn))]
theorem E49 {S : SS} {τ : HV} {T N : Nat} (h : LR S τ T) (hN : 400 < N) : ∃ v, F_X10_occupancy N S = some v ∧ Op.cmpValue (FP.dcmp v v) .l = 0 ∧ F_X11_occupancy N τ = some (v, sS τ 6 0) := by
  obtain ⟨A, t, s, rfl, hC, hM, hI⟩ := LR_get h
  have bI := hI
  obtain ⟨hT, ⟨⟨b0, b0'⟩, ⟨b1, b1'⟩, b2, ⟨b3, b3'⟩, ⟨b4, b4'⟩, ⟨b5, b5'⟩, b6, b7⟩, hRw, hNs, hQu, hPr, hVm⟩ := id hI
  have hc := C_countTwigs (N := N) hC.1.1 bI (by omega)
  have hm : ∀ t', F_X11_twigs N (sA t' 0 s) = some (nI (cnt (twgB (Hr A)) (Hn A 0))) := fun t' => M_twigs hM.1 hM.2.2.2.1 bI (by omega)
  have ea : ag (sA (sS t 6 0) 0 s) 0 0 = nI (Hn A 0) := by rw [L0, Z_ag0 (by decide), hM.1 0 (by decide)]
  have e0 : (S 0 0).1 0 = nI (Hn A 0) := hC.1.1.1 0 (by decide)
  have hb : nI (Hn A 0) ≠ 0 := by
    show ¬ nI (Hn A 0) = nI 0
    rw [Z_eq (by omega) (by omega)]
    omega
  have hn := fl_d64 (nI (cnt (twgB (Hr A)) (Hn A 0))) hb
  refine ⟨FP.ddiv (FP.i2d (nI (cnt (twgB (Hr A)) (Hn A 0)))) (FP.i2d (nI (Hn A 0))), ?_, fl_c hn, ?_⟩
  · unfold F_X10_occupancy
    rw [e0, if_neg (show ¬ nI (Hn A 0) ≤ 0 by rw [L0, Z_le (by omega) (by omega)]; omega), hc, ob1_s, if_pos (n64_i (fl_n64 hn))]
  · unfold F_X11_occupancy
    rw [sS_sA, lt_d, hm, ob1_s, if_pos (show vpb 0 760 = true by decide), ea, if_pos (n64_i (fl_n64 hn))]
