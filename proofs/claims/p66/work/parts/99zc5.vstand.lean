/-! ===== vstand: the state stands ===== -/
theorem fl_c32 {x : UInt32} (h : FP.Core.val32 x ≠ .nan) : Op.cmpValue (FP.fcmp x x) .l = 0 := by
  show Op.cmpValue (FP.Core.fcmp x x) .l = 0
  rw [FP.Core.fcmp_self h]
  rfl
theorem VS_9 {A : AS} {T : Nat} {S : SS} (hC : RC A (S 0)) (hI : Inv A T) {N : Nat} (hN : 400 < N) : lpN N (fun z => st_L_stands_9 N z.1 z.2.1 z.2.2.1 z.2.2.2 S) (0, 0, 0, 0) = some (.inl (nI (cnt (twgB (Hr A)) (Hn A 0)), nI (cnt (nstB (Hr A)) (Hn A 0)), nI (sumF (Hr A 2) (Hn A 0)))) := by
  have h40 := hI.2.1.1.2
  refine lpN_for (x := fun i => (nI (cnt (twgB (Hr A)) i), nI (cnt (nstB (Hr A)) i), nI (sumF (Hr A 2) i), nI i)) (n := Hn A 0) (by omega) (fun i hi => ?_) ?_
  · have b0 := Inv_b hI (a := 0) i (by decide)
    have b3 := Inv_b hI (a := 3) i (by decide)
    show st_L_stands_9 N (nI (cnt (twgB (Hr A)) i)) (nI (cnt (nstB (Hr A)) i)) (nI (sumF (Hr A 2) i)) (nI i) S = some (.inl (nI (cnt (twgB (Hr A)) i + if twgB (Hr A) i = true then 1 else 0), nI (cnt (nstB (Hr A)) i + if nstB (Hr A) i = true then 1 else 0), nI (sumF (Hr A 2) i + Hr A 2 i), nI (i + 1)))
    unfold st_L_stands_9
    rw [V_slotCount hC hI, if_neg (by rw [Z_le (by omega) (by omega)]; omega), VL_isSlot hC hI hN hi, ob1_s, if_pos rfl, V_letterAt hC hI hi, ob1_s, V_nestDays hC hI hi, V_lengthAt hC hI hi]
    have e1 : (if ltV A i < 0 then some (0 : Int32) else some 1) = some (nI (if twgB (Hr A) i = true then 1 else 0)) := by
      unfold ltV twgB
      by_cases c : 0 < Hr A 2 i
      · rw [if_pos c, if_neg (nI_pos (by omega)), if_pos (decide_eq_true c)]; rfl
      · rw [if_neg c, if_pos (by decide), if_neg (by rw [decide_eq_true_eq]; exact c)]; rfl
    have e2 : (if nI (Hr A 3 i) ≤ 0 then some (0 : Int32) else some 1) = some (nI (if nstB (Hr A) i = true then 1 else 0)) := by
      unfold nstB
      by_cases c : 0 < Hr A 3 i
      · rw [if_neg (by rw [L0, Z_le (by omega) (by decide)]; omega), if_pos (decide_eq_true c)]; rfl
      · rw [if_pos (by rw [L0, Z_le (by omega) (by decide)]; omega), if_neg (by rw [decide_eq_true_eq]; exact c)]; rfl
    rw [e1, ob1_s, ob1_s, e2, ob1_s, ob1_s, nI_add, nI_add, nI_add, nI_s]
  · show st_L_stands_9 N _ _ _ (nI (Hn A 0)) S = _
    unfold st_L_stands_9
    rw [V_slotCount hC hI, if_pos (Int32.le_refl _)]
theorem VL_stands {A : AS} {T : Nat} {S : SS} (hC : RC A (S 0)) (hI : Inv A T) (hJ : Jv A) {N : Nat} (hN : 400 < N) : F_L_stands N S = some true := by
  obtain ⟨h4, h40⟩ := hI.2.1.1
  have hT := hI.1
  have h6 := hI.2.1.2.2.2.2.2.2.1
  have hc := cnt_le (twgB (Hr A)) (Hn A 0)
  have hnst := hI.2.2.2.1
  have hg : ∀ a b c d : Int32, a - ((b + c) + d) = 0 → (a - b) - c = d := fun a b c d h => by grind
  have g1 := hg _ _ _ _ hJ.1
  obtain ⟨vm, vm2⟩ := V_mean hC hI hN
  obtain ⟨vo, vo2, vo3⟩ := V_occ hC hI hN
  have hact : nI (Hn A 6) - nI (Hn A 6) / 2 * 2 = nI (Hn A 6 % 2) := by rw [L2, Z_rem (by omega) (by decide) (by decide)]
  have hlet : ∀ l : List Msg, (∀ m ∈ l, m.1 < 2) → ∀ B : AS, Hl B = l → cnt (pstB B 0) l.length + cnt (pstB B 1) l.length = l.length := by
    intro l hl B hB
    have key : ∀ n, n ≤ l.length → cnt (pstB B 0) n + cnt (pstB B 1) n = n := by
      intro n
      induction n with
      | zero => intro _; rfl
      | succ n ih =>
        intro hn
        have h1 := ih (by omega)
        have h2 : (l.getD n bare).1 < 2 := by
          rw [List.getD_eq_getElem?_getD, List.getElem?_eq_getElem (by omega)]
          exact hl _ (List.getElem_mem _)
        rw [cnt_s, cnt_s]
        unfold pstB at *
        rw [hB]
        rcases (show (l.getD n bare).1 = 0 ∨ (l.getD n bare).1 = 1 by omega) with h3 | h3
        · rw [h3, if_pos (by decide), if_neg (by decide)]
          rw [hB] at h1
          omega
        · rw [h3, if_neg (by decide), if_pos (by decide)]
          rw [hB] at h1
          omega
    exact key _ (Nat.le_refl _)
  have hall := hlet (Hl A) (fun m hm => (hI.2.2.2.2.2.2.1 m (List.mem_append_right _ (List.mem_append_right _ hm))).1) A rfl
  have hmi : F_X10_messageImbalance S = 0 := by
    rw [V_msgImb hC hI]
    have b0 := hJ.2.1 0 (by decide)
    have b1 := hJ.2.1 1 (by decide)
    have hs : nI (cnt (pstB A 0) (Hl A).length) + nI (cnt (pstB A 1) (Hl A).length) = nI (Hl A).length := by rw [nI_add, hall]
    rw [← hs]
    have hgg : ∀ a b c d p x a' b' c' d' p' x' : Int32, (((a - b) - c) - d) - p = x → (((a' - b') - c') - d') - p' = x' → (a - (((b + c) + d) + x)) + (a' - (((b' + c') + d') + x')) - (p + p') = 0 := fun a b c d p x a' b' c' d' p' x' h h' => by grind
    exact hgg _ _ _ _ _ _ _ _ _ _ _ _ b0 b1
  unfold F_L_stands
  rw [VS_9 hC hI hN, om_l]
  show ob1 (F_L_isGardener N (nI 0) S) _ = _
  rw [VL_isGardener hC hI hJ hN (by decide), ob1_s, if_pos rfl]
  show ob1 (F_L_isGardener N (nI 1) S) _ = _
  rw [VL_isGardener hC hI hJ hN (by decide), ob1_s, if_pos rfl, V_twigCount hC hI hN, ob1_s, if_pos rfl, V_nestCount hC hI hN, ob1_s, if_pos rfl, if_neg (by rw [L6, Z_lt (by decide) (by omega)]; omega), V_active hC hI, V_day hC hI, hact, if_pos rfl, V_twigsPlanted hC hI, V_twigsPruned hC hI, V_twigsRemoved hC hI, g1, if_pos rfl, vm, ob1_s]
  have hocc : ob1 (F_X10_occupancy N S) (fun v21 => (if n64 (FP.ddiv (FP.i2d (nI (cnt (twgB (Hr A)) (Hn A 0)))) (FP.i2d (F_X10_slotCount S))) = true then (if (Op.cmpValue (FP.dcmp v21 (FP.ddiv (FP.i2d (nI (cnt (twgB (Hr A)) (Hn A 0)))) (FP.i2d (F_X10_slotCount S)))) .l) = 0 then (ob1 (F_X10_twigImbalance N S) fun v23 => (if v23 = 0 then (if (F_X10_messageImbalance S) = 0 then (ob1 (F_X10_wrongLetters N S) fun v24 => (if v24 = 0 then some true else some false)) else some false) else some false)) else some false) else none)) = some true := by
    rw [vo, ob1_s, V_slotCount hC hI, if_pos vo2, if_pos vo3, V_twigImb hC hI hN, ob1_s, if_pos hJ.1, if_pos hmi, V_wrong hC hI hN, ob1_s, hJ.2.2, if_pos (by decide)]
  by_cases c : cnt (twgB (Hr A)) (Hn A 0) = 0
  · rw [if_pos c, if_pos (show nI (cnt (twgB (Hr A)) (Hn A 0)) = 0 by rw [c]; rfl), ob1_s, if_pos (fl_c32 fl_f0)]
    exact hocc
  · have hb : ¬ nI (cnt (twgB (Hr A)) (Hn A 0)) = 0 := by
      rw [L0, Z_eq (by omega) (by decide)]
      exact c
    rw [if_neg c, if_neg hb, if_pos (vm2 c), ob1_s, if_pos (fl_c32 (fl_d32 _ hb))]
    exact hocc
