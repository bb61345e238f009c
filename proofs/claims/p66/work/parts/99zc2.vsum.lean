/-! ===== vsum: the law's sum, by the state ===== -/
def sL (A : AS) (l : Int64) : Nat → Int64
  | 0 => l
  | i + 1 => ((((((31 : Int64) * sL A l i) + (ltV A i).toInt64) + ((3 : Int64) * (owV A i).toInt64)) + ((5 : Int64) * (nI (Hr A 2 i)).toInt64)) + ((7 : Int64) * (nI (Hr A 3 i)).toInt64)) + (if 0 < Hr A 4 i then (11 : Int64) else (0 : Int64))
def pLt (A : AS) (g m i : Nat) : Int32 := if m < (Hq A g).length ∧ i < ((Hq A g).getD m []).length then nI (((Hq A g).getD m []).getD i 0) else -1
def sW (A : AS) (g m : Nat) (l : Int64) : Nat → Int64
  | 0 => l
  | i + 1 => ((31 : Int64) * sW A g m l i) + (pLt A g m i).toInt64
def sQ (A : AS) (g : Nat) (l : Int64) : Nat → Int64
  | 0 => l
  | m + 1 => sW A g m (sQ A g l m) 6
def sT0 (A : AS) (g : Nat) : Int32 := if (Hp A g).2.2 ≠ [] then nI (Hp A g).2.1 else -1
def sG1 (A : AS) (g : Nat) (l : Int64) : Int64 := (((((31 : Int64) * (((((31 : Int64) * l) + (nI (Hq A g).length).toInt64) + ((3 : Int64) * (nI (Hp A g).1).toInt64)) + ((5 : Int64) * (sT0 A g).toInt64) + ((7 : Int64) * (nI (cnt (pstB A g) (Hl A).length)).toInt64))) + (Hc A (10 + g)).toInt64) + ((3 : Int64) * (Hc A (12 + g)).toInt64)) + ((5 : Int64) * (Hc A (14 + g)).toInt64)) + ((7 : Int64) * (Hc A (16 + g)).toInt64)
def sG (A : AS) (l : Int64) : Nat → Int64
  | 0 => l
  | g + 1 => sQ A g (sG1 A g (sG A l g)) (Hq A g).length
def sum0 (A : AS) : Int64 := (((((31 : Int64) * (((31 : Int64) * (nI (Hn A 6)).toInt64) + (nI (Hn A 7)).toInt64)) + (nI (Hn A 1)).toInt64) + ((7 : Int64) * (Hc A 0).toInt64)) + ((11 : Int64) * (Hc A 1).toInt64)) + ((13 : Int64) * (Hc A 2).toInt64)
def sumA (A : AS) : Int64 := sG A (sL A (sum0 A) (Hn A 0)) 2
theorem nI_s (i : Nat) : nI i + 1 = nI (i + 1) := nI_add i 1
theorem VL_60 {A : AS} {T : Nat} {S : SS} (hC : RC A (S 0)) (hI : Inv A T) {N : Nat} (hN : 400 < N) (l : Int64) : lpN N (fun z => st_L_sum_60 N z.1 z.2 S) (l, 0) = some (.inl (sL A l (Hn A 0))) := by
  have h40 := hI.2.1.1.2
  refine lpN_for (x := fun i => (sL A l i, nI i)) (n := Hn A 0) (by omega) (fun i hi => ?_) ?_
  · show st_L_sum_60 N (sL A l i) (nI i) S = some (.inl (sL A l (i + 1), nI (i + 1)))
    unfold st_L_sum_60
    rw [V_slotCount hC hI, if_neg (by rw [Z_le (by omega) (by omega)]; omega), V_letterAt hC hI hi, ob1_s, V_ownerAt hC hI hi, ob1_s, V_lengthAt hC hI hi, ob1_s, V_nestDays hC hI hi, ob1_s, V_isReserved hC hI hi, ob1_s, nI_s]
    by_cases c : 0 < Hr A 4 i
    · rw [if_pos (decide_eq_true c), ob1_s]
      show _ = some (Sum.inl (_ + (if 0 < Hr A 4 i then (11 : Int64) else (0 : Int64)), _))
      rw [if_pos c]
    · rw [if_neg (by rw [decide_eq_true_eq]; exact c), ob1_s]
      show _ = some (Sum.inl (_ + (if 0 < Hr A 4 i then (11 : Int64) else (0 : Int64)), _))
      rw [if_neg c]
  · show st_L_sum_60 N (sL A l (Hn A 0)) (nI (Hn A 0)) S = some (.inr (.inl (sL A l (Hn A 0))))
    unfold st_L_sum_60
    rw [V_slotCount hC hI, if_pos (Int32.le_refl _)]
theorem VL_251 {A : AS} {T : Nat} {S : SS} (hC : RC A (S 0)) (hI : Inv A T) {N g m : Nat} (hN : 400 < N) (hg : g < 2) (hm : m < 2 ^ 20) (l : Int64) : lpN N (fun z => st_L_sum_251 N (nI g) (nI m) z.1 z.2 S) (l, 0) = some (.inl (sW A g m l 6)) := by
  refine lpN_for (x := fun i => (sW A g m l i, nI i)) (n := 6) (by omega) (fun i hi => ?_) ?_
  · show st_L_sum_251 N (nI g) (nI m) (sW A g m l i) (nI i) S = some (.inl (sW A g m l (i + 1), nI (i + 1)))
    unfold st_L_sum_251
    rw [L6, if_neg (show ¬ nI 6 ≤ nI i by rw [Z_le (by omega) (by omega)]; omega), V_letter hC hI hg hm (by omega), ob1_s, nI_s]
    rfl
  · show st_L_sum_251 N (nI g) (nI m) (sW A g m l 6) (nI 6) S = some (.inr (.inl (sW A g m l 6)))
    unfold st_L_sum_251
    rw [if_pos (by decide)]
theorem VL_238 {A : AS} {T : Nat} {S : SS} (hC : RC A (S 0)) (hI : Inv A T) {N g : Nat} (hN : 400 < N) (hg : g < 2) (l : Int64) : lpN N (fun z => st_L_sum_238 N (nI g) z.1 z.2 S) (l, 0) = some (.inl (sQ A g l (Hq A g).length)) := by
  have q8 := (hI.2.2.2.2.1 g hg).1
  refine lpN_for (x := fun i => (sQ A g l i, nI i)) (n := (Hq A g).length) (by omega) (fun i hi => ?_) ?_
  · show st_L_sum_238 N (nI g) (sQ A g l i) (nI i) S = some (.inl (sQ A g l (i + 1), nI (i + 1)))
    unfold st_L_sum_238
    rw [V_pending hC hI hg, ob1_s, if_neg (by rw [Z_le (by omega) (by omega)]; omega), VL_251 hC hI hN hg (by omega)]
    show some (Sum.inl (sW A g i (sQ A g l i) 6, nI i + 1)) = _
    rw [nI_s]
    rfl
  · show st_L_sum_238 N (nI g) (sQ A g l (Hq A g).length) (nI (Hq A g).length) S = some (.inr (.inl (sQ A g l (Hq A g).length)))
    unfold st_L_sum_238
    rw [V_pending hC hI hg, ob1_s, if_pos (Int32.le_refl _)]
theorem VL_138 {A : AS} {T : Nat} {S : SS} (hC : RC A (S 0)) (hI : Inv A T) {N : Nat} (hN : 400 < N) (l : Int64) : lpN N (fun z => st_L_sum_138 N z.1 z.2 S) (l, 0) = some (.inl (sG A l 2)) := by
  refine lpN_for (x := fun i => (sG A l i, nI i)) (n := 2) (by omega) (fun g hg => ?_) ?_
  · show st_L_sum_138 N (sG A l g) (nI g) S = some (.inl (sG A l (g + 1), nI (g + 1)))
    unfold st_L_sum_138
    rw [L2, if_neg (show ¬ nI 2 ≤ nI g by rw [Z_le (by omega) (by omega)]; omega), V_pending hC hI hg, ob1_s, V_written hC hI hg, ob1_s, V_start hC hI hg, ob1_s, V_posted hC hI hg hN, ob1_s, V_queued hC hI hg, ob1_s, V_delivered hC hI hg, ob1_s, V_failed hC hI hg, ob1_s, V_dropped hC hI hg, ob1_s, VL_238 hC hI hN hg]
    show some (Sum.inl (sQ A g _ (Hq A g).length, nI g + 1)) = _
    rw [nI_s]
    rfl
  · show st_L_sum_138 N (sG A l 2) (nI 2) S = some (.inr (.inl (sG A l 2)))
    unfold st_L_sum_138
    rw [if_pos (by decide)]
theorem VL_sum {A : AS} {T : Nat} {S : SS} (hC : RC A (S 0)) (hI : Inv A T) {N : Nat} (hN : 400 < N) : F_L_sum N S = some (sumA A) := by
  unfold F_L_sum
  rw [V_day hC hI, V_actionsLeft hC hI, V_workLimit hC hI, V_twigsPlanted hC hI, V_twigsPruned hC hI, V_twigsRemoved hC hI, VL_60 hC hI hN]
  show om (lpN N (fun z => st_L_sum_138 N z.1 z.2 S) (_, 0)) _ _ = _
  rw [VL_138 hC hI hN]
  rfl
