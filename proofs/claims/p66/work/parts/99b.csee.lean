/-! ===== looking on: the program's side ===== -/
theorem C_sum {A : AS} {T : Nat} {h : Nat → HV} (hH : RH A (h 0)) (hI : Inv A T) {N : Nat} (hN : 40 < N) : F_X5_sumOfLengths N h = some (nI (sumF (Hr A 2) (Hn A 0))) := by
  have bI := hI
  obtain ⟨hT, ⟨⟨b0, b0'⟩, ⟨b1, b1'⟩, b2, ⟨b3, b3'⟩, ⟨b4, b4'⟩, ⟨b5, b5'⟩, b6, b7⟩, hRw, hNs, hQu, hPr, hVm⟩ := id hI
  unfold F_X5_sumOfLengths
  have key := lpN_for (f := fun z => st_X5_sumOfLengths_4 N z.1 z.2 h) (x := fun i => (nI (sumF (Hr A 2) i), nI i)) (r := nI (sumF (Hr A 2) (Hn A 0))) (n := Hn A 0) (N := N) (by omega) (fun i hi => ?_) ?_
  · exact key
  · show st_X5_sumOfLengths_4 N (nI (sumF (Hr A 2) i)) (nI i) h = some (.inl (nI (sumF (Hr A 2) i + Hr A 2 i), nI (i + 1)))
    unfold st_X5_sumOfLengths_4
    rw [hH.1 0 (by decide), C_row hH.2.2 bI (by decide) (by omega)]
    simp (disch := omega) only [L1, Z_le, Z_add, if_neg]
  · show st_X5_sumOfLengths_4 N (nI (sumF (Hr A 2) (Hn A 0))) (nI (Hn A 0)) h = _
    unfold st_X5_sumOfLengths_4
    rw [hH.1 0 (by decide)]
    simp (disch := omega) only [Z_le, if_pos]
theorem C_plR {A : AS} {T : Nat} {h : Nat → HV} (hH : RH A (h 0)) (hI : Inv A T) {k : Nat} (hk : k < 2 ^ 31) : F_X5_reasonNotToPlant (nI k) h = nI (plR (Hr A) (Hn A 7) k) := by
  have bI := hI
  obtain ⟨hT, ⟨⟨b0, b0'⟩, ⟨b1, b1'⟩, b2, ⟨b3, b3'⟩, ⟨b4, b4'⟩, ⟨b5, b5'⟩, b6, b7⟩, hRw, hNs, hQu, hPr, hVm⟩ := id hI
  have q3 := Inv_b bI k (a := 3) (by decide)
  unfold F_X5_reasonNotToPlant plR
  rw [hH.1 7 (by decide), C_row hH.2.2 bI (by decide) hk]
  simp (disch := omega) only [L0, Z_lt, Z_le, C_hasTwig hH bI hk, C_isBooked hH bI hk]
  by_cases c0 : 0 < Hn A 7
  · rw [if_pos c0, if_pos c0]
    by_cases c1 : 0 < Hr A 2 k
    · rw [if_pos c1, if_pos c1]; rfl
    · rw [if_neg c1, if_neg c1]
      by_cases c2 : 0 < Hr A 4 k
      · rw [if_pos c2, if_pos c2]; rfl
      · rw [if_neg c2, if_neg c2]
        by_cases c3 : 0 < Hr A 3 k
        · rw [if_neg (by omega), if_pos c3]; rfl
        · rw [if_pos (by omega), if_neg c3]
  · rw [if_neg c0, if_neg c0]; rfl
theorem C_toR {A : AS} {T : Nat} {h : Nat → HV} (hH : RH A (h 0)) (hI : Inv A T) {k : Nat} (hk : k < 2 ^ 31) : F_X5_reasonNotToTouch (nI k) h = nI (toR (Hr A) (Hn A 7) (Hn A 6) k) := by
  have bI := hI
  obtain ⟨hT, ⟨⟨b0, b0'⟩, ⟨b1, b1'⟩, b2, ⟨b3, b3'⟩, ⟨b4, b4'⟩, ⟨b5, b5'⟩, b6, b7⟩, hRw, hNs, hQu, hPr, hVm⟩ := id hI
  have q1 := Inv_b bI k (a := 1) (by decide)
  have q2 := Inv_b bI k (a := 2) (by decide)
  have qm : Hn A 6 % 2 < 2 := Nat.mod_lt _ (by decide)
  unfold F_X5_reasonNotToTouch toR
  rw [hH.1 7 (by decide), C_row hH.2.2 bI (by decide) hk, C_row hH.2.2 bI (by decide) hk, C_active hH bI]
  simp (disch := omega) only [L0, Z_lt, Z_eq]
  by_cases c0 : 0 < Hn A 7
  · rw [if_pos c0, if_pos c0]
    by_cases c1 : 0 < Hr A 2 k
    · rw [if_neg (by omega), if_pos c1]
      by_cases c2 : Hr A 1 k = Hn A 6 % 2
      · rw [if_pos c2, if_pos c2]
      · rw [if_neg c2, if_neg c2]; rfl
    · rw [if_pos (by omega), if_neg c1]; rfl
  · rw [if_neg c0, if_neg c0]; rfl
theorem C_reR {A : AS} {T : Nat} {h : Nat → HV} (hH : RH A (h 0)) (hI : Inv A T) {k : Nat} (hk : k < 2 ^ 30) : F_X5_reasonNotToRemove (nI k) h = nI (reR (Hr A) (Hn A 7) (Hn A 6) k) := by
  have ht := toR_le (R := Hr A) (a := Hn A 7) (d := Hn A 6) (k := k)
  unfold F_X5_reasonNotToRemove reR
  rw [C_toR hH hI (by omega)]
  simp (disch := omega) only [L0, Z_eq, C_isBooked hH hI (show k < 2 ^ 31 by omega), C_isGuarded hH hI hk]
  by_cases c0 : toR (Hr A) (Hn A 7) (Hn A 6) k = 0
  · rw [if_pos c0, if_pos c0]
    by_cases c1 : 0 < Hr A 4 k
    · rw [if_pos c1, if_pos c1]; rfl
    · rw [if_neg c1, if_neg c1]
      by_cases c2 : grd (Hr A) k
      · rw [if_pos c2, if_pos c2]; rfl
      · rw [if_neg c2, if_neg c2]
  · rw [if_neg c0, if_neg c0]
theorem C_trR {A : AS} {T : Nat} {h : Nat → HV} (hH : RH A (h 0)) (hI : Inv A T) {k : Nat} (hk : k < 2 ^ 30) : F_X5_reasonNotToTrim (nI k) h = nI (trR (Hr A) (Hn A 7) (Hn A 6) k) := by
  have ht := toR_le (R := Hr A) (a := Hn A 7) (d := Hn A 6) (k := k)
  unfold F_X5_reasonNotToTrim trR
  rw [C_toR hH hI (by omega)]
  simp (disch := omega) only [L0, Z_eq, C_isGuarded hH hI hk]
  by_cases c0 : toR (Hr A) (Hn A 7) (Hn A 6) k = 0
  · rw [if_pos c0, if_pos c0]
    by_cases c2 : grd (Hr A) k
    · rw [if_pos c2, if_pos c2]; rfl
    · rw [if_neg c2, if_neg c2]
  · rw [if_neg c0, if_neg c0]
theorem C_wrR {A : AS} {T : Nat} {h : Nat → HV} (hH : RC0 A h) (hI : Inv A T) {N g : Nat} (hg : g < 2) (hN : 40 < N) : F_X5_reasonNotToWrite N (nI g) h = some (nI (wrR A g)) := by
  have bI := hI
  obtain ⟨hT, ⟨⟨b0, b0'⟩, ⟨b1, b1'⟩, b2, ⟨b3, b3'⟩, ⟨b4, b4'⟩, ⟨b5, b5'⟩, b6, b7⟩, hRw, hNs, hQu, hPr, hVm⟩ := id hI
  have qm : Hn A 6 % 2 < 2 := Nat.mod_lt _ (by decide)
  have q8 := (hQu g hg).1
  have hG := hH.2 g hg
  unfold F_X5_reasonNotToWrite wrR
  rw [C_active hH.1 bI, hH.1.1 7 (by decide), Z_gsel hg, L0, C_lengthOf hG q8 (by decide), hG.2.2.1]
  have hfs := C_findStart hH.1 bI (N := N) (L := ((Hq A g).getD 0 []).length) hN (by
    by_cases c : 0 < (Hq A g).length
    · have := (Inv_qw bI hg c).2.1; omega
    · rw [gD_no (by omega)]; decide)
  rw [hfs, ob1_s]
  simp (disch := omega) only [Z_eq, Z_lt, C_isWriting hG (Inv_pl bI hg).1]
  by_cases c0 : g = Hn A 6 % 2
  · rw [if_pos c0, if_pos c0]
    by_cases c1 : 0 < Hn A 7
    · rw [if_pos c1, if_pos c1]
      by_cases c2 : (Hp A g).2.2 ≠ []
      · rw [if_pos c2, if_pos c2]
      · rw [if_neg c2, if_neg c2]
        by_cases c3 : (Hq A g).length = 0
        · rw [if_pos c3, if_pos c3]; rfl
        · rw [if_neg c3, if_neg c3]
          cases hf : fStart (Hr A) (Hn A 0) ((Hq A g).getD 0 []).length with
          | none => rfl
          | some k =>
            have hk := (fStart_fit hf).2.1
            show (if nI k = -1 then some 12 else some (nI 0)) = _
            rw [if_neg (by rw [Z_m1 (by omega)]; exact not_false)]
    · rw [if_neg c1, if_neg c1]; rfl
  · rw [if_neg c0, if_neg c0]; rfl
theorem C_toInsp {A : AS} {T : Nat} {h : Nat → HV} (hH : RH A (h 0)) (hI : Inv A T) : F_X5_daysToInspection h = some (nI (Hn A 4 - Hn A 6 % Hn A 4)) := by
  have bI := hI
  obtain ⟨hT, ⟨⟨b0, b0'⟩, ⟨b1, b1'⟩, b2, ⟨b3, b3'⟩, ⟨b4, b4'⟩, ⟨b5, b5'⟩, b6, b7⟩, hRw, hNs, hQu, hPr, hVm⟩ := id hI
  have hlt := Nat.mod_lt (Hn A 6) (show 0 < Hn A 4 by omega)
  unfold F_X5_daysToInspection
  rw [hH.1 4 (by decide), hH.1 6 (by decide)]
  simp (disch := omega) only [L0, Z_le, Z_eq, Z_rem, Z_sub, if_neg]
theorem C_wrongIn {A : AS} {T : Nat} {h : Nat → HV} (hH : RH A (h 0)) (hI : Inv A T) {N s n g : Nat} (hg : g < 2) (hs : s + n ≤ 40) (hN : 40 < N) : F_X5_wrongIn N (nI g) (nI s) (nI n) h = some (nI (wrgN (Hr A) g s n)) := by
  have bI := hI
  obtain ⟨hT, ⟨⟨b0, b0'⟩, ⟨b1, b1'⟩, b2, ⟨b3, b3'⟩, ⟨b4, b4'⟩, ⟨b5, b5'⟩, b6, b7⟩, hRw, hNs, hQu, hPr, hVm⟩ := id hI
  unfold F_X5_wrongIn wrgN
  have key := lpN_for (f := fun z => st_X5_wrongIn_6 N (nI g) (nI s) (nI n) z.1 z.2 h) (x := fun i => (nI (cnt (wrgB (Hr A) g s) i), nI (s + i))) (r := nI (cnt (wrgB (Hr A) g s) n)) (n := n) (N := N) (by omega) (fun i hi => ?_) ?_
  · exact key
  · show st_X5_wrongIn_6 N (nI g) (nI s) (nI n) (nI (cnt (wrgB (Hr A) g s) i)) (nI (s + i)) h = some (.inl (nI (cnt (wrgB (Hr A) g s) (i + 1)), nI (s + (i + 1))))
    have q0 := Inv_b bI (s + i) (a := 0) (by decide)
    have q1 := Inv_b bI (s + i) (a := 1) (by decide)
    have q4 := Inv_b bI (s + i) (a := 4) (by decide)
    unfold st_X5_wrongIn_6
    rw [C_row hH.2.2 bI (by decide) (by omega), C_row hH.2.2 bI (by decide) (by omega), C_row hH.2.2 bI (by decide) (by omega), cnt_s]
    simp (disch := omega) only [L0, L1, Z_eq, Z_le, Z_add, if_neg, C_hasTwig hH bI (show s + i < 2 ^ 31 by omega), wrgB_t]
    by_cases c0 : 0 < Hr A 2 (s + i)
    · by_cases c1 : Hr A 0 (s + i) = Hr A 4 (s + i)
      · by_cases c2 : Hr A 1 (s + i) = g
        · rw [if_pos c0, if_pos c1, if_pos c2, if_neg (fun q => q ⟨c0, c1, c2⟩)]; rfl
        · rw [if_pos c0, if_pos c1, if_neg c2, if_pos (fun q => c2 q.2.2)]; rfl
      · rw [if_pos c0, if_neg c1, if_pos (fun q => c1 q.2.1)]; rfl
    · rw [if_neg c0, if_pos (fun q => c0 q.1)]; rfl
  · show st_X5_wrongIn_6 N (nI g) (nI s) (nI n) _ (nI (s + n)) h = _
    unfold st_X5_wrongIn_6
    simp (disch := omega) only [Z_add, Z_le, if_pos]
theorem C_wrong {A : AS} {T : Nat} {h : Nat → HV} (hH : RC A h) (hI : Inv A T) {N : Nat} (hN : 40 < N) : F_X5_countWrongLetters N h = some (nI (wrgAll A)) := by
  have bI := hI
  obtain ⟨hT, ⟨⟨b0, b0'⟩, ⟨b1, b1'⟩, b2, ⟨b3, b3'⟩, ⟨b4, b4'⟩, ⟨b5, b5'⟩, b6, b7⟩, hRw, hNs, hQu, hPr, hVm⟩ := id hI
  have hL := Inv_l bI
  have h1 := (hH.1.2 0 (by decide)).2.1
  have h2 := (hH.1.2 1 (by decide)).2.1
  have i1 := Inv_pl bI (g := 0) (by decide)
  have i2 := Inv_pl bI (g := 1) (by decide)
  unfold F_X5_countWrongLetters wrgAll
  rw [show h 1 = h (1 + 0) from rfl, show h 2 = h (1 + 1) from rfl, h1.1, h1.2.2, h2.1, h2.2.2, L0, L1, C_wrongIn hH.1.1 bI (by decide) (by omega) hN, C_wrongIn hH.1.1 bI (by decide) (by omega) hN, ob1_s, ob1_s, Z_add]
  have key := lpN_for (f := fun z => st_X5_countWrongLetters_42 N z.1 z.2 h) (x := fun i => (nI (wrgN (Hr A) 0 (Hp A 0).2.1 (Hp A 0).1 + wrgN (Hr A) 1 (Hp A 1).2.1 (Hp A 1).1 + sumF (wrgL A) i), nI i)) (r := nI (wrgN (Hr A) 0 (Hp A 0).2.1 (Hp A 0).1 + wrgN (Hr A) 1 (Hp A 1).2.1 (Hp A 1).1 + sumF (wrgL A) (Hl A).length)) (n := (Hl A).length) (N := N) (by omega) (fun i hi => ?_) ?_
  · exact key
  · show st_X5_countWrongLetters_42 N (nI (wrgN (Hr A) 0 (Hp A 0).2.1 (Hp A 0).1 + wrgN (Hr A) 1 (Hp A 1).2.1 (Hp A 1).1 + sumF (wrgL A) i)) (nI i) h = some (.inl (nI (wrgN (Hr A) 0 (Hp A 0).2.1 (Hp A 0).1 + wrgN (Hr A) 1 (Hp A 1).2.1 (Hp A 1).1 + (sumF (wrgL A) i + wrgL A i)), nI (i + 1)))
    have hok := Inv_lk bI hi
    have hm3 := hok.2.2.1
    obtain ⟨a1, a2, a3⟩ := hH.2.2 i hi
    have e : ∀ r : Nat → Int32, rget 20 r (nI i) = r i := fun r => by rw [Z_rget (by omega) (by decide), if_pos (by omega)]
    unfold st_X5_countWrongLetters_42
    rw [hH.2.1, e, e, e, a1, a2, a3, C_wrongIn hH.1.1 bI hok.1 (by omega) hN]
    simp (disch := omega) only [L1, Z_le, Z_add, if_neg, ob1_s]
    rw [Nat.add_assoc]
    rfl
  · show st_X5_countWrongLetters_42 N _ (nI (Hl A).length) h = _
    unfold st_X5_countWrongLetters_42
    rw [hH.2.1]
    simp (disch := omega) only [Z_le, if_pos]
theorem C_wouldSave {A : AS} {T : Nat} {h : Nat → HV} (hH : RH A (h 0)) (hI : Inv A T) {k : Nat} (hk : k < 2 ^ 30) : F_X5_wouldSave (nI k) h = nI (b2N (pruB (Hr A) (Hn A 3) k)) := by
  have hle := keepR_le (R := Hr A) (L := Hn A 3) (k := k)
  unfold F_X5_wouldSave b2N
  rw [C_keepReason hH hI hk]
  simp (disch := omega) only [L0, Z_eq, keepR_0]
  by_cases c : pruB (Hr A) (Hn A 3) k = true
  · rw [if_pos c, if_pos c]; rfl
  · rw [if_neg c, if_neg c]
theorem C_wouldSavem {h : Nat → HV} : F_X5_wouldSave (-1) h = nI 0 := by
  unfold F_X5_wouldSave F_X5_reasonNotToPrune F_X5_hasTwig
  rw [Z_rgetm]
  rfl
theorem C_best {A : AS} {T : Nat} {h : Nat → HV} (hH : RH A (h 0)) (hI : Inv A T) {N : Nat} (hN : 40 < N) : F_X5_bestSlotForNest N h = some (bstR A) := by
  have bI := hI
  obtain ⟨hT, ⟨⟨b0, b0'⟩, ⟨b1, b1'⟩, b2, ⟨b3, b3'⟩, ⟨b4, b4'⟩, ⟨b5, b5'⟩, b6, b7⟩, hRw, hNs, hQu, hPr, hVm⟩ := id hI
  have hcl := cnt_le (nstB (Hr A)) (Hn A 0)
  unfold F_X5_bestSlotForNest bstR
  rw [C_countNests hH bI hN, ob1_s]
  simp (disch := omega) only [L0, L1, L2, L3, L4, L5, L6, L7, L8, L9, L10, L11, L12, L13, L14, L15, L16, L17, L18, L19, L20, L22, L24, L26, L30, L32, L39, L40, L42, L46, L48, L57, L59, L60, L61, L65, L97, L99, L122, L222, L255, L430, L460, L480, L760, L800, L5320, L6080, Z_lt]
  by_cases c6 : cnt (nstB (Hr A)) (Hn A 0) < 6
  · rw [if_pos c6, if_neg (by omega)]
    have key := lpN_for (f := fun z => st_X5_bestSlotForNest_17 N z.1 z.2.1 z.2.2 h) (x := fun i => (oI (bnF A i).1, oI (bnF A i).2, nI i)) (r := oI (bnF A (Hn A 0)).1) (n := Hn A 0) (N := N) (by omega) (fun i hi => ?_) ?_
    · exact key
    · show st_X5_bestSlotForNest_17 N (oI (bnF A i).1) (oI (bnF A i).2) (nI i) h = some (.inl (oI (bnF A (i + 1)).1, oI (bnF A (i + 1)).2, nI (i + 1)))
      have q3 := Inv_b bI i (a := 3) (by decide)
      have hw : F_X5_wouldSave (nI i - 1) h = nI (if i = 0 then 0 else b2N (pruB (Hr A) (Hn A 3) (i - 1))) := by
        by_cases c : i = 0
        · subst c; rw [if_pos rfl]; exact C_wouldSavem
        · rw [if_neg c, L1, Z_sub (by omega), C_wouldSave hH bI (by omega)]
      have hsv := svN_le (A := A) (k := i)
      unfold st_X5_bestSlotForNest_17
      rw [hH.1 0 (by decide), C_row hH.2.2 bI (by decide) (by omega), hw, C_wouldSave hH bI (k := i) (by omega), L1, Z_add i 1, C_wouldSave hH bI (k := i + 1) (by omega), Z_add, Z_add, bnF_s]
      rw [show (if i = 0 then 0 else b2N (pruB (Hr A) (Hn A 3) (i - 1))) + b2N (pruB (Hr A) (Hn A 3) i) + b2N (pruB (Hr A) (Hn A 3) (i + 1)) = svN A i from rfl]
      simp (disch := omega) only [L0, Z_le, Z_eq, if_neg]
      by_cases c0 : Hr A 3 i = 0
      · rw [if_pos c0]
        cases h2 : (bnF A i).2 with
        | none =>
          show (if nI (svN A i) ≤ -1 then _ else _) = _
          rw [if_neg (by rw [Z_lm1 (by omega)]; exact not_false), if_pos ⟨c0, fun m hm => by cases hm⟩]
          rfl
        | some m =>
          have hm := bnF_le (A := A) i m h2
          show (if nI (svN A i) ≤ nI m then _ else _) = _
          have hz : (nI (svN A i) ≤ nI m) = (svN A i ≤ m) := Z_le (by omega) (by omega)
          by_cases c1 : svN A i ≤ m
          · rw [if_pos (by rw [hz]; exact c1), if_neg (by rintro ⟨_, q⟩; have := q m rfl; omega), h2]
          · rw [if_neg (by rw [hz]; exact c1), if_pos ⟨c0, fun m' hm' => by cases hm'; omega⟩]
            rfl
      · rw [if_neg c0, if_neg (fun q => c0 q.1)]
    · show st_X5_bestSlotForNest_17 N (oI (bnF A (Hn A 0)).1) _ (nI (Hn A 0)) h = _
      unfold st_X5_bestSlotForNest_17
      rw [hH.1 0 (by decide)]
      simp (disch := omega) only [Z_le, if_pos]
  · rw [if_neg c6, if_pos (by omega)]
theorem C_countOf {A : AS} {T : Nat} {u : HV} (hP : RP (Hl A) u) (hI : Inv A T) {N g : Nat} (hg : g < 2) (hN : 40 < N) : F_X7_countOf N (nI g) u = some (nI (cnt (pstB A g) (Hl A).length)) := by
  have hL := Inv_l hI
  unfold F_X7_countOf
  refine lp_cnt (pstB A g) (by omega) (fun i c hi hc => ?_) (fun c hc => ?_)
  · show st_X7_countOf_4 N (nI g) (nI c) (nI i) u = _
    have hok := (Inv_lk hI hi).1
    obtain ⟨a1, a2, a3⟩ := hP.2 i hi
    have e : ∀ r : Nat → Int32, rget 20 r (nI i) = r i := fun r => by rw [Z_rget (by omega) (by decide), if_pos (by omega)]
    unfold st_X7_countOf_4
    rw [hP.1, e, a1]
    simp (disch := omega) only [L1, Z_le, Z_eq, Z_add, if_neg, pstB_t]
    by_cases c1 : ((Hl A).getD i bare).1 = g
    · rw [if_pos c1, if_pos c1]
    · rw [if_neg c1, if_neg c1]; rfl
  · show st_X7_countOf_4 N (nI g) (nI c) (nI (Hl A).length) u = _
    unfold st_X7_countOf_4
    rw [hP.1]
    simp (disch := omega) only [Z_le, if_pos]
