/-! ===== vacts: an act of the law from any state that stands ===== -/
/-- the act does its part and says true: the hedge is then B -/
def ActOK (f : SS → Option (Bool × SS)) (A : AS) : Prop := ∃ (B : AS) (ch : Bool), (ch = false → B = A) ∧ ∀ (S : SS) (L : List AS) (T : Nat), ST S A L T → T + 100 < 2 ^ 20 → ∃ S', f S = some (true, S') ∧ ST S' B (if ch = true then psh L A else L) (T + 3)
theorem fdR_l {r : Int32 × SS} : fdR (some (.inl r)) = some r := rfl
theorem fdR_1 {S : SS} : fdR (some (.inr (1, S))) = some (-3, S) := rfl
theorem fdR_3 {S : SS} : fdR (some (.inr (3, S))) = some (-1, S) := rfl
theorem sl_0 {A : AS} {T : Nat} {S : SS} (hC : RC A (S 0)) (hI : Inv A T) : ¬ F_X10_slotCount S = 0 := by
  have h40 := hI.2.1.1
  rw [V_slotCount hC hI, L0, Z_eq (by omega) (by omega)]
  omega
theorem sl_x {A : AS} {T : Nat} {S : SS} (hC : RC A (S 0)) (hI : Inv A T) {x : Nat} (hx : x < 100000) : nI x - nI x / F_X10_slotCount S * F_X10_slotCount S = nI (x % Hn A 0) := by
  have h40 := hI.2.1.1
  rw [V_slotCount hC hI, Z_rem (by omega) (by omega) (by omega)]
theorem md_x {x m : Nat} (hx : x < 100000) (h0 : 0 < m) (hm : m < 2 ^ 31) : nI x - nI x / nI m * nI m = nI (x % m) := Z_rem (by omega) h0 hm
theorem ltV_y {A : AS} {k : Nat} (h : 0 < Hr A 2 k) : ltV A k = nI (Hr A 0 k) := if_pos h
theorem ltV_n {A : AS} {k : Nat} (h : ¬ 0 < Hr A 2 k) : ltV A k = -1 := if_neg h
theorem nI_z0 {v : Nat} (h : v < 2 ^ 31) : (nI v ≤ 0) = (v = 0) := by
  rw [L0, Z_le h (by omega)]
  exact propext ⟨fun h => by omega, fun h => by omega⟩
theorem act7 {A : AS} : Hn (act A) 7 = Hn A 7 - 1 := up_s (f := Hn A) (k := 7) (v := Hn A 7 - 1)
theorem twR_0 {R : Nat → Nat → Nat} {k c o l : Nat} : twR R k c o l 0 k = c := by
  unfold twR
  rw [rowS_a (by decide), rowS_a (by decide), rowS_at]
theorem twR_2 {R : Nat → Nat → Nat} {k c o l : Nat} : twR R k c o l 2 k = l := rowS_at
theorem act_2 {A : AS} {T0 N x y : Nat} (z : Int32) (hI : Inv A T0) (hN : 6000 < N) (hx : x < 100000) (hy : y < 100000) : ActOK (F_acts_2 N (nI x) (nI y) z) A := by
  have h40 := hI.2.1.1
  have hk : x % Hn A 0 < Hn A 0 := Nat.mod_lt _ (by omega)
  have hc2 : y % 26 < 26 := Nat.mod_lt _ (by decide)
  generalize hk' : x % Hn A 0 = k at hk
  have hle := plR_le (R := Hr A) (a := Hn A 7) (k := k)
  have key : ∀ (S : SS) (L : List AS) (T : Nat), ST S A L T → F_acts_2 N (nI x) (nI y) z S = (ob1 (fdR (F_X10_plant N (nI k) (nI (97 + y % 26)) S)) fun r4 => (if nI (plR (Hr A) (Hn A 7) k) ≤ 0 then (if r4.1 = (nI (tw A) + 1) then (ob1 (okI (F_X10_letterAt (nI k) r4.2)) fun v5 => (if v5 = nI (97 + y % 26) then (ob1 (okI (F_X10_lengthAt (nI k) r4.2)) fun v6 => (if v6 = 1 then (if (F_X10_actionsLeft r4.2) = (nI (Hn A 7) - 1) then some (true, r4.2) else some (false, r4.2)) else some (false, r4.2))) else some (false, r4.2))) else some (false, r4.2)) else (if r4.1 = (-3) then some (true, r4.2) else some (false, r4.2)))) := fun S L T h => by
    obtain ⟨hC, hI, _⟩ := id h
    unfold F_acts_2
    rw [if_neg (sl_0 hC hI), V_twigCount hC hI (by omega), ob1_s, sl_x hC hI hx, hk', L26, md_x hy (by decide) (by decide), L97, Z_add, V_plantReason hC hI hk, ob1_s, V_actionsLeft hC hI]
    rfl
  by_cases c0 : plR (Hr A) (Hn A 7) k = 0
  · refine ⟨opPl A k (97 + y % 26), true, (fun q => by cases q), fun S L T h hT => ?_⟩
    have hp := V_plant h (N := N) (c := 97 + y % 26) (by omega) hk (by omega) (by omega)
    rw [if_pos c0] at hp
    obtain ⟨S', e, h'⟩ := hp
    obtain ⟨h7, -, -⟩ := plR_0 c0
    have e0 : Hn (opPl A k (97 + y % 26)) 0 = Hn A 0 := act_0 (A := opTw A k (97 + y % 26) (Hn A 6 % 2) 1)
    have e2 : Hr (opPl A k (97 + y % 26)) 2 k = 1 := twR_2
    have ea : Hr (opPl A k (97 + y % 26)) 0 k = 97 + y % 26 := twR_0 (o := Hn A 6 % 2) (l := 1)
    have e7 : Hn (opPl A k (97 + y % 26)) 7 = Hn A 7 - 1 := act7
    refine ⟨S', ?_, ST_up h' (by omega) (by omega)⟩
    rw [key S L T h, e, fdR_l, ob1_s, if_pos (by rw [nI_z0 (by omega)]; exact c0), if_pos (by rw [L1, Z_add]), V_letterAt h'.1 h'.2.1 (by rw [e0]; exact hk), ob1_s, ltV_y (by rw [e2]; decide), ea, if_pos rfl, V_lengthAt h'.1 h'.2.1 (by rw [e0]; exact hk), ob1_s, e2, if_pos (by decide), V_actionsLeft h'.1 h'.2.1, e7, L1, Z_sub h7, if_pos rfl]
  · refine ⟨A, false, fun _ => rfl, fun S L T h hT => ⟨S, ?_, ST_up h (by omega) (by omega)⟩⟩
    have hp := V_plant h (N := N) (c := 97 + y % 26) (by omega) hk (by omega) (by omega)
    rw [if_neg c0] at hp
    rw [key S L T h, hp, fdR_1, ob1_s, if_neg (by rw [nI_z0 (by omega)]; exact c0), if_pos rfl]
theorem act_3 {A : AS} {T0 N x : Nat} (y z : Int32) (hI : Inv A T0) (hN : 6000 < N) (hx : x < 100000) : ActOK (F_acts_3 N (nI x) y z) A := by
  have h40 := hI.2.1.1
  have hk : x % Hn A 0 < Hn A 0 := Nat.mod_lt _ (by omega)
  generalize hk' : x % Hn A 0 = k at hk
  have hle := reR_le (R := Hr A) (a := Hn A 7) (d := Hn A 6) (k := k)
  have key : ∀ (S : SS) (L : List AS) (T : Nat), ST S A L T → F_acts_3 N (nI x) y z S = (ob1 (fdR (F_X10_remove (nI k) S)) fun r5 => (if nI (reR (Hr A) (Hn A 7) (Hn A 6) k) ≤ 0 then (if r5.1 = ltV A k then (ob1 (okI (F_X10_letterAt (nI k) r5.2)) fun v6 => (if v6 = (-1) then (ob1 (F_X10_twigCount N r5.2) fun v7 => (if v7 = (nI (tw A) - 1) then (if (F_X10_actionsLeft r5.2) = (nI (Hn A 7) - 1) then some (true, r5.2) else some (false, r5.2)) else some (false, r5.2))) else some (false, r5.2))) else some (false, r5.2)) else (if r5.1 = (-3) then some (true, r5.2) else some (false, r5.2)))) := fun S L T h => by
    obtain ⟨hC, hI, _⟩ := id h
    unfold F_acts_3
    rw [if_neg (sl_0 hC hI), V_twigCount hC hI (by omega), ob1_s, sl_x hC hI hx, hk', V_removeReason hC hI hk, ob1_s, V_letterAt hC hI hk, ob1_s, V_actionsLeft hC hI]
    rfl
  by_cases c0 : reR (Hr A) (Hn A 7) (Hn A 6) k = 0
  · refine ⟨opRem A k, true, (fun q => by cases q), fun S L T h hT => ?_⟩
    have hp := V_remove h hk
    rw [if_pos c0] at hp
    obtain ⟨S', e, h'⟩ := hp
    obtain ⟨h7, h2, -⟩ := reR_0 c0
    have e0 : Hn (opRem A k) 0 = Hn A 0 := act_0 (A := Sc (Sr A (rowS (Hr A) 2 k 0)) (up (Hc A) 2 (Hc A 2 + 1)))
    have e2 : Hr (opRem A k) 2 k = 0 := rowS_at
    have e7 : Hn (opRem A k) 7 = Hn A 7 - 1 := act7
    have et : cnt (twgB (Hr (opRem A k))) (Hn A 0) + 1 = tw A := tw_sub (R := Hr A) (R' := rowS (Hr A) 2 k 0) (fun j hj => rowS_k hj 2) hk h2 rowS_at
    refine ⟨S', ?_, ST_up h' (by omega) (by omega)⟩
    rw [key S L T h, e, fdR_l, ob1_s, if_pos (by rw [nI_z0 (by omega)]; exact c0), if_pos (ltV_y h2).symm, V_letterAt h'.1 h'.2.1 (by rw [e0]; exact hk), ob1_s, ltV_n (by rw [e2]; decide), if_pos rfl, V_twigCount h'.1 h'.2.1 (by omega), ob1_s, e0, L1, ← et, Z_sub (by omega), Nat.add_sub_cancel, if_pos rfl, V_actionsLeft h'.1 h'.2.1, e7, Z_sub h7, if_pos rfl]
  · refine ⟨A, false, fun _ => rfl, fun S L T h hT => ⟨S, ?_, ST_up h (by omega) (by omega)⟩⟩
    have hp := V_remove h hk
    rw [if_neg c0] at hp
    rw [key S L T h, hp, fdR_1, ob1_s, if_neg (by rw [nI_z0 (by omega)]; exact c0), if_pos rfl]
theorem act_4 {A : AS} {T0 N x y : Nat} (z : Int32) (hI : Inv A T0) (hN : 6000 < N) (hx : x < 100000) (hy : y < 100000) : ActOK (F_acts_4 N (nI x) (nI y) z) A := by
  have h40 := hI.2.1.1
  have hk : x % Hn A 0 < Hn A 0 := Nat.mod_lt _ (by omega)
  have hc2 : y % 9 < 9 := Nat.mod_lt _ (by decide)
  generalize hk' : x % Hn A 0 = k at hk
  have hle := trR_le (R := Hr A) (a := Hn A 7) (d := Hn A 6) (k := k)
  have b2 := Inv_b hI k (a := 2) (by decide)
  have key : ∀ (S : SS) (L : List AS) (T : Nat), ST S A L T → F_acts_4 N (nI x) (nI y) z S = (ob1 (fdR (F_X10_trim (nI k) (nI (1 + y % 9)) S)) fun r5 => (if nI (trR (Hr A) (Hn A 7) (Hn A 6) k) ≤ 0 then (if r5.1 = (if 1 < ((nI (Hr A 2 k) - 1) - nI (y % 9)) then ((nI (Hr A 2 k) - 1) - nI (y % 9)) else 1) then (ob1 (okI (F_X10_lengthAt (nI k) r5.2)) fun v6 => (if v6 = r5.1 then (if (F_X10_actionsLeft r5.2) = (nI (Hn A 7) - 1) then some (true, r5.2) else some (false, r5.2)) else some (false, r5.2))) else some (false, r5.2)) else (if r5.1 = (-3) then some (true, r5.2) else some (false, r5.2)))) := fun S L T h => by
    obtain ⟨hC, hI, _⟩ := id h
    unfold F_acts_4
    rw [if_neg (sl_0 hC hI), V_twigCount hC hI (by omega), ob1_s, sl_x hC hI hx, hk', L9, md_x hy (by decide) (by decide), V_trimReason hC hI hk, ob1_s, V_lengthAt hC hI hk, ob1_s, V_actionsLeft hC hI, show (1 : Int32) + nI (y % 9) = nI (1 + y % 9) from Z_add 1 _]
  by_cases c0 : trR (Hr A) (Hn A 7) (Hn A 6) k = 0
  · refine ⟨opTrm A k (1 + y % 9), true, (fun q => by cases q), fun S L T h hT => ?_⟩
    have hp := V_trim h (c := 1 + y % 9) hk (by omega) (by omega)
    rw [if_pos c0] at hp
    obtain ⟨S', e, h'⟩ := hp
    obtain ⟨h7, h2⟩ := trR_0 c0
    have e0 : Hn (opTrm A k (1 + y % 9)) 0 = Hn A 0 := act_0 (A := Sr A (rowS (Hr A) 2 k (trmV (Hr A 2 k) (1 + y % 9))))
    have e2 : Hr (opTrm A k (1 + y % 9)) 2 k = trmV (Hr A 2 k) (1 + y % 9) := rowS_at
    have e7 : Hn (opTrm A k (1 + y % 9)) 7 = Hn A 7 - 1 := act7
    refine ⟨S', ?_, ST_up h' (by omega) (by omega)⟩
    rw [key S L T h, e, fdR_l, ob1_s, if_pos (by rw [nI_z0 (by omega)]; exact c0), tr_lem b2 h2 hc2, if_pos rfl, V_lengthAt h'.1 h'.2.1 (by rw [e0]; exact hk), ob1_s, e2, if_pos rfl, V_actionsLeft h'.1 h'.2.1, e7, L1, Z_sub h7, if_pos rfl]
  · refine ⟨A, false, fun _ => rfl, fun S L T h hT => ⟨S, ?_, ST_up h (by omega) (by omega)⟩⟩
    have hp := V_trim h (c := 1 + y % 9) hk (by omega) (by omega)
    rw [if_neg c0] at hp
    rw [key S L T h, hp, fdR_1, ob1_s, if_neg (by rw [nI_z0 (by omega)]; exact c0), if_pos rfl]
