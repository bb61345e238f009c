/-! ===== vacts2: acts: a nest, cancelling, the limit, days ===== -/
theorem act_5 {A : AS} {T0 N x y : Nat} (z : Int32) (hI : Inv A T0) (hN : 6000 < N) (hx : x < 100000) (hy : y < 100000) : ActOK (F_acts_5 N (nI x) (nI y) z) A := by
  have h40 := hI.2.1.1
  have h6 : cnt (nstB (Hr A)) (Hn A 0) ≤ 6 := hI.2.2.2.1
  have hk : x % Hn A 0 < Hn A 0 := Nat.mod_lt _ (by omega)
  have hc2 : y % 8 < 8 := Nat.mod_lt _ (by decide)
  generalize hk' : x % Hn A 0 = k at hk
  have b3 := Inv_b hI k (a := 3) (by decide)
  have key : ∀ (S : SS) (L : List AS) (T : Nat), ST S A L T → F_acts_5 N (nI x) (nI y) z S = (ob1 (fdR (F_X10_addNest N (nI k) (nI (1 + y % 8)) S)) fun r8 => (om (if 0 ≤ bstR A then some (.inl ()) else (if nI (cnt (nstB (Hr A)) (Hn A 0)) = 6 then some (.inl ()) else (if nI (cnt (nstB (Hr A)) (Hn A 0)) = (F_X10_slotCount r8.2) then some (.inl ()) else some (.inr false)))) (fun r => some (r, r8.2)) (fun _ => (om (if (if nstOk A k = true then (1 : Int32) else 0) = 0 then (if r8.1 = (-3) then some (.inl ()) else some (.inr false)) else (if r8.1 = (nI (cnt (nstB (Hr A)) (Hn A 0)) + 1) then (ob1 (okI (F_X10_nestDays (nI k) r8.2)) fun v11 => (if v11 = nI (1 + y % 8) then some (.inl ()) else some (.inr false))) else some (.inr false))) (fun r => some (r, r8.2)) (fun _ => some (true, r8.2)))))) := fun S L T h => by
    obtain ⟨hC, hI, _⟩ := id h
    unfold F_acts_5
    rw [if_neg (sl_0 hC hI), V_twigCount hC hI (by omega), ob1_s, V_nestCount hC hI (by omega), ob1_s, V_best hC hI (by omega), ob1_s, sl_x hC hI hx, hk', L8, md_x hy (by decide) (by decide), show (1 : Int32) + nI (y % 8) = nI (1 + y % 8) from Z_add 1 _, V_nestDays hC hI hk, ob1_s]
    have hv : (if 6 ≤ nI (cnt (nstB (Hr A)) (Hn A 0)) then some 0 else (if nI (Hr A 3 k) = 0 then some 1 else some 0) : Option Int32) = some (if nstOk A k = true then (1 : Int32) else 0) := by
      unfold nstOk
      by_cases c1 : cnt (nstB (Hr A)) (Hn A 0) < 6
      · rw [if_neg (by rw [L6, Z_le (by omega) (by omega)]; omega)]
        by_cases c2 : Hr A 3 k = 0
        · rw [if_pos (by rw [L0, Z_eq (by omega) (by omega)]; exact c2), if_pos (decide_eq_true ⟨c1, c2⟩)]
        · rw [if_neg (by rw [L0, Z_eq (by omega) (by omega)]; exact c2), if_neg (fun q => c2 (of_decide_eq_true q).2)]
      · rw [if_pos (by rw [L6, Z_le (by omega) (by omega)]; omega), if_neg (fun q => c1 (of_decide_eq_true q).1)]
    rw [hv, ob1_s]
  have best : ∀ (S' : SS), F_X10_slotCount S' = nI (Hn A 0) → (if 0 ≤ bstR A then some (.inl ()) else (if nI (cnt (nstB (Hr A)) (Hn A 0)) = 6 then some (.inl ()) else (if nI (cnt (nstB (Hr A)) (Hn A 0)) = (F_X10_slotCount S') then some (.inl ()) else some (.inr false))) : Option (Unit ⊕ Bool)) = some (.inl ()) := fun S' e => by
    rw [e]
    rcases best_ok hI with q | q | q
    · rw [if_pos q]
    · by_cases c : 0 ≤ bstR A
      · rw [if_pos c]
      · rw [if_neg c, if_pos q]
    · rw [q]
      by_cases c : 0 ≤ bstR A
      · rw [if_pos c]
      · rw [if_neg c, if_pos rfl]
        split <;> rfl
  cases c0 : nstOk A k with
  | true =>
    refine ⟨opNst A k (1 + y % 8), true, (fun q => by cases q), fun S L T h hT => ?_⟩
    have hp := V_nest h (N := N) (c := 1 + y % 8) (by omega) hk (by omega) (by omega)
    rw [if_pos c0] at hp
    obtain ⟨S', e, h'⟩ := hp
    have e0 : Hn (opNst A k (1 + y % 8)) 0 = Hn A 0 := rfl
    have e3 : Hr (opNst A k (1 + y % 8)) 3 k = 1 + y % 8 := rowS_at
    refine ⟨S', ?_, ST_up h' (by omega) (by omega)⟩
    rw [key S L T h, e, fdR_l, ob1_s, best S' (by rw [V_slotCount h'.1 h'.2.1, e0]), om_l, c0, if_pos rfl, if_neg (show ¬ (1 : Int32) = 0 by decide), if_pos (by rw [L1, Z_add]), V_nestDays h'.1 h'.2.1 hk, ob1_s, e3, if_pos rfl, om_l]
  | false =>
    refine ⟨A, false, fun _ => rfl, fun S L T h hT => ⟨S, ?_, ST_up h (by omega) (by omega)⟩⟩
    have hp := V_nest h (N := N) (c := 1 + y % 8) (by omega) hk (by omega) (by omega)
    rw [if_neg (by rw [c0]; exact Bool.false_ne_true)] at hp
    rw [key S L T h, hp, fdR_1, ob1_s, best S (V_slotCount h.1 h.2.1), om_l, c0, if_neg Bool.false_ne_true, if_pos rfl, if_pos rfl, om_l]
theorem act_8 {A : AS} {T0 N x y : Nat} (z : Int32) (hI : Inv A T0) (hN : 6000 < N) (hx : x < 100000) (hy : y < 100000) : ActOK (F_acts_8 N (nI x) (nI y) z) A := by
  have hg : x % 2 < 2 := Nat.mod_lt _ (by decide)
  have hm : y % 4 < 4 := Nat.mod_lt _ (by decide)
  generalize hg' : x % 2 = g at hg
  generalize hm' : y % 4 = m at hm
  have q8 := hI.2.2.2.2.1 g hg
  have key : ∀ (S : SS) (L : List AS) (T : Nat), ST S A L T → F_acts_8 N (nI x) (nI y) z S = (ob1 (fdR (F_X10_cancelMessage (nI g) (nI m) S)) fun r5 => (if nI m < nI (Hq A g).length then (if r5.1 ≤ 0 then some (false, r5.2) else (ob1 (okI (F_X10_pendingCount (nI g) r5.2)) fun v6 => (if v6 = (nI (Hq A g).length - 1) then (ob1 (okI (F_X10_messagesDropped (nI g) r5.2)) fun v7 => (if v7 = (Hc A (16 + g) + 1) then some (true, r5.2) else some (false, r5.2))) else some (false, r5.2)))) else (if r5.1 = (-1) then some (true, r5.2) else some (false, r5.2)))) := fun S L T h => by
    obtain ⟨hC, hI, _⟩ := id h
    unfold F_acts_8
    rw [if_neg (sl_0 hC hI), V_twigCount hC hI (by omega), ob1_s, L2, md_x hx (by decide) (by decide), hg', L4, md_x hy (by decide) (by decide), hm', V_pending hC hI hg, ob1_s, V_dropped hC hI hg, ob1_s]
  by_cases c0 : m < (Hq A g).length
  · refine ⟨opCan A g m, true, (fun q => by cases q), fun S L T h hT => ?_⟩
    have hp := V_cancel h hg (m := m) (by omega)
    rw [if_pos c0] at hp
    obtain ⟨S', e, h'⟩ := hp
    obtain ⟨hw1, hw2, -⟩ := Inv_qw hI hg c0
    have el : (Hq (opCan A g m) g).length = (Hq A g).length - 1 := by
      show (up (Hq A) g ((Hq A g).eraseIdx m) g).length = _
      rw [up_s, List.length_eraseIdx, if_pos c0]
    have ec : Hc (opCan A g m) (16 + g) = Hc A (16 + g) + 1 := by
      show up (Hc A) (16 + g) (Hc A (16 + g) + 1) (16 + g) = _
      rw [up_s]
    refine ⟨S', ?_, ST_up h' (by omega) (by omega)⟩
    rw [key S L T h, e, fdR_l, ob1_s, if_pos (by rw [Z_lt (by omega) (by omega)]; exact c0), if_neg (by rw [nI_z0 (by omega)]; omega), V_pending h'.1 h'.2.1 hg, ob1_s, el, L1, Z_sub (by omega), if_pos rfl, V_dropped h'.1 h'.2.1 hg, ob1_s, ec, L1, if_pos rfl]
  · refine ⟨A, false, fun _ => rfl, fun S L T h hT => ⟨S, ?_, ST_up h (by omega) (by omega)⟩⟩
    have hp := V_cancel h hg (m := m) (by omega)
    rw [if_neg c0] at hp
    rw [key S L T h, hp, fdR_3, ob1_s, if_neg (by rw [Z_lt (by omega) (by omega)]; exact c0), if_pos rfl]
theorem act_9 {A : AS} {T0 N x y z : Nat} (hI : Inv A T0) (hN : 6000 < N) (hx : x < 100000) (hy : y < 100000) (hz : z < 100000) : ActOK (F_acts_9 N (nI x) (nI y) (nI z)) A := by
  have hg : x % 2 < 2 := Nat.mod_lt _ (by decide)
  have hl : y % 12 < 12 := Nat.mod_lt _ (by decide)
  have hn : z % 6 < 6 := Nat.mod_lt _ (by decide)
  refine ⟨limA A (1 + y % 12), true, (fun q => by cases q), fun S L T h hT => ?_⟩
  obtain ⟨S1, e1, o1⟩ := V_least h.1 h.2.1 (N := N) (g := x % 2) (n := 1 + z % 6) (by omega) hg (by omega) (by omega) (by omega)
  have h1 : ST S1 A L T := ST_1 h o1
  obtain ⟨S', e, h'⟩ := V_limit h1 (l := 1 + y % 12) (by omega) (by omega)
  refine ⟨S', ?_, ST_up h' (by omega) (by omega)⟩
  obtain ⟨b1, b2⟩ := lwR_b (A := A) (g := x % 2) (n := 1 + z % 6)
  have n1 : Hn (limA A (1 + y % 12)) 1 = 1 + y % 12 := up_s (f := Hn A) (k := 1) (v := 1 + y % 12)
  have n7 : Hn (limA A (1 + y % 12)) 7 = Hn A 7 := up_n (f := Hn A) (v := 1 + y % 12) (show (7 : Nat) ≠ 1 by decide)
  unfold F_acts_9
  rw [if_neg (sl_0 h.1 h.2.1), V_twigCount h.1 h.2.1 (by omega), ob1_s, show (2 : Int32) = nI 2 from rfl, md_x hx (by decide) (by decide), show (6 : Int32) = nI 6 from rfl, md_x hz (by decide) (by decide), show (1 : Int32) + nI (z % 6) = nI (1 + z % 6) from Z_add 1 _, e1, ob1_s]
  dsimp only
  rw [if_neg b1, if_neg b2, show nI y - nI y / 12 * 12 = nI (y % 12) from md_x hy (by decide) (by decide), show (1 : Int32) + nI (y % 12) = nI (1 + y % 12) from Z_add 1 _, e, fdR_l, ob1_s, if_pos (V_workLimit h.1 h.2.1).symm, V_workLimit h'.1 h'.2.1, n1, if_pos rfl, V_actionsLeft h'.1 h'.2.1, n7, V_actionsLeft h.1 h.2.1, if_pos rfl]
/-- days go by as foretold -/
theorem L_ends {A : AS} {S : SS} {L : List AS} {T N n k : Nat} (h : ST S A L T) (hN : 6000 < N) (hn1 : 1 ≤ n) (hn : n ≤ 3) (hk : k < Hn A 0) (hT : T + 100 < 2 ^ 20) : ∃ S', F_L_ends N (nI n) (nI k) S = some (true, S') ∧ ST S' (days n A) (psh L A) (T + n) := by
  have h40 := h.2.1.2.1.1
  have b4 := h.2.1.2.1.2.2.2.2.1
  have b6 := h.2.1.2.1.2.2.2.2.2.2.1
  obtain ⟨S1, e1, o1⟩ := V_until h.1 h.2.1 (N := N) (k := k) (by omega) hk (by omega)
  have h1 := ST_1 h o1
  obtain ⟨S2, e2, o2⟩ := V_delAfter h1.1 h1.2.1 (N := N) (g := 0) (n := n) (by omega) (by decide) (by omega) (by omega)
  have h2 := ST_1 h1 o2
  obtain ⟨S3, e3, o3⟩ := V_delAfter h2.1 h2.2.1 (N := N) (g := 1) (n := n) (by omega) (by decide) (by omega) (by omega)
  have h3 := ST_1 h2 o3
  obtain ⟨S4, e4, o4⟩ := V_penAfter h3.1 h3.2.1 (N := N) (g := 0) (n := n) (by omega) (by decide) (by omega) (by omega)
  have h4 := ST_1 h3 o4
  obtain ⟨S', e5, h5, -, -⟩ := V_end h4 (N := N) (n := n) (by omega) hn1 (by omega) (by omega)
  refine ⟨S', ?_, h5⟩
  have hk5 : k < Hn (days n A) 0 := by rw [days_n (by decide)]; exact hk
  have n6 : Hn (days n A) 6 = Hn A 6 + n := days_6 n
  have b0 := Inv_b h.2.1 k (a := 0) (by decide)
  have c7 : (if ltV A k < 0 then some 0 else some 1 : Option Int32) = some (if 0 < Hr A 2 k then 1 else 0) := by
    by_cases c : 0 < Hr A 2 k
    · rw [ltV_y c, if_neg (show ¬ nI (Hr A 0 k) < 0 by rw [L0, Z_lt (by omega) (by omega)]; omega), if_pos c]
    · rw [ltV_n c, if_pos (by decide), if_neg c]
  have c1 : (if prd A k = 0 then some 0 else some 1 : Option Int32) = some (if 0 < Hr A 2 k then 1 else 0) := by
    by_cases c : 0 < Hr A 2 k
    · rw [if_neg (by rw [prd_0]; exact fun q => q c), if_pos c]
    · rw [if_pos (by rw [prd_0]; exact c), if_neg c]
  unfold F_L_ends
  rw [e1, ob1_s]
  dsimp only
  rw [show (0 : Int32) = nI 0 from rfl, e2, ob1_s]
  dsimp only
  rw [show (1 : Int32) = nI 1 from rfl, e3, ob1_s]
  dsimp only
  rw [e4, ob1_s]
  dsimp only
  rw [V_delivered h4.1 h4.2.1 (by decide), ob1_s, V_toInsp h4.1 h4.2.1, ob1_s, V_letterAt h4.1 h4.2.1 hk, ob1_s, show (nI 0 : Int32) = 0 from rfl, show (nI 1 : Int32) = 1 from rfl, c7, ob1_s, e5, fdR_l, ob1_s]
  dsimp only
  have a1 : (Hc (days n A) 12 + Hc (days n A) 13) - (Hc A 12 + Hc A 13) = (Hc (days n A) (12 + 0) - Hc A (12 + 0)) + (Hc (days n A) (12 + 1) - Hc A (12 + 1)) := by
    show (Hc (days n A) 12 + Hc (days n A) 13) - (Hc A 12 + Hc A 13) = (Hc (days n A) 12 - Hc A 12) + (Hc (days n A) 13 - Hc A 13)
    generalize Hc (days n A) 12 = a
    generalize Hc (days n A) 13 = b
    generalize Hc A 12 = c
    generalize Hc A 13 = d
    simp only [Int32.sub_eq_add_neg, Int32.neg_add]
    ac_rfl
  have a2 : Hc (days n A) (12 + 0) = Hc A (12 + 0) + (Hc (days n A) (12 + 0) - Hc A (12 + 0)) := by
    generalize Hc (days n A) (12 + 0) = a
    generalize Hc A (12 + 0) = c
    rw [Int32.sub_eq_add_neg, Int32.add_comm a, ← Int32.add_assoc, Int32.add_right_neg, Int32.zero_add]
  rw [if_pos a1, show okI (F_X10_messagesDelivered 0 S') = some (Hc (days n A) (12 + 0)) from V_delivered h5.1 h5.2.1 (g := 0) (by decide), ob1_s, if_pos a2, show okI (F_X10_pendingCount 0 S') = some (nI (Hq (days n A) 0).length) from V_pending h5.1 h5.2.1 (g := 0) (by decide), ob1_s, if_pos rfl, V_day h5.1 h5.2.1, V_day h4.1 h4.2.1, n6, Z_add, if_pos rfl]
  have pr : (if nI (Hn A 4 - Hn A 6 % Hn A 4) ≤ nI n then some (.inl ()) else (if F_X10_twigsPruned S' = F_X10_twigsPruned S4 then some (.inl ()) else some (.inr false)) : Option (Unit ⊕ Bool)) = some (.inl ()) := by
    by_cases c : Hn A 4 - Hn A 6 % Hn A 4 ≤ n
    · rw [if_pos (by rw [Z_le (by omega) (by omega)]; exact c)]
    · rw [if_neg (by rw [Z_le (by omega) (by omega)]; exact c), V_twigsPruned h5.1 h5.2.1, V_twigsPruned h4.1 h4.2.1, if_pos (days_c h.2.1 n (by omega))]
  rw [pr, om_l, c1, ob1_s, if_pos rfl]
  by_cases c : prd A k = nI n
  · rw [if_pos c, V_letterAt h5.1 h5.2.1 hk5, ob1_s, ltV_n (prd_n (by omega) c), if_pos rfl, om_l]
  · rw [if_neg c, om_l]
theorem act_01 {A : AS} {T0 N x y : Nat} (z : Int32) (hI : Inv A T0) (hN : 6000 < N) (hx : x < 100000) (hy : y < 100000) : ActOK (F_acts_0 N (nI x) (nI y) z) A := by
  have h40 := hI.2.1.1
  have hk : x % Hn A 0 < Hn A 0 := Nat.mod_lt _ (by omega)
  have hl : y % 3 < 3 := Nat.mod_lt _ (by decide)
  refine ⟨days (1 + y % 3) A, true, (fun q => by cases q), fun S L T h hT => ?_⟩
  obtain ⟨S', e, h'⟩ := L_ends h hN (n := 1 + y % 3) (k := x % Hn A 0) (by omega) (by omega) hk hT
  refine ⟨S', ?_, ST_up h' (by omega) (by omega)⟩
  unfold F_acts_0
  rw [if_neg (sl_0 h.1 h.2.1), V_twigCount h.1 h.2.1 (by omega), ob1_s, sl_x h.1 h.2.1 hx, show (3 : Int32) = nI 3 from rfl, md_x hy (by decide) (by decide), show (1 : Int32) + nI (y % 3) = nI (1 + y % 3) from Z_add 1 _, e, ob1_s]
