/-! ===== vgard: each gardener's state fits ===== -/
/-- the balances: twigs, messages, written letters -/
def Jv (A : AS) : Prop := Hc A 0 - ((Hc A 1 + Hc A 2) + nI (cnt (twgB (Hr A)) (Hn A 0))) = 0 ∧ (∀ g, g < 2 → (((Hc A (10 + g) - Hc A (12 + g)) - Hc A (16 + g)) - nI (Hq A g).length) - nI (cnt (pstB A g) (Hl A).length) = nI (if (Hp A g).2.2 ≠ [] then 1 else 0)) ∧ wrgAll A = 0
theorem prg_ok {A : AS} {T g : Nat} (hI : Inv A T) (hg : g < 2) (hw : (Hp A g).2.2 ≠ []) : okMs (Hr A) (Hn A 0) (g, (Hp A g).2.1, (Hp A g).2.2) := by
  refine hI.2.2.2.2.2.2.1 _ ?_
  unfold msgs prg
  rcases (show g = 0 ∨ g = 1 by omega) with rfl | rfl
  · rw [if_neg hw]
    exact List.mem_append_left _ (List.mem_singleton.mpr rfl)
  · refine List.mem_append_right _ (List.mem_append_left _ ?_)
    rw [if_neg hw]
    exact List.mem_singleton.mpr rfl
theorem wrg_0 {A : AS} (hJ : wrgAll A = 0) {g : Nat} (hg : g < 2) {x : Nat} (hx : x < (Hp A g).1) : 0 < Hr A 2 ((Hp A g).2.1 + x) ∧ Hr A 0 ((Hp A g).2.1 + x) = Hr A 4 ((Hp A g).2.1 + x) ∧ Hr A 1 ((Hp A g).2.1 + x) = g := by
  unfold wrgAll at hJ
  have h0 : wrgN (Hr A) g (Hp A g).2.1 (Hp A g).1 = 0 := by
    rcases (show g = 0 ∨ g = 1 by omega) with rfl | rfl <;> omega
  have h1 := cnt_0 h0 x hx
  have h2 : ¬ wrgB (Hr A) g (Hp A g).2.1 x = true := by rw [h1]; decide
  rw [wrgB_t] at h2
  exact Decidable.not_not.mp h2
theorem om_l {α β γ : Type} {a : α} {g : β → Option γ} {f : α → Option γ} : om (some (.inl a)) g f = f a := rfl
theorem nI_nn {n : Nat} (h : n < 2 ^ 31) : (nI n < 0) = False := propext ⟨fun e => nI_pos h e, False.elim⟩
theorem VG_33 {A : AS} {T : Nat} {S : SS} (hC : RC A (S 0)) (hI : Inv A T) (hJ : wrgAll A = 0) {N g : Nat} (hN : 400 < N) (hg : g < 2) {v1 : Int32} (l4 l5 : Int32) (h1 : (Hp A g).2.2 ≠ [] → v1 = nI (Hp A g).2.1) : lpN N (fun z => st_L_isGardener_33 N (nI g) v1 (nI (Hp A g).1) l4 l5 z S) 0 = some (.inl ()) := by
  have h40 := hI.2.1.1.2
  have hpl := Inv_pl hI hg
  have hpr := hI.2.2.2.2.2.1 g hg
  refine lpN_for (x := fun i => nI i) (n := (Hp A g).1) (by omega) (fun i hi => ?_) ?_
  · have hw : (Hp A g).2.2 ≠ [] := fun e => by
      have := hpr.1 e
      rw [this] at hi
      exact absurd hi (Nat.not_lt_zero _)
    have ho := prg_ok hI hg hw
    have hlt := (hpr.2 hw).1
    have hk : (Hp A g).2.1 + i < Hn A 0 := by
      have := ho.2.2.1
      simp only at this
      omega
    obtain ⟨q1, q2, q3⟩ := wrg_0 hJ hg hi
    have h4 : Hr A 4 ((Hp A g).2.1 + i) = (Hp A g).2.2.getD i 0 := ho.2.2.2 i (by show i < (Hp A g).2.2.length; omega)
    have h97 := (ho.2.1.2.2 i (by show i < (Hp A g).2.2.length; omega)).1
    have b0 := Inv_b hI (a := 0) ((Hp A g).2.1 + i) (by decide)
    show st_L_isGardener_33 N (nI g) v1 (nI (Hp A g).1) l4 l5 (nI i) S = some (.inl (nI (i + 1)))
    unfold st_L_isGardener_33
    rw [h1 hw, if_neg (by rw [Z_le (by omega) (by omega)]; omega), nI_add, V_letterAt hC hI hk, ob1_s, V_ownerAt hC hI hk, V_isReserved hC hI hk, show ltV A ((Hp A g).2.1 + i) = nI (Hr A 0 ((Hp A g).2.1 + i)) from if_pos q1, if_neg (nI_pos (by omega)), ob1_s, show owV A ((Hp A g).2.1 + i) = nI (Hr A 1 ((Hp A g).2.1 + i)) from if_pos q1, q3, if_pos rfl, ob1_s, if_pos (decide_eq_true (by rw [h4]; simp only at h97; omega)), nI_s]
  · show st_L_isGardener_33 N (nI g) v1 (nI (Hp A g).1) l4 l5 (nI (Hp A g).1) S = some (.inr (.inl ()))
    unfold st_L_isGardener_33
    rw [if_pos (Int32.le_refl _)]
theorem VG_120 {A : AS} {T : Nat} {S : SS} (hC : RC A (S 0)) (hI : Inv A T) {N g : Nat} (hN : 400 < N) (hg : g < 2) (l4 l5 : Int32) : lpN N (fun z => st_L_isGardener_120 N (nI g) l4 l5 z S) 0 = some (.inl (nI ((Hq A g).getD 0 []).length)) := by
  have hl : ((Hq A g).getD 0 []).length ≤ 12 := by
    by_cases c : 0 < (Hq A g).length
    · exact (Inv_qw hI hg c).2.1
    · rw [gD_no (by omega)]; decide
  refine lpN_for (x := fun i => nI i) (n := ((Hq A g).getD 0 []).length) (by omega) (fun i hi => ?_) ?_
  · have hq : 0 < (Hq A g).length := by
      by_cases c : 0 < (Hq A g).length
      · exact c
      · rw [gD_no (by omega)] at hi
        exact absurd hi (Nat.not_lt_zero _)
    have hw := (Inv_qw hI hg hq).2.2 i hi
    show st_L_isGardener_120 N (nI g) l4 l5 (nI i) S = some (.inl (nI (i + 1)))
    unfold st_L_isGardener_120
    rw [L0, V_letter hC hI hg (by decide) (by omega), ob1_s, show (if 0 < (Hq A g).length ∧ i < ((Hq A g).getD 0 []).length then nI (((Hq A g).getD 0 []).getD i 0) else -1) = nI (((Hq A g).getD 0 []).getD i 0) from if_pos ⟨hq, hi⟩, if_neg (by rw [Z_lt (by omega) (by decide)]; omega), nI_s]
  · show st_L_isGardener_120 N (nI g) l4 l5 (nI ((Hq A g).getD 0 []).length) S = some (.inr (.inl (nI ((Hq A g).getD 0 []).length)))
    unfold st_L_isGardener_120
    rw [L0, V_letter hC hI hg (by decide) (by omega), ob1_s, show (if 0 < (Hq A g).length ∧ ((Hq A g).getD 0 []).length < ((Hq A g).getD 0 []).length then nI (((Hq A g).getD 0 []).getD ((Hq A g).getD 0 []).length 0) else -1) = -1 from if_neg (fun q => Nat.lt_irrefl _ q.2), if_pos (by decide)]
theorem fSt {A : AS} {g k : Nat} (h : fStart (Hr A) (Hn A 0) ((Hq A g).getD 0 []).length = some k) : 0 < ((Hq A g).getD 0 []).length ∧ fit (Hr A) (Hn A 0) ((Hq A g).getD 0 []).length k := by
  unfold fStart at h
  by_cases c : ((Hq A g).getD 0 []).length = 0
  · rw [if_pos c] at h
    cases h
  · rw [if_neg c] at h
    have := (fstF_some h).2.2.1
    rw [fitB_t] at this
    exact ⟨by omega, this⟩
theorem VG_178 {A : AS} {T : Nat} {S : SS} (hC : RC A (S 0)) (hI : Inv A T) {N g : Nat} (hN : 400 < N) (hg : g < 2) (l5 : Int32) : lpN N (fun z => st_L_isGardener_178 N (nI g) (oI (fStart (Hr A) (Hn A 0) ((Hq A g).getD 0 []).length)) l5 (nI ((Hq A g).getD 0 []).length) z S) 0 = some (.inl ()) := by
  have h40 := hI.2.1.1.2
  cases e : fStart (Hr A) (Hn A 0) ((Hq A g).getD 0 []).length with
  | none =>
    refine lpN_for (x := fun i => nI i) (n := 0) (by omega) (fun i hi => absurd hi (Nat.not_lt_zero _)) ?_
    show st_L_isGardener_178 N (nI g) (-1) l5 (nI ((Hq A g).getD 0 []).length) (nI 0) S = some (.inr (.inl ()))
    unfold st_L_isGardener_178
    rw [if_pos (show (-1 : Int32) < 0 by decide)]
    split <;> rfl
  | some k =>
    obtain ⟨h0, f1, f2, f3, f4⟩ := fSt e
    refine lpN_for (x := fun i => nI i) (n := ((Hq A g).getD 0 []).length) (by omega) (fun i hi => ?_) ?_
    · show st_L_isGardener_178 N (nI g) (nI k) l5 (nI ((Hq A g).getD 0 []).length) (nI i) S = some (.inl (nI (i + 1)))
      have hk : k + i < Hn A 0 := by omega
      obtain ⟨r2, r4, r3⟩ := fre (f2 i hi)
      unfold st_L_isGardener_178
      rw [if_neg (by rw [Z_le (by omega) (by omega)]; omega), if_neg (nI_pos (by omega)), nI_add, V_letterAt hC hI hk, ob1_s, show ltV A (k + i) = -1 from if_neg (by omega), if_neg (by decide), V_isReserved hC hI hk, ob1_s, if_neg (by rw [decide_eq_true_eq]; omega), V_nestDays hC hI hk, ob1_s, r3, if_pos (by decide), nI_s]
    · show st_L_isGardener_178 N (nI g) (nI k) l5 (nI ((Hq A g).getD 0 []).length) (nI ((Hq A g).getD 0 []).length) S = some (.inr (.inl ()))
      unfold st_L_isGardener_178
      rw [if_pos (Int32.le_refl _)]
def gTail (N : Nat) (a1 v3 v5 : Int32) (S : SS) : Option Bool := (om (lpN N (fun z => st_L_isGardener_120 N a1 v3 v5 z S) 0) (fun r => some r) (fun x16 => (ob1 (okI (F_X10_pendingCount a1 S)) fun v17 => (ob1 ((if v17 = 0 then some 1 else some 0) : Option Int32) fun v19 => (ob1 ((if x16 = 0 then some 1 else some 0) : Option Int32) fun v21 => (if v19 = v21 then (om (if v3 < 0 then some (.inl ()) else (if x16 = 0 then some (.inr false) else some (.inl ()))) (fun r => some r) (fun _ => (om (lpN N (fun z => st_L_isGardener_178 N a1 v3 v5 x16 z S) 0) (fun r => some r) (fun _ => (om (if v3 ≤ 0 then some (.inl ()) else (ob1 (okI (F_X10_letterAt (v3 - 1) S)) fun v28 => (if 0 ≤ v28 then some (.inr false) else (ob1 (okI (F_X10_isReserved (v3 - 1) S)) fun v29 => (if v29 = true then some (.inr false) else some (.inl ())))))) (fun r => some r) (fun _ => (ob1 ((if (F_X10_activeGardener S) = a1 then (if (F_X10_actionsLeft S) = 0 then some 1 else (if v5 = 0 then (if x16 = 0 then some 11 else (if 0 ≤ v3 then some 0 else some 12)) else some 0)) else some 13) : Option Int32) fun v31 => (ob1 (okI (F_X10_messagesQueued a1 S)) fun v32 => (ob1 (okI (F_X10_messagesDelivered a1 S)) fun v33 => (ob1 (okI (F_X10_messagesDropped a1 S)) fun v34 => (ob1 (okI (F_X10_pendingCount a1 S)) fun v35 => (ob1 (okI (F_X10_postedCount N a1 S)) fun v36 => (ob1 (okI (F_X10_writeReason N a1 S)) fun v37 => (if v37 = v31 then (ob1 ((if v5 = 0 then some 0 else some 1) : Option Int32) fun v39 => (if ((((v32 - v33) - v34) - v35) - v36) = v39 then (ob1 (okI (F_X10_pendingCount a1 S)) fun v40 => (ob1 (okI (F_X10_pendingLetter a1 v40 0 S)) fun v41 => (if v41 = (-1) then some true else some false))) else some false)) else some false)))))))))))))) else some false))))))
theorem gTail_eq {N : Nat} {a1 : Int32} {S : SS} : F_L_isGardener N a1 S = (ob1 (okI (F_X10_startSlot a1 S)) fun v1 => (ob1 (okI (F_X10_lettersWritten a1 S)) fun v2 => (ob1 (okI (F_X10_nextStartSlot N a1 S)) fun v3 => (ob1 ((if v1 < 0 then some 0 else some 1) : Option Int32) fun v5 => (om (lpN N (fun z => st_L_isGardener_33 N a1 v1 v2 v3 v5 z S) 0) (fun r => some r) (fun _ => (om (if v5 = 0 then (if 0 < v2 then some (.inr false) else some (.inl ())) else some (.inl ())) (fun r => some r) (fun _ => (om (if v5 = 0 then some (.inl ()) else (ob1 (okI (F_X10_isReserved (v1 + v2) S)) fun v12 => (if v12 = true then (ob1 (okI (F_X10_letterAt (v1 + v2) S)) fun v13 => (if v13 < 0 then some (.inl ()) else some (.inr false))) else some (.inr false)))) (fun r => some r) (fun _ => gTail N a1 v3 v5 S)))))))))) := rfl
theorem VG_tail {A : AS} {T : Nat} {S : SS} (hC : RC A (S 0)) (hI : Inv A T) (hJ : Jv A) {N g : Nat} (hN : 400 < N) (hg : g < 2) {v5 : Int32} (h5 : v5 = nI (if (Hp A g).2.2 ≠ [] then 1 else 0)) : gTail N (nI g) (oI (fStart (Hr A) (Hn A 0) ((Hq A g).getD 0 []).length)) v5 S = some true := by
  have h40 := hI.2.1.1.2
  have h7 := hI.2.1.2.2.2.2.2.2.2
  have q8 := (hI.2.2.2.2.1 g hg).1
  have hl : ((Hq A g).getD 0 []).length ≤ 12 := by
    by_cases c : 0 < (Hq A g).length
    · exact (Inv_qw hI hg c).2.1
    · rw [gD_no (by omega)]; decide
  have hz : ((Hq A g).getD 0 []).length = 0 ↔ (Hq A g).length = 0 := by
    constructor
    · intro h
      by_cases c : 0 < (Hq A g).length
      · have := (Inv_qw hI hg c).1
        omega
      · omega
    · intro h
      rw [gD_no (by omega)]
      rfl
  have e5 : (v5 = 0) = ((Hp A g).2.2 = []) := by
    rw [h5]
    by_cases c : (Hp A g).2.2 = []
    · rw [if_neg (fun q => q c)]
      exact propext ⟨fun _ => c, fun _ => rfl⟩
    · rw [if_pos c]
      exact propext ⟨fun h => absurd h (by decide), fun h => absurd h c⟩
  have m1 : (nI (Hq A g).length = 0) = ((Hq A g).length = 0) := by rw [L0, Z_eq (by omega) (by decide)]
  have m2 : (nI ((Hq A g).getD 0 []).length = 0) = ((Hq A g).length = 0) := by rw [L0, Z_eq (by omega) (by decide)]; exact propext hz
  have m3 : (nI (Hn A 6 % 2) = nI g) = (Hn A 6 % 2 = g) := Z_eq (by omega) (by omega)
  have m4 : (nI (Hn A 7) = 0) = (Hn A 7 = 0) := by rw [L0, Z_eq (by omega) (by decide)]
  have bal := hJ.2.1 g hg
  have hp0 : okI (F_X10_pendingLetter (nI g) (nI (Hq A g).length) 0 S) = some (-1) := by
    rw [L0, V_letter hC hI hg (by omega) (by decide), if_neg (fun q => Nat.lt_irrefl _ q.1)]
  unfold gTail
  rw [VG_120 hC hI hN hg, om_l, V_pending hC hI hg, ob1_s, VG_178 hC hI hN hg, V_active hC hI, V_actionsLeft hC hI, V_queued hC hI hg, V_delivered hC hI hg, V_dropped hC hI hg, V_posted hC hI hg hN, V_writeReason hC hI hg hN]
  simp only [ob1_s, om_l, hp0, bal, m1, m2, m3, m4, e5]
  have w0 : (g = Hn A 6 % 2) = (Hn A 6 % 2 = g) := propext eq_comm
  cases e : fStart (Hr A) (Hn A 0) ((Hq A g).getD 0 []).length with
  | none =>
    have w1 : wrR A g = if Hn A 6 % 2 = g then (if 0 < Hn A 7 then (if (Hp A g).2.2 ≠ [] then 0 else if (Hq A g).length = 0 then 11 else 12) else 1) else 13 := by
      unfold wrR
      rw [e]
      by_cases c2 : Hn A 6 % 2 = g
      · rw [if_pos c2.symm, if_pos c2]
      · rw [if_neg (fun h => c2 h.symm), if_neg c2]
    rw [w1, show oI none = -1 from rfl]
    by_cases c1 : (Hq A g).length = 0 <;> by_cases c2 : Hn A 6 % 2 = g <;> by_cases c3 : Hn A 7 = 0 <;> by_cases c4 : (Hp A g).2.2 = [] <;> simp (decide := true) [c1, c2, c3, c4, om, ob1_s, Nat.pos_iff_ne_zero]
  | some k =>
    obtain ⟨h0, f1, f2, f3, f4⟩ := fSt e
    have c1 : ¬ (Hq A g).length = 0 := fun h => by
      have := hz.mpr h
      omega
    have w1 : wrR A g = if Hn A 6 % 2 = g then (if 0 < Hn A 7 then 0 else 1) else 13 := by
      unfold wrR
      rw [e]
      by_cases c2 : Hn A 6 % 2 = g
      rotate_left
      · rw [if_neg (fun h => c2 h.symm), if_neg c2]
      rw [if_pos c2.symm, if_pos c2]
      by_cases c4 : (Hp A g).2.2 = []
      · simp [c4, c1]
      · simp [c4]
    rw [w1, show oI (some k) = nI k from rfl]
    have hlast : (if nI k ≤ 0 then some (.inl ()) else (ob1 (okI (F_X10_letterAt (nI k - 1) S)) fun v28 => (if 0 ≤ v28 then some (.inr false) else (ob1 (okI (F_X10_isReserved (nI k - 1) S)) fun v29 => (if v29 = true then some (.inr false) else some (.inl ())))))) = (some (.inl ()) : Option (Unit ⊕ Bool)) := by
      by_cases ck : k = 0
      · rw [ck]
        rfl
      · obtain ⟨r2, r4⟩ := f3 (by omega)
        rw [if_neg (by rw [L0, Z_le (by omega) (by decide)]; omega), L1, Z_sub (by omega), V_letterAt hC hI (k := k - 1) (by omega), ob1_s, show ltV A (k - 1) = -1 from if_neg (by omega), if_neg (by decide), V_isReserved hC hI (k := k - 1) (by omega), ob1_s, if_neg (by rw [decide_eq_true_eq]; omega)]
    simp only [hlast, om_l, nI_nn (show k < 2 ^ 31 by omega), c1, if_false]
    by_cases c2 : Hn A 6 % 2 = g <;> by_cases c3 : Hn A 7 = 0 <;> by_cases c4 : (Hp A g).2.2 = [] <;> simp (decide := true) [c2, c3, c4, om, ob1_s, nI_pos' (show k < 2 ^ 31 by omega), Nat.pos_iff_ne_zero]
theorem VL_isGardener {A : AS} {T : Nat} {S : SS} (hC : RC A (S 0)) (hI : Inv A T) (hJ : Jv A) {N g : Nat} (hN : 400 < N) (hg : g < 2) : F_L_isGardener N (nI g) S = some true := by
  have h40 := hI.2.1.1.2
  have hpl := Inv_pl hI hg
  have hpr := hI.2.2.2.2.2.1 g hg
  rw [gTail_eq, V_start hC hI hg, ob1_s, V_written hC hI hg, ob1_s, V_next hC hI hg hN, ob1_s]
  by_cases w : (Hp A g).2.2 ≠ []
  · have ho := prg_ok hI hg w
    obtain ⟨k1, k2⟩ := hpr.2 w
    have hn := ho.2.2.1
    simp only at hn
    have hk : (Hp A g).2.1 + (Hp A g).1 < Hn A 0 := by omega
    have h4 : Hr A 4 ((Hp A g).2.1 + (Hp A g).1) = (Hp A g).2.2.getD (Hp A g).1 0 := ho.2.2.2 (Hp A g).1 k1
    have h97 := (ho.2.1.2.2 (Hp A g).1 k1).1
    have h2 := k2 (Hp A g).1 (Nat.le_refl _) k1
    rw [if_pos w, if_neg (nI_pos (by omega)), ob1_s, VG_33 hC hI hJ.2.2 hN hg _ _ (fun _ => rfl), om_l, if_neg (by decide), om_l, if_neg (by decide), nI_add, V_isReserved hC hI hk, ob1_s, if_pos (decide_eq_true (by rw [h4]; simp only at h97; omega)), V_letterAt hC hI hk, ob1_s, show ltV A ((Hp A g).2.1 + (Hp A g).1) = -1 from if_neg (by omega), if_pos (by decide), om_l]
    exact VG_tail hC hI hJ hN hg (by rw [if_pos w]; rfl)
  · have hb := hpr.1 (Classical.byContradiction w)
    have h1 : (Hp A g).1 = 0 := by rw [hb]; rfl
    rw [if_neg w, if_pos (by decide), ob1_s, VG_33 hC hI hJ.2.2 hN hg _ _ (fun h => absurd h w), om_l, if_pos rfl, h1, if_neg (by decide), om_l, if_pos rfl, om_l]
    exact VG_tail hC hI hJ hN hg (by rw [if_neg w]; rfl)
