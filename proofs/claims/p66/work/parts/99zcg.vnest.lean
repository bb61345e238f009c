/-! ===== vnest: adding a nest, cancelling, sending a word ===== -/
/-- as ST, of the text nothing -/
def ST0 (S : SS) (A : AS) (L : List AS) (T : Nat) : Prop := RC A (S 0) ∧ Inv A T ∧ Jk A ∧ CH L S ∧ ∀ B ∈ L, Inv B T ∧ Jk B
theorem ST_0 {S : SS} {A : AS} {L : List AS} {T : Nat} (h : ST S A L T) : ST0 S A L T := ⟨h.1, h.2.1, h.2.2.1, h.2.2.2.1, h.2.2.2.2.1⟩
theorem ST0_1 {S : SS} {A : AS} {L : List AS} {T : Nat} (h : ST0 S A L T) (ht : (S 11 4).1 1 = nI 0) : ST S A L T := ⟨h.1, h.2.1, h.2.2.1, h.2.2.2.1, h.2.2.2.2, ht⟩
theorem ST0_e {S S' : SS} {A : AS} {L : List AS} {T : Nat} (h : ST0 S A L T) (e0 : S' 0 = S 0) (e7 : S' 11 7 = S 11 7) (e : ∀ j, 3 ≤ j → j < 11 → S' j = S j) : ST0 S' A L T := ⟨by rw [e0]; exact h.1, h.2.1, h.2.2.1, CH_e h.2.2.2.1 e7 e, h.2.2.2.2⟩
/-- a state that differs in the scratch hedge alone -/
theorem ST_1 {S S' : SS} {A : AS} {L : List AS} {T : Nat} (h : ST S A L T) (e : ∀ j, j ≠ 1 → S' j = S j) : ST S' A L T := ST0_1 (ST0_e (ST_0 h) (e 0 (by decide)) (by rw [e 11 (by decide)]) (fun j h1 _ => e j (by omega))) (by rw [e 11 (by decide)]; exact h.2.2.2.2.2)
theorem V_hand0 {S : SS} {A : AS} {L : List AS} {T : Nat} (h : ST0 S A L T) : ∃ S4, F_X6_remember 0 S = some S4 ∧ S4 0 = S 0 ∧ (∀ p, p ≠ 7 → S4 11 p = S 11 p) ∧ ∀ (S' : SS) (B : AS) (T' : Nat), T ≤ T' → Inv B T' → Jk B → RC B (S' 0) → S' 11 7 = S4 11 7 → (∀ j, 3 ≤ j → j < 11 → S' j = S4 j) → ST0 S' B (psh L A) T' := by
  obtain ⟨hC, hI, hJ, hH, hL3⟩ := h
  obtain ⟨S4, e4, c4, f4, g4⟩ := C_remember hC hI hH
  refine ⟨S4, e4, f4 0 (by decide), g4, fun S' B T' hT iB jB rB o7 o => ⟨rB, iB, jB, CH_e c4 o7 o, fun B' hB' => ?_⟩⟩
  rcases psh_mem hB' with q | q
  · exact ⟨Inv_up (hL3 B' q).1 hT iB.1, (hL3 B' q).2⟩
  · rw [q]; exact ⟨Inv_up hI hT iB.1, hJ⟩
theorem nst_add {A : AS} {k c : Nat} (hk : k < Hn A 0) (h0 : Hr A 3 k = 0) (hc : 1 ≤ c) : cnt (nstB (Hr (opNst A k c))) (Hn A 0) = cnt (nstB (Hr A)) (Hn A 0) + 1 := by
  have := cnt_pt (p := nstB (Hr A)) (q := nstB (Hr (opNst A k c))) (k := k) (fun j hj => by
    show decide (0 < rowS (Hr A) 3 k c 3 j) = decide (0 < Hr A 3 j)
    rw [rowS_k hj 3]) (Hn A 0) hk
  have e1 : nstB (Hr A) k = false := decide_eq_false (by omega)
  have e2 : nstB (Hr (opNst A k c)) k = true := decide_eq_true (by
    show 0 < rowS (Hr A) 3 k c 3 k
    rw [rowS_at]; omega)
  rw [e1, e2] at this
  exact this
theorem V_nest {S : SS} {A : AS} {L : List AS} {T N k c : Nat} (h : ST S A L T) (hN : 400 < N) (hk : k < Hn A 0) (hc : 1 ≤ c) (hc2 : c ≤ 30) : if nstOk A k = true then ∃ S', F_X10_addNest N (nI k) (nI c) S = some (.inl (nI (cnt (nstB (Hr A)) (Hn A 0) + 1), S')) ∧ ST S' (opNst A k c) (psh L A) T else F_X10_addNest N (nI k) (nI c) S = some (.inr (1, S)) := by
  obtain ⟨hC, hI, hJ, _⟩ := id h
  have h40 := hI.2.1.1.2
  unfold F_X10_addNest
  rw [V_slot hC hI hk, Zox_l, if_neg (show ¬ nI c < 1 by rw [L1, Z_lt (by omega) (by decide)]; omega), if_pos (show nI c ≤ 30 by rw [L30, Z_le (by omega) (by decide)]; exact hc2), C_mayNest hC.1.1 hI hk (by omega), ob1_s]
  cases c0 : nstOk A k with
  | true =>
    have h6 := of_decide_eq_true c0
    obtain ⟨S4, r1, r2, _, r3⟩ := V_hand h
    have hp := C_nst hC hI (d := c) hk
    have hIp := Inv_nst hI hk hc2 h6.1
    have hct := C_countNests hp.1.1 hIp (N := N) (by omega)
    have e0 : Hn (opNst A k c) 0 = Hn A 0 := rfl
    rw [e0, nst_add hk h6.2 hc] at hct
    rw [if_pos rfl, if_pos rfl, r1, ob1_s, lt_d, lt_d, r2]
    refine ⟨_, ?_, r3 (up S4 0 (F_X5_placeNest (nI k) (nI c) (S 0))) (opNst A k c) T (Nat.le_refl _) hIp (Jk_nst hJ) (by rw [up_s]; exact hp) (fun j hj _ => up_n hj)⟩
    rw [up_s, hct, ob1_s]
  | false =>
    rw [if_neg Bool.false_ne_true, if_neg Bool.false_ne_true]
theorem V_cancel {S : SS} {A : AS} {L : List AS} {T g m : Nat} (h : ST S A L T) (hg : g < 2) (hm : m < 2 ^ 20) : if m < (Hq A g).length then ∃ S', F_X10_cancelMessage (nI g) (nI m) S = some (.inl (nI ((Hq A g).getD m []).length, S')) ∧ ST S' (opCan A g m) (psh L A) T else F_X10_cancelMessage (nI g) (nI m) S = some (.inr (3, S)) := by
  obtain ⟨hC, hI, hJ, _⟩ := id h
  have hG := hC.1.2 g hg
  have q8 := (hI.2.2.2.2.1 g hg).1
  have hmay : (F_X5_mayCancel (nI g) (nI m) (S 0) = true) = (m < (Hq A g).length) := by
    unfold F_X5_mayCancel F_X4_hasPending
    rw [Z_gsel hg, hG.2.2.1, if_neg (nI_pos (by omega))]
    by_cases c : m < (Hq A g).length
    · rw [if_neg (by rw [Z_le (by omega) (by omega)]; omega)]; simp [c]
    · rw [if_pos (by rw [Z_le (by omega) (by omega)]; omega)]; simp [c]
  unfold F_X10_cancelMessage
  rw [V_gard hg, Zox_l]
  by_cases c0 : m < (Hq A g).length
  · obtain ⟨S4, r1, r2, _, r3⟩ := V_hand h
    rw [if_pos c0, if_pos (by rw [hmay]; exact c0), r1, ob1_s, lt_d, lt_d, r2, Z_gsel hg, C_lengthOf hG q8 (by omega)]
    exact ⟨_, rfl, r3 (up S4 0 (up (S 0) (1 + g) (F_X4_cancel (nI m) (S 0 (1 + g))))) (opCan A g m) T (Nat.le_refl _) (Inv_can hI) (Jk_can hJ hg c0) (by rw [up_s]; exact C_can hC hI hg c0) (fun j hj _ => up_n hj)⟩
  · rw [if_neg c0, if_neg (by rw [hmay]; exact c0)]
theorem V_queue {S : SS} {A : AS} {L : List AS} {T N g n : Nat} {B : Nat → Nat} (h : ST0 S A L T) (hN : 900 < N) (hg : g < 2) (hB : CB B n (S 11 4)) (hb : bwB B n n = true) : if (Hq A g).length < 8 then ∃ S', F_X10_queueMessage N (nI g) S = some (.inl (nI ((Hq A g).length + 1), S')) ∧ ST S' (opQue A g (wdL B 0 n)) (psh L A) T else F_X10_queueMessage N (nI g) S = some (.inr (1, S)) := by
  obtain ⟨hC, hI, hJ, _⟩ := id h
  have q8 := (hI.2.2.2.2.1 g hg).1
  have hwd := bwB_t.mp hb
  have hlen : (wdL B 0 n).length = n := wdL_len
  have hokw : okW (wdL B 0 n) := wdL_ok (by omega) hwd.2.1 (fun k hk => by
    have := hwd.2.2 k hk
    rw [isL_t] at this
    rwa [Nat.zero_add])
  have hmay : F_X5_mayQueue (nI g) (S 0) = decide ((Hq A g).length < 8) := by
    unfold F_X5_mayQueue
    rw [Z_gsel hg, show (S 0 (1 + g)).1 2 = nI (Hq A g).length from (hC.1.2 g hg).2.2.1]
    by_cases c : (Hq A g).length < 8
    · rw [if_neg (show ¬ (8 : Int32) ≤ nI (Hq A g).length by rw [L8, Z_le (by omega) (by omega)]; omega), decide_eq_true c]
    · rw [if_pos (show (8 : Int32) ≤ nI (Hq A g).length by rw [L8, Z_le (by omega) (by omega)]; omega), decide_eq_false c]
  unfold F_X10_queueMessage
  rw [V_gard hg, Zox_l, C_oneWord hB hN, ob1_s, hb, if_pos rfl, hmay]
  by_cases c : (Hq A g).length < 8
  · obtain ⟨S4, r1, r2, g4, r3⟩ := V_hand0 h
    have hS4 : S4 11 4 = S 11 4 := g4 4 (by decide)
    have hque := C_que (h := S 0) hC hI hg c (src := (S 11 4).2 0) (n2 := 800) (a := 0) (w := wdL B 0 n) (by decide) (by rw [hlen]; omega) (by rw [hlen]; exact hwd.2.1) (fun x hx => by
      rw [hlen] at hx
      rw [wdL_at hx]
      rw [Nat.zero_add]
      exact (hB.2.1 x hx).2)
    rw [hlen] at hque
    have hIq := Inv_que (g := g) hI c hokw
    rw [if_pos c, decide_eq_true c, if_pos rfl, r1, ob1_s]
    simp only [lt_d]
    rw [hS4, r2, hB.2.2, L0]
    generalize hS9 : up (up S4 0 (F_X5_receive (nI g) ((S 11 4).2 0) 800 (nI 0) (nI n) (S 0))) 11 (up (up S4 0 (F_X5_receive (nI g) ((S 11 4).2 0) 800 (nI 0) (nI n) (S 0)) 11) 4 (sS (up S4 0 (F_X5_receive (nI g) ((S 11 4).2 0) 800 (nI 0) (nI n) (S 0)) 11 4) 1 (nI 0))) = S9
    have e0 : S9 0 = F_X5_receive (nI g) ((S 11 4).2 0) 800 (nI 0) (nI n) (S 0) := by rw [← hS9, up_n (by decide), up_s]
    have e4 : S9 11 4 = sS (S 11 4) 1 (nI 0) := by rw [← hS9, up_s, up_s, up_n (by decide), hS4]
    have e7 : S9 11 7 = S4 11 7 := by rw [← hS9, up_s, up_n (by decide), up_n (by decide)]
    have ej : ∀ j, 3 ≤ j → j < 11 → S9 j = S4 j := fun j h1 h2 => by rw [← hS9, up_n (by omega), up_n (by omega)]
    have hR : RC (opQue A g (wdL B 0 n)) (S9 0) := by rw [e0]; exact hque
    refine ⟨S9, ?_, ST0_1 (r3 S9 (opQue A g (wdL B 0 n)) T (Nat.le_refl _) hIq (Jk_que hJ hg) hR e7 ej) (by rw [e4, sS_1])⟩
    have eq : (S9 0 (1 + g)).1 2 = nI (Hq (opQue A g (wdL B 0 n)) g).length := (hR.1.2 g hg).2.2.1
    have el : (Hq (opQue A g (wdL B 0 n)) g).length = (Hq A g).length + 1 := by
      show (up (Hq A) g (Hq A g ++ [wdL B 0 n]) g).length = _
      rw [up_s, List.length_append]
      rfl
    rw [Z_gsel hg, eq, el]
  · rw [if_neg c, decide_eq_false c, if_neg Bool.false_ne_true]
