/-! ===== vload: the whole text is read ===== -/
theorem wtab : (((decide ((stN 7).map nI = sTx 7) = true ∧ decide ((stN 8).map nI = sTx 7) = false) ∧ (decide ((stN 8).map nI = sTx 8) = true ∧ decide ((stN 9).map nI = sTx 7) = false)) ∧ ((decide ((stN 9).map nI = sTx 8) = false ∧ decide ((stN 9).map nI = sTx 9) = true) ∧ decide ((stN 6).map nI = sTx 6) = true)) := by decide +kernel
theorem wlet : ∀ i : Fin 4, 0 < (stN (6 + i.1)).length ∧ ((stN (6 + i.1)).length ≤ 12 ∧ (sTx (6 + i.1)).length ≤ 12) ∧ ∀ x ∈ stN (6 + i.1), isL x = true := by decide +kernel
theorem wspl : (stN 27 = stN 6 ++ [32] ∧ stN 28 = 32 :: (digs 4 ++ [59])) ∧ (stN 29 = stN 7 ++ [32] ∧ (stN 30 = stN 8 ++ [32] ∧ stN 31 = stN 9 ++ [32])) := by decide +kernel
theorem V_word {X R : List Nat} {p i N : Nat} {S0 S : SS} (h : PC0 X p S0 S) (hi : i < 4) (ht : At X p (stN (6 + i) ++ 32 :: R)) (hN : 900 < N) : ∃ g e, F_X9_readToken N (S 11 4) = some g ∧ F_X9_atEnd g = false ∧ PC0 X e S0 (sT S g) ∧ At X e (32 :: R) ∧ ∀ j, j < 4 → F_X9_isWord N (6 + j) g = some (decide ((stN (6 + i)).map nI = sTx (6 + j))) := by
  obtain ⟨w0, ⟨w1, -⟩, w2⟩ := wlet ⟨i, hi⟩
  dsimp only at w0 w1 w2
  obtain ⟨hB, hp, hf⟩ := h
  have hle := At_le ht
  obtain ⟨g, f1, k⟩ := C_tok (N := N) hB (by omega) hp hN
  have hv := isW_v ht w0 w2 (by decide)
  have hiw : ∀ j, j < 4 → F_X9_isWord N (6 + j) g = some (decide ((stN (6 + i)).map nI = sTx (6 + j))) := fun j hj => by
    rw [C_isW hB (by omega) k (sx := 6 + j) (wlet ⟨j, hj⟩).2.1.2 hN, hv]
  have hte : tK (tB X) X.length p = 1 ∧ tE (tB X) X.length p = p + (stN (6 + i)).length := by
    generalize stN (6 + i) = w at ht w0 w2
    cases w with
    | nil => exact absurd w0 (by decide)
    | cons c w =>
      obtain ⟨k1, k2, k3⟩ := tokL_t (s := 0) ht w2 (by decide)
      exact ⟨k1, k3⟩
  refine ⟨g, p + (stN (6 + i)).length, f1, ?_, ⟨?_, ?_, fS_T hf⟩, At_app ht, hiw⟩
  · unfold F_X9_atEnd
    rw [k.2.2.2.1, hte.1]
    rfl
  · rw [sT_4]; exact CK_B hB k
  · rw [sT_4, k.2.2.1, hte.2]
def rdF (N : Nat) : Int32 × SS → Option ((Int32 × SS) ⊕ (Bool × SS)) := fun z => st_X3_read_16 N 1 z.1 z.2
/-- the reader has come to the rest R of the text, after j statements -/
def RDL (N : Nat) (X : List Nat) (S0 S5 : SS) (R : List Nat) (A : AS) (j : Nat) : Prop := ∃ S p, lpN N (rdF N) (0, S5) = lpN (N - j) (rdF N) (nI j, S) ∧ PC0 X p S0 S ∧ RC (atA A) (S 1) ∧ AJ A 0 ∧ At X p R
theorem RDL_s {N : Nat} {X : List Nat} {S0 S5 : SS} {R R' : List Nat} {A A' : AS} {j i : Nat} (h : RDL N X S0 S5 (stN (6 + i) ++ 32 :: R) A j) (hi : i < 4) (hN : 6000 < N) (hj : j < 800) (hA : AJ A' 0) (hs : ∀ S p g, PC0 X p S0 (sT S g) → RC (atA A) (sT S g 1) → AJ A 0 → At X p (32 :: R) → (∀ j, j < 4 → F_X9_isWord N (6 + j) g = some (decide ((stN (6 + i)).map nI = sTx (6 + j)))) → ∃ S' e, F_X3_readStatement N 1 (sT S g) = some (true, S') ∧ PC0 X e S0 S' ∧ RC (atA A') (S' 1) ∧ At X e R') : RDL N X S0 S5 R' A' (j + 1) := by
  obtain ⟨S, p, e1, h1, hC, hA0, ht⟩ := h
  obtain ⟨g, e, f1, f2, f3, f4, f5⟩ := V_word (N := N) h1 hi ht (by omega)
  obtain ⟨S', e', y1, y2, y3, y4⟩ := hs S e g f3 (by rw [sT_o (by decide)]; exact hC) hA0 f4 f5
  refine ⟨S', e', ?_, y2, y3, hA, y4⟩
  have hst : rdF N (nI j, S) = some (.inl (nI (j + 1), S')) := by
    show st_X3_read_16 N 1 (nI j) S = _
    unfold st_X3_read_16
    rw [if_neg (show ¬ 800 < nI j by rw [L800, Z_lt (by omega) (by omega)]; omega), f1, ob1_s, lt_d, ← sT_e, sT_4, f2, if_neg Bool.false_ne_true, y1, ob_s, if_pos rfl, L1, Z_add]
  rw [e1, show N - j = (N - (j + 1)) + 1 by omega]
  exact lpN_l hst
theorem RDL_t {N : Nat} {X : List Nat} {S0 S5 : SS} {R : List Nat} {A : AS} {j k c o l : Nat} (h : RDL N X S0 S5 (stN 29 ++ (digs k ++ (32 :: (c :: (32 :: (digs o ++ (32 :: (digs l ++ (59 :: R))))))))) A j) (hN : 6000 < N) (hj : j < 800) (hk : k < Hn A 0) (h2 : Hr A 2 k = 0) (hc : 97 ≤ c) (hc2 : c ≤ 122) (ho : o < 2) (hl0 : 0 < l) (hl : l ≤ 99) : RDL N X S0 S5 R (opTw A k c o l) (j + 1) := by
  have hA := h.choose_spec.choose_spec.2.2.2.1
  rw [wspl.2.1, List.append_assoc] at h
  refine RDL_s (i := 1) h (by decide) hN hj (AJ_tw hA hk h2 hc hc2 ho hl0 hl) (fun S p g h1 hC hA0 ht hw => ?_)
  obtain ⟨S', e, y1, y2⟩ := V_twigL h1 hC hA0 ht (N := N) (by omega) hk h2 hc hc2 ho hl0 hl
  refine ⟨S', e, ?_, y2⟩
  unfold F_X3_readStatement
  rw [sT_4, show F_X9_isWord N 7 g = _ from hw 1 (by decide), ob1_s, show decide ((stN (6 + 1)).map nI = sTx (6 + 1)) = true from wtab.1.1.1, if_pos rfl, y1, ob_s]
theorem RDL_n {N : Nat} {X : List Nat} {S0 S5 : SS} {R : List Nat} {A : AS} {j k d : Nat} (h : RDL N X S0 S5 (stN 30 ++ (digs k ++ (32 :: (digs d ++ (59 :: R))))) A j) (hN : 6000 < N) (hj : j < 800) (hk : k < Hn A 0) (h3 : Hr A 3 k = 0) (h6 : cnt (nstB (Hr A)) (Hn A 0) < 6) (hd : 0 < d) (hd2 : d ≤ 30) : RDL N X S0 S5 R (opNst A k d) (j + 1) := by
  have hA := h.choose_spec.choose_spec.2.2.2.1
  rw [wspl.2.2.1, List.append_assoc] at h
  refine RDL_s (i := 2) h (by decide) hN hj ⟨Inv_nst hA.1 hk hd2 h6, hA.2.1, hA.2.2.1, Jk_nst hA.2.2.2⟩ (fun S p g h1 hC hA0 ht hw => ?_)
  obtain ⟨S', e, y1, y2⟩ := V_nestL h1 hC hA0 ht (N := N) (by omega) hk h3 h6 hd hd2
  refine ⟨S', e, ?_, y2⟩
  unfold F_X3_readStatement
  rw [sT_4, show F_X9_isWord N 7 g = _ from hw 1 (by decide), ob1_s, show decide ((stN (6 + 2)).map nI = sTx (6 + 1)) = false from wtab.1.1.2, if_neg Bool.false_ne_true, show F_X9_isWord N 8 g = _ from hw 2 (by decide), ob1_s, show decide ((stN (6 + 2)).map nI = sTx (6 + 2)) = true from wtab.1.2.1, if_pos rfl, y1, ob_s]
theorem RDL_m {N : Nat} {X : List Nat} {S0 S5 : SS} {R w : List Nat} {A : AS} {j g : Nat} (h : RDL N X S0 S5 (stN 31 ++ (digs g ++ (32 :: (w ++ (59 :: R))))) A j) (hN : 6000 < N) (hj : j < 800) (hg : g < 2) (h8 : (Hq A g).length < 8) (hw0 : 0 < w.length) (hw12 : w.length ≤ 12) (hwl : ∀ x ∈ w, isL x = true) : RDL N X S0 S5 R (opQue A g w) (j + 1) := by
  have hA := h.choose_spec.choose_spec.2.2.2.1
  rw [wspl.2.2.2, List.append_assoc] at h
  have hok : okW w := ⟨hw0, hw12, fun x hx => by
    have q := hwl _ (List.getElem_mem hx)
    rw [isL_t] at q
    rw [List.getD_eq_getElem?_getD, List.getElem?_eq_getElem hx]
    exact q⟩
  refine RDL_s (i := 3) h (by decide) hN hj ⟨Inv_que hA.1 h8 hok, hA.2.1, hA.2.2.1, Jk_que hA.2.2.2 hg⟩ (fun S p g' h1 hC hA0 ht hw => ?_)
  obtain ⟨S', e, y1, y2⟩ := V_msgL h1 hC hA0 ht (N := N) (by omega) hg h8 hw0 hw12 hwl
  refine ⟨S', e, ?_, y2⟩
  unfold F_X3_readStatement
  rw [sT_4, show F_X9_isWord N 7 g' = _ from hw 1 (by decide), ob1_s, show decide ((stN (6 + 3)).map nI = sTx (6 + 1)) = false from wtab.1.2.2, if_neg Bool.false_ne_true, show F_X9_isWord N 8 g' = _ from hw 2 (by decide), ob1_s, show decide ((stN (6 + 3)).map nI = sTx (6 + 2)) = false from wtab.2.1.1, if_neg Bool.false_ne_true, show F_X9_isWord N 9 g' = _ from hw 3 (by decide), ob1_s, show decide ((stN (6 + 3)).map nI = sTx (6 + 3)) = true from wtab.2.1.2, if_pos rfl, y1, ob_s]
/-- at the end of the text -/
theorem RDL_e {N : Nat} {X : List Nat} {S0 S5 : SS} {A : AS} {j : Nat} (h : RDL N X S0 S5 [] A j) (hN : 6000 < N) (hj : j < 800) : ∃ S', lpN N (rdF N) (0, S5) = some (true, S') ∧ fS S0 S' ∧ RC (atA A) (S' 1) ∧ AJ A 0 := by
  obtain ⟨S, p, e1, ⟨hB, hp, hf⟩, hC, hA, ht⟩ := h
  have hle := At_le ht
  obtain ⟨g, f1, k⟩ := C_tok (N := N) hB (by omega) hp (by omega)
  refine ⟨sT S g, ?_, fS_T hf, by rw [sT_o (by decide)]; exact hC, hA⟩
  have hst : rdF N (nI j, S) = some (.inr (true, sT S g)) := by
    show st_X3_read_16 N 1 (nI j) S = _
    have he : F_X9_atEnd g = true := by
      unfold F_X9_atEnd
      rw [k.2.2.2.1, end_t ht]
      rfl
    unfold st_X3_read_16
    rw [if_neg (show ¬ 800 < nI j by rw [L800, Z_lt (by omega) (by omega)]; omega), f1, ob1_s, lt_d, ← sT_e, sT_4, he, if_pos rfl]
  rw [e1, show N - j = (N - (j + 1)) + 1 by omega]
  exact lpN_r hst
theorem Jk_lay {a0 a1 a2 a3 a4 a5 : Nat} : Jk (layA a0 a1 a2 a3 a4 a5) := by
  have e0 : tw (layA a0 a1 a2 a3 a4 a5) = 0 := cnt_no (fun k _ => decide_eq_false (Nat.lt_irrefl 0))
  refine ⟨?_, fun g hg => ?_, ⟨fun g hg x hx => absurd hx (Nat.not_lt_zero x), fun m hm => by cases (show m ∈ ([] : List Msg) from hm)⟩, fun g hg x hx => absurd hx (Nat.not_lt_zero x), fun m hm => by cases (show m ∈ ([] : List Msg) from hm)⟩
  · unfold Jt
    rw [e0]
    show (0 : Int32) - ((0 + 0) + nI 0) = 0
    decide
  · unfold Jm
    rw [msgs_cnt hg]
    show ((0 : Int32) - 0) - 0 = nI (0 + ((if ([] : List Nat) ≠ [] then 1 else 0) + 0))
    decide
/-- the first line -/
theorem V_hedgeL {X R : List Nat} {S0 S : SS} {a0 a1 a2 a3 a4 a5 N : Nat} (h : PC0 X 0 S0 S) (ht : At X 0 (stN 6 ++ (32 :: (digs a0 ++ (32 :: (digs a1 ++ (32 :: (digs a2 ++ (32 :: (digs a3 ++ (32 :: (digs a4 ++ (32 :: (digs a5 ++ (59 :: R)))))))))))))))  (hN : 900 < N) (h0 : 4 ≤ a0 ∧ a0 ≤ 40) (h1 : 1 ≤ a1 ∧ a1 ≤ 12) (h2 : a2 ≤ 9) (h3 : 1 ≤ a3 ∧ a3 ≤ 99) (h4 : 1 ≤ a4 ∧ a4 ≤ 30) (h5 : 1 ≤ a5 ∧ a5 ≤ 40) : ∃ S5 e, F_X3_readHedge N 1 S = some (true, S5) ∧ PC0 X e S0 S5 ∧ RC (atA (layA a0 a1 a2 a3 a4 a5)) (S5 1) ∧ At X e R := by
  obtain ⟨g0, e0, f0, -, p0, t0, w0⟩ := V_word (i := 0) h (by decide) ht hN
  unfold F_X3_readHedge
  rw [f0, ob1_s, lt_d, ← sT_e, sT_4, show F_X9_isWord N 6 g0 = _ from w0 0 (by decide), ob1_s, show decide ((stN (6 + 0)).map nI = sTx (6 + 0)) = true from wtab.2.2, if_pos rfl]
  obtain ⟨g1, e1, f1, v1, p1, t1⟩ := PC_num (s := 1) (lo := 4) (hi := 40) sT_4 p0 t0 hN (by omega) (by decide) h0.1 h0.2 (by decide)
  rw [L0, L1, show (4 : Int32) = nI 4 from rfl, show (40 : Int32) = nI 40 from rfl, L12, L9, L99, show (30 : Int32) = nI 30 from rfl, f1, ob_s, lt_d, ← sT_e, if_pos rfl, sT_4, v1]
  obtain ⟨g2, e2, f2, v2, p2, t2⟩ := PC_num (s := 1) (lo := 1) (hi := 12) sT_4 p1 t1 hN (by omega) (by decide) h1.1 h1.2 (by decide)
  rw [f2, ob_s, lt_d, ← sT_e, if_pos rfl, sT_4, v2]
  obtain ⟨g3, e3, f3, v3, p3, t3⟩ := PC_num (s := 1) (lo := 0) (hi := 9) sT_4 p2 t2 hN (by omega) (by decide) (Nat.zero_le _) h2 (by decide)
  rw [f3, ob_s, lt_d, ← sT_e, if_pos rfl, sT_4, v3]
  obtain ⟨g4, e4, f4, v4, p4, t4⟩ := PC_num (s := 1) (lo := 1) (hi := 99) sT_4 p3 t3 hN (by omega) (by decide) h3.1 h3.2 (by decide)
  rw [f4, ob_s, lt_d, ← sT_e, if_pos rfl, sT_4, v4]
  obtain ⟨g5, e5, f5, v5, p5, t5⟩ := PC_num (s := 1) (lo := 1) (hi := 30) sT_4 p4 t4 hN (by omega) (by decide) h4.1 h4.2 (by decide)
  rw [f5, ob_s, lt_d, ← sT_e, if_pos rfl, sT_4, v5]
  obtain ⟨g6, e6, f6, v6, p6, t6⟩ := PC_num (s := 1) (lo := 1) (hi := 40) sT_4 p5 t5 hN (by omega) (by decide) h5.1 h5.2 (by decide)
  rw [f6, ob_s, lt_d, ← sT_e, if_pos rfl, sT_4, v6, lt_d, lt_d, up_n (show (11 : Nat) ≠ 1 by decide)]
  generalize sT (sT (sT (sT (sT (sT (sT S g0) g1) g2) g3) g4) g5) g6 = S4 at p6 ⊢
  have hR := C_layOut (a0 := a0) (a1 := a1) (a2 := a2) (a3 := a3) (a4 := a4) (a5 := a5) (h := S4 1)
  generalize hu : F_X5_layOut (nI a0) (nI a1) (nI a2) (nI a3) (nI a4) (nI a5) (S4 1) = u at hR ⊢
  have p7 := PC_1 (u := u) p6
  obtain ⟨g7, e7, f7, p8, t7⟩ := PC_sem (g0 := S4 11 4) (by rw [up_n (by decide)]) p7 t6 hN
  rw [f7, ob_s, lt_d]
  refine ⟨sT (up S4 1 u) g7, e7, ?_, p8, ?_, t7⟩
  · rw [sT_e, up_n (f := S4) (show (11 : Nat) ≠ 1 by decide)]
  · rw [sT_o (by decide), up_s]; exact hR
