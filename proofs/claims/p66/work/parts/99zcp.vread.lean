/-! ===== vread: the reader over such a text: the hedge's line, a statement ===== -/
/-- before a token at p -/
def PC0 (X : List Nat) (p : Nat) (S0 S : SS) : Prop := CB (tB X) X.length (S 11 4) ∧ (S 11 4).1 2 = nI p ∧ fS S0 S
theorem isL_D {c : Nat} (h : isD c = true) : isL c = false := by
  rw [isD_t] at h
  exact decide_eq_false (by omega)
theorem digs_D {v : Nat} (hv : v < 100) : ∀ c ∈ digs v, isD c = true := by
  intro c hc
  rw [isD_t]
  unfold digs at hc
  split at hc
  · rw [List.mem_singleton.mp hc]
    omega
  · rcases List.mem_cons.mp hc with q | q
    · omega
    · rw [List.mem_singleton.mp q]
      omega
theorem PC_num {X R : List Nat} {p s v d lo hi N : Nat} {S0 S : SS} {g0 : HV} (hg0 : S 11 4 = g0) (h : PC0 X p S0 S) (ht : At X p (List.replicate s 32 ++ (digs v ++ d :: R))) (hN : 900 < N) (hv : v < 100) (hd : isD d = false) (h1 : lo ≤ v) (h2 : v ≤ hi) (hh : hi < 2 ^ 20) : ∃ g e, F_X9_readNumber N (nI lo) (nI hi) g0 = some (true, g) ∧ g.1 6 = nI v ∧ PC0 X e S0 (sT S g) ∧ At X e (d :: R) := by
  subst hg0
  obtain ⟨hB, hp, hf⟩ := h
  obtain ⟨e1, e2⟩ := num_t (lo := lo) (hi := hi) ht hv hd h1 h2
  have hle := At_le ht
  obtain ⟨g, f1, f2, f3, _⟩ := (C_num (lo := lo) (hi := hi) hB (by omega) hp (by omega) hh hN).1 _ _ e1
  exact ⟨g, _, f1, f3, ⟨by rw [sT_4]; exact f2.1, by rw [sT_4]; exact f2.2.1, fS_T hf⟩, e2⟩
theorem PC_let {X R : List Nat} {p s c d N : Nat} {S0 S : SS} {g0 : HV} (hg0 : S 11 4 = g0) (h : PC0 X p S0 S) (ht : At X p (List.replicate s 32 ++ ([c] ++ d :: R))) (hN : 900 < N) (hc : isL c = true) (hd : isL d = false) : ∃ g e, F_X9_readLetter N g0 = some (true, g) ∧ g.1 6 = nI c ∧ PC0 X e S0 (sT S g) ∧ At X e (d :: R) := by
  subst hg0
  obtain ⟨hB, hp, hf⟩ := h
  obtain ⟨e1, e2⟩ := let_t ht hc hd
  have hle := At_le ht
  obtain ⟨g, f1, f2, f3⟩ := (C_let hB (by omega) hp hN).1 _ _ e1
  exact ⟨g, _, f1, f3, ⟨by rw [sT_4]; exact f2.1, by rw [sT_4]; exact f2.2.1, fS_T hf⟩, e2⟩
theorem PC_wrd {X R w : List Nat} {p s d N : Nat} {S0 S : SS} {g0 : HV} (hg0 : S 11 4 = g0) (h : PC0 X p S0 S) (ht : At X p (List.replicate s 32 ++ (w ++ d :: R))) (hN : 900 < N) (h0 : 0 < w.length) (h12 : w.length ≤ 12) (hw : ∀ x ∈ w, isL x = true) (hd : isL d = false) : ∃ g e a, F_X9_readMessageWord N g0 = some (true, g) ∧ g.1 4 = nI a ∧ g.1 5 = nI w.length ∧ a + w.length ≤ 800 ∧ (∀ x, x < w.length → g.2 0 (a + x) = nI (w.getD x 0)) ∧ PC0 X e S0 (sT S g) ∧ At X e (d :: R) := by
  subst hg0
  obtain ⟨hB, hp, hf⟩ := h
  obtain ⟨e1, e2, e3⟩ := wrd_t ht h0 h12 hw hd
  have hle := At_le ht
  have hle2 := At_le e2
  have h800 := hB.1
  obtain ⟨g, f1, f2, f3, f4⟩ := (C_wrd hB (by omega) hp hN).1 _ _ e1
  refine ⟨g, _, p + s, f1, f3, by rw [f4, show p + s + w.length - (p + s) = w.length by omega], by omega, fun x hx => ?_, ⟨by rw [sT_4]; exact f2.1, by rw [sT_4]; exact f2.2.1, fS_T hf⟩, e2⟩
  have q := (f2.1.2.1 (p + s + x) (by omega)).2
  rw [q, ← wdL_at (B := tB X) (s := p + s) hx, e3]
theorem PC_sem {X R : List Nat} {p N : Nat} {S0 S : SS} {g0 : HV} (hg0 : S 11 4 = g0) (h : PC0 X p S0 S) (ht : At X p (59 :: R)) (hN : 900 < N) : ∃ g e, F_X9_readSemicolon N g0 = some (true, g) ∧ PC0 X e S0 (sT S g) ∧ At X e R := by
  subst hg0
  obtain ⟨hB, hp, hf⟩ := h
  obtain ⟨e1, e2⟩ := sem_t ht
  have hle := At_le ht
  obtain ⟨g, f1, f2⟩ := (C_sem hB (by omega) hp hN).1 _ e1
  exact ⟨g, _, f1, ⟨by rw [sT_4]; exact f2.1, by rw [sT_4]; exact f2.2.1, fS_T hf⟩, e2⟩
theorem PC_1 {X : List Nat} {p : Nat} {S0 S : SS} {u : Nat → HV} (h : PC0 X p S0 S) : PC0 X p S0 (up S 1 u) := by
  refine ⟨?_, ?_, fS_1 h.2.2⟩
  · rw [up_n (by decide)]; exact h.1
  · rw [up_n (by decide)]; exact h.2.1
/-- what is so of the hedge while it is read -/
def AJ (A : AS) (T : Nat) : Prop := Inv A T ∧ (∀ g, g < 2 → Hp A g = bare) ∧ Hl A = [] ∧ Jk A
theorem Jk_twL {A : AS} {T k c o l : Nat} (hI : Inv A T) (h : Jk A) (hk : k < Hn A 0) (h2 : Hr A 2 k = 0) (h4 : Hr A 4 k = 0) (hl : 0 < l) : Jk (opTw A k c o l) := by
  obtain ⟨j1, j2, j3, j4⟩ := h
  have hx := Jxl_loc (B := opTw A k c o l) hI j3 j4 h4 rfl rfl (fun a j hj => twR_2n hj a)
  exact ⟨Jt_tw j1 hk h2 hl, fun g hg => Jm_e (j2 g hg) rfl (fun i hi => up_n (show i ≠ 0 by omega)), hx.1, hx.2⟩
theorem AJ_tw {A : AS} {T k c o l : Nat} (h : AJ A T) (hk : k < Hn A 0) (h2 : Hr A 2 k = 0) (hc : 97 ≤ c) (hc2 : c ≤ 122) (ho : o < 2) (hl0 : 0 < l) (hl : l ≤ 99) : AJ (opTw A k c o l) T := by
  obtain ⟨i1, i2, i3, i4⟩ := h
  have h4 := no4 i1 i2 i3 k
  exact ⟨Inv_tw (B := opTw A k c o l) i1 hk hc hc2 ho hl rfl rfl i1.2.2.2.2.1 (fun g hg => by show okPr _ (Hp A g); rw [i2 g hg]; exact okPr_bare) (List.Perm.refl _), i2, i3, Jk_twL i1 i4 hk h2 h4 hl0⟩
theorem V_twigL {X R : List Nat} {p k c o l T N : Nat} {A : AS} {S0 S : SS} (h : PC0 X p S0 S) (hC : RC (atA A) (S 1)) (hA : AJ A T) (ht : At X p (32 :: (digs k ++ (32 :: ([c] ++ (32 :: (digs o ++ (32 :: (digs l ++ (59 :: R)))))))))) (hN : 900 < N) (hk : k < Hn A 0) (h2 : Hr A 2 k = 0) (hc : 97 ≤ c) (hc2 : c ≤ 122) (ho : o < 2) (hl0 : 0 < l) (hl : l ≤ 99) : ∃ S' e, F_X3_readTwig N 1 S = some (true, S') ∧ PC0 X e S0 S' ∧ RC (atA (opTw A k c o l)) (S' 1) ∧ At X e R := by
  have h40 := hA.1.2.1.1
  have hC1 : (S 1 0).1 0 = nI (Hn A 0) := hC.1.1.1 0 (by decide)
  unfold F_X3_readTwig
  obtain ⟨g1, e1, f1, v1, p1, t1⟩ := PC_num (s := 1) (lo := 0) (hi := Hn A 0 - 1) rfl h ht hN (by omega) (by decide) (Nat.zero_le _) (by omega) (by omega)
  rw [hC1, L0, L1, L99, Z_sub (by omega), f1, ob_s, lt_d, ← sT_e, if_pos rfl, sT_4, v1]
  have hC2 : RC (atA A) (sT S g1 1) := by rw [sT_o (by decide)]; exact hC
  rw [if_neg (show ¬ F_X5_hasTwig (nI k) (sT S g1 1) = true by
    rw [C_hasTwig hC2.1.1 (Inv_at hA.1) (show k < 2 ^ 31 by omega)]
    show ¬ 0 < Hr A 2 k
    omega)]
  obtain ⟨g2, e2, f2, v2, p2, t2⟩ := PC_let (s := 1) sT_4 p1 t1 hN (by rw [isL_t]; omega) (by decide)
  rw [f2, ob_s, lt_d, ← sT_e, if_pos rfl, sT_4, v2]
  obtain ⟨g3, e3, f3, v3, p3, t3⟩ := PC_num (s := 1) (lo := 0) (hi := 1) sT_4 p2 t2 hN (by omega) (by decide) (Nat.zero_le _) (by omega) (by decide)
  rw [f3, ob_s, lt_d, ← sT_e, if_pos rfl, sT_4, v3]
  obtain ⟨g4, e4, f4, v4, p4, t4⟩ := PC_num (s := 1) (lo := 1) (hi := 99) sT_4 p3 t3 hN (by omega) (by decide) hl0 hl (by decide)
  rw [f4, ob_s, lt_d, ← sT_e, if_pos rfl, sT_4, v4, lt_d, lt_d, up_n (show (11 : Nat) ≠ 1 by decide)]
  have hC4 : RC (atA A) (sT (sT (sT (sT S g1) g2) g3) g4 1) := by rw [sT_o (by decide), sT_o (by decide), sT_o (by decide)]; exact hC2
  generalize sT (sT (sT (sT S g1) g2) g3) g4 = S4 at p4 hC4 ⊢
  have hR := RC_tw (k := k) (c := c) (o := o) (l := l) hC4 (by omega)
  generalize hu : F_X5_placeTwig (nI k) (nI c) (nI o) (nI l) (S4 1) = u at hR ⊢
  have p5 := PC_1 (u := u) p4
  obtain ⟨g5, e5, f5, p6, t5⟩ := PC_sem (g0 := S4 11 4) (by rw [up_n (by decide)]) p5 t4 hN
  rw [f5, ob_s, lt_d]
  refine ⟨sT (up S4 1 u) g5, e5, ?_, p6, ?_, t5⟩
  · rw [sT_e, up_n (f := S4) (show (11 : Nat) ≠ 1 by decide)]
  · rw [sT_o (by decide), up_s]; exact hR
theorem V_nestL {X R : List Nat} {p k d T N : Nat} {A : AS} {S0 S : SS} (h : PC0 X p S0 S) (hC : RC (atA A) (S 1)) (hA : AJ A T) (ht : At X p (32 :: (digs k ++ (32 :: (digs d ++ (59 :: R)))))) (hN : 900 < N) (hk : k < Hn A 0) (h3 : Hr A 3 k = 0) (h6 : cnt (nstB (Hr A)) (Hn A 0) < 6) (hd : 0 < d) (hd2 : d ≤ 30) : ∃ S' e, F_X3_readNest N 1 S = some (true, S') ∧ PC0 X e S0 S' ∧ RC (atA (opNst A k d)) (S' 1) ∧ At X e R := by
  have h40 := hA.1.2.1.1
  have hC1 : (S 1 0).1 0 = nI (Hn A 0) := hC.1.1.1 0 (by decide)
  unfold F_X3_readNest
  obtain ⟨g1, e1, f1, v1, p1, t1⟩ := PC_num (s := 1) (lo := 0) (hi := Hn A 0 - 1) rfl h ht hN (by omega) (by decide) (Nat.zero_le _) (by omega) (by omega)
  rw [hC1, L0, L1, Z_sub (by omega), f1, ob_s, lt_d, ← sT_e, if_pos rfl, sT_4, v1]
  have hC2 : RC (atA A) (sT S g1 1) := by rw [sT_o (by decide)]; exact hC
  rw [show rget 40 ((sT S g1 1 0).2 3) (nI k) = nI (Hr A 3 k) from RHr_get hC2.1.1.2.2 (by decide) (by omega), h3, if_pos (show nI 0 ≤ nI 0 by decide), C_countNests hC2.1.1 (Inv_at hA.1) (by omega), ob1_s]
  rw [show cnt (nstB (Hr (atA A))) (Hn (atA A) 0) = cnt (nstB (Hr A)) (Hn A 0) from by
    show cnt (nstB (Hr A)) (up (Hn A) 7 (Hn A 1) 0) = _
    rw [up_n (by decide)]]
  rw [if_pos (show nI (cnt (nstB (Hr A)) (Hn A 0)) < 6 by rw [L6, Z_lt (by omega) (by omega)]; exact h6)]
  obtain ⟨g2, e2, f2, v2, p2, t2⟩ := PC_num (s := 1) (lo := 1) (hi := 30) sT_4 p1 t1 hN (by omega) (by decide) hd hd2 (by decide)
  rw [show (30 : Int32) = nI 30 from rfl, f2, ob_s, lt_d, ← sT_e, if_pos rfl, sT_4, v2, lt_d, lt_d, up_n (show (11 : Nat) ≠ 1 by decide)]
  have hC4 : RC (atA A) (sT (sT S g1) g2 1) := by rw [sT_o (by decide)]; exact hC2
  generalize sT (sT S g1) g2 = S4 at p2 hC4 ⊢
  have hR : RC (atA (opNst A k d)) (F_X5_placeNest (nI k) (nI d) (S4 1)) := C_nst (A := atA A) hC4 (Inv_at hA.1) (by show k < up (Hn A) 7 (Hn A 1) 0; rw [up_n (by decide)]; exact hk)
  generalize hu : F_X5_placeNest (nI k) (nI d) (S4 1) = u at hR ⊢
  have p5 := PC_1 (u := u) p2
  obtain ⟨g5, e5, f5, p6, t5⟩ := PC_sem (g0 := S4 11 4) (by rw [up_n (by decide)]) p5 t2 hN
  rw [f5, ob_s, lt_d]
  refine ⟨sT (up S4 1 u) g5, e5, ?_, p6, ?_, t5⟩
  · rw [sT_e, up_n (f := S4) (show (11 : Nat) ≠ 1 by decide)]
  · rw [sT_o (by decide), up_s]; exact hR
theorem V_msgL {X R w : List Nat} {p g T N : Nat} {A : AS} {S0 S : SS} (h : PC0 X p S0 S) (hC : RC (atA A) (S 1)) (hA : AJ A T) (ht : At X p (32 :: (digs g ++ (32 :: (w ++ (59 :: R)))))) (hN : 900 < N) (hg : g < 2) (h8 : (Hq A g).length < 8) (hw0 : 0 < w.length) (hw12 : w.length ≤ 12) (hw : ∀ x ∈ w, isL x = true) : ∃ S' e, F_X3_readMessage N 1 S = some (true, S') ∧ PC0 X e S0 S' ∧ RC (atA (opQue A g w)) (S' 1) ∧ At X e R := by
  unfold F_X3_readMessage
  obtain ⟨g1, e1, f1, v1, p1, t1⟩ := PC_num (s := 1) (lo := 0) (hi := 1) rfl h ht hN (by omega) (by decide) (Nat.zero_le _) (by omega) (by decide)
  rw [L0, L1, f1, ob_s, lt_d, ← sT_e, if_pos rfl, sT_4, v1]
  obtain ⟨g2, e2, a, f2, v4, v5, ha, hb, p2, t2⟩ := PC_wrd (s := 1) sT_4 p1 t1 hN hw0 hw12 hw (by decide)
  rw [f2, ob_s, lt_d, ← sT_e, if_pos rfl, sT_4, v4, v5]
  have hC4 : RC (atA A) (sT (sT S g1) g2 1) := by rw [sT_o (by decide), sT_o (by decide)]; exact hC
  generalize sT (sT S g1) g2 = S4 at p2 hC4 ⊢
  have hmay : F_X5_mayQueue (nI g) (S4 1) = true := by
    unfold F_X5_mayQueue
    rw [Z_gsel hg, show (S4 1 (1 + g)).1 2 = nI (Hq A g).length from (hC4.1.2 g hg).2.2.1, if_neg (show ¬ (8 : Int32) ≤ nI (Hq A g).length by rw [L8, Z_le (by omega) (by omega)]; omega)]
  rw [hmay, if_pos rfl, lt_d, lt_d, up_n (show (11 : Nat) ≠ 1 by decide)]
  have hR : RC (atA (opQue A g w)) (F_X5_receive (nI g) (g2.2 0) 800 (nI a) (nI w.length) (S4 1)) := C_que (A := atA A) hC4 (Inv_at hA.1) hg h8 (by decide) ha hw12 hb
  generalize hu : F_X5_receive (nI g) (g2.2 0) 800 (nI a) (nI w.length) (S4 1) = u at hR ⊢
  have p5 := PC_1 (u := u) p2
  obtain ⟨g5, e5, f5, p6, t5⟩ := PC_sem (g0 := S4 11 4) (by rw [up_n (by decide)]) p5 t2 hN
  rw [f5, ob_s, lt_d]
  refine ⟨sT (up S4 1 u) g5, e5, ?_, p6, ?_, t5⟩
  · rw [sT_e, up_n (f := S4) (show (11 : Nat) ≠ 1 by decide)]
  · rw [sT_o (by decide), up_s]; exact hR
