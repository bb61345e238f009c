/-! ===== a text of a hedge: its first line, its loop, load ===== -/
def QJ (B : Nat → Nat) (n p : Nat) (S0 : SS) (t0 : HV) (S : SS) (t : HV) : Prop := (p ≤ n ∧ CB B n (S 11 4) ∧ (S 11 4).1 2 = nI p ∧ (S 11 4).1 7 = 0 ∧ (S 11 4).1 8 = -1 ∧ fS S0 S) ∧ (MB B n t ∧ t.1 12 = nI p ∧ t.1 15 = 0 ∧ t.1 16 = -1 ∧ fm t0 t)
theorem J_numQ {B : Nat → Nat} {n p N lo hi : Nat} {S0 S : SS} {t0 t : HV} (h : QJ B n p S0 t0 S t) (hlo : lo < 2 ^ 20) (hhi : hi < 2 ^ 20) (hN : 900 < N) : (∃ g' t', F_X9_readNumber N (nI lo) (nI hi) (S 11 4) = some (false, g') ∧ F_X11_number N (nI lo) (nI hi) t = some (nI lo, t') ∧ t'.1 15 ≠ 0 ∧ PE S0 t0 (sT S g') t') ∨ ∃ v e g' t', F_X9_readNumber N (nI lo) (nI hi) (S 11 4) = some (true, g') ∧ F_X11_number N (nI lo) (nI hi) t = some (nI v, t') ∧ lo ≤ v ∧ v ≤ hi ∧ p < e ∧ g'.1 6 = nI v ∧ t'.2 = t.2 ∧ QJ B n e S0 t0 (sT S g') t' := by
  obtain ⟨⟨h1, h2, h3, h4, h5, h7⟩, ⟨m1, m2, m3, m4, m6⟩⟩ := h
  cases hr : numR B n lo hi p with
  | inl cq =>
    obtain ⟨g', f1, f2⟩ := (C_num h2 h1 h3 hlo hhi hN).2 cq.1 cq.2 hr
    obtain ⟨t', f3, f4⟩ := (M_num m1 h1 m2 m3 hlo hhi hN).2 cq.1 cq.2 hr
    obtain ⟨c0, c4⟩ := num_cq (c := cq.1) (q := cq.2) hr
    have hPE : PE S0 t0 (sT S g') t' := ⟨cq.1, cq.2, c0, c4, by rw [sT_4]; exact f2, fS_T h7, f4.2.1, f4.2.2, fm_t m6 (fr_fm f4.1)⟩
    exact Or.inl ⟨g', t', f1, f3, PE_n hPE, hPE⟩
  | inr ve =>
    obtain ⟨g', f1, f2, f6, f7⟩ := (C_num h2 h1 h3 hlo hhi hN).1 ve.1 ve.2 hr
    obtain ⟨t', f3, f4, f5⟩ := (M_num m1 h1 m2 m3 hlo hhi hN).1 ve.1 ve.2 hr
    have hok := numR_ok (v := ve.1) (e := ve.2) h1 hr
    exact Or.inr ⟨ve.1, ve.2, g', t', f1, f3, hok.1, hok.2.1, hok.2.2.1, f6, f4.1.1, ⟨hok.2.2.2.1, by rw [sT_4]; exact f2.1, by rw [sT_4]; exact f2.2.1, by rw [sT_4, f2.2.2.1 7 (by decide)]; exact h4, by rw [sT_4, f2.2.2.1 8 (by decide)]; exact h5, fS_T h7⟩, ⟨MB_f m1 f4.1, f4.2.1, f4.2.2.1, f4.2.2.2.trans m4, fm_t m6 (fr_fm f4.1)⟩⟩
def HL : List (Nat × Nat) := [(4, 40), (1, 12), (0, 9), (1, 99), (1, 30), (1, 40)]
def mH (N : Nat) : List (Nat × Nat) → Nat → HV → Option HV
  | [], _, t => ob1 (F_X11_semicolon N t) fun t32 => some t32
  | q :: L, k, t => ob (F_X11_number N (nI q.1) (nI q.2) t) fun v t' => (if vpb (nI k) 760 = true then (lt (aw t' 0 (nI k) v) fun t'' => mH N L (k + 1) t'') else none)
def cH (N : Nat) : List (Nat × Nat) → List Int32 → SS → Option (Bool × SS)
  | [], vs, S => (lt (F_X5_layOut (vs.getD 0 0) (vs.getD 1 0) (vs.getD 2 0) (vs.getD 3 0) (vs.getD 4 0) (vs.getD 5 0) (S 1)) fun g24 => (lt (up S 1 g24) fun S25 => (ob (F_X9_readSemicolon N (S25 11 4)) fun v26 g27 => (lt (up S25 11 (up (S25 11) 4 g27)) fun S28 => some (v26, S28)))))
  | q :: L, vs, S => ob (F_X9_readNumber N (nI q.1) (nI q.2) (S 11 4)) fun v g => (lt (up S 11 (up (S 11) 4 g)) fun S' => (if v = true then cH N L (vs ++ [(S' 11 4).1 6]) S' else some (false, S')))
theorem mH_eq {N : Nat} {t : HV} : F_X11_hedgeLine N t = (ob (F_X11_sees N 28 t) fun v1 t2 => (lt (F_X11_must v1 1 t2) fun t4 => (if (t4.1 15) = 0 then (lt (F_X11_goesPast t4) fun t6 => mH N HL 0 t6) else some t4))) := rfl
theorem cH_eq {N : Nat} {S : SS} : F_X3_readHedge N 1 S = (ob1 (F_X9_readToken N (S 11 4)) fun g2 => (lt (up S 11 (up (S 11) 4 g2)) fun S3 => (ob1 (F_X9_isWord N 5 (S3 11 4)) fun v4 => (if v4 = true then cH N HL [] S3 else (lt2 (F_X9_refuse 1 (S3 11 4)) fun v29 g30 => (lt (up S3 11 (up (S3 11) 4 g30)) fun S31 => some (v29, S31))))))) := rfl
theorem mH_e {N : Nat} : ∀ (L : List (Nat × Nat)) (k : Nat) (t : HV), k + L.length < 700 → t.1 15 ≠ 0 → ∃ t', mH N L k t = some t' ∧ t'.1 = t.1 ∧ ∀ a, a ≠ 0 → t'.2 a = t.2 a := by
  intro L
  induction L with
  | nil =>
    intro k t _ h
    refine ⟨t, ?_, rfl, fun _ _ => rfl⟩
    show (ob1 (F_X11_semicolon N t) fun t32 => some t32) = _
    rw [semi_e h, ob1_s]
  | cons q L ih =>
    intro k t hk h
    rw [List.length_cons] at hk
    obtain ⟨t', e1, e2, e3⟩ := ih (k + 1) (aw t 0 (nI k) (nI q.1)) (by omega) h
    refine ⟨t', ?_, e2, fun a ha => ?_⟩
    · show (ob (F_X11_number N (nI q.1) (nI q.2) t) fun v t' => (if vpb (nI k) 760 = true then (lt (aw t' 0 (nI k) v) fun t'' => mH N L (k + 1) t'') else none)) = _
      rw [numb_e h, ob_s, if_pos (by rw [Z_vpb (by omega)]; omega), lt_d, e1]
    · rw [e3 a ha]
      exact sA_2n ha
def layA (a0 a1 a2 a3 a4 a5 : Nat) : AS := ((fun i => if i = 0 then a0 else if i = 1 then a1 else if i = 2 then a2 else if i = 3 then a3 else if i = 4 then a4 else if i = 5 then a5 else 0), fun _ => 0, fun _ _ => 0, fun _ => [], fun _ => bare, [])
def qN (i : Nat) (v : Int32) (h : Nat → HV) : Nat → HV := up h 0 (sS (h 0) i v)
def qC (a : Nat) (h : Nat → HV) : Nat → HV := up h 0 (sA (h 0) a (rclr 40 ((h 0).2 a)))
def qG (g : Nat) (h : Nat → HV) : Nat → HV := up h g (F_X4_clear (h g))
def qP (h : Nat → HV) : Nat → HV := up h 3 (sS (h 3) 3 0)
theorem qN_0 {i : Nat} {v : Int32} {h : Nat → HV} : qN i v h 0 = sS (h 0) i v := up_s
theorem qN_n {i j : Nat} {v : Int32} {h : Nat → HV} (hj : j ≠ 0) : qN i v h j = h j := up_n hj
theorem qC_0 {a : Nat} {h : Nat → HV} : qC a h 0 = sA (h 0) a (rclr 40 ((h 0).2 a)) := up_s
theorem qC_n {a j : Nat} {h : Nat → HV} (hj : j ≠ 0) : qC a h j = h j := up_n hj
theorem qG_s {g : Nat} {h : Nat → HV} : qG g h g = F_X4_clear (h g) := up_s
theorem qG_n {g j : Nat} {h : Nat → HV} (hj : j ≠ g) : qG g h j = h j := up_n hj
theorem qP_s {h : Nat → HV} : qP h 3 = sS (h 3) 3 0 := up_s
theorem qP_n {j : Nat} {h : Nat → HV} (hj : j ≠ 3) : qP h j = h j := up_n hj
def lay5 (a1 a2 a3 a4 a5 a6 : Int32) (h : Nat → HV) : Nat → HV := qC 4 (qC 3 (qC 2 (qC 1 (qC 0 (qN 7 a2 (qN 6 0 (qN 5 a6 (qN 4 a5 (qN 3 a4 (qN 2 a3 (qN 1 a2 (qN 0 a1 h))))))))))))
theorem lay_e {a1 a2 a3 a4 a5 a6 : Int32} {h : Nat → HV} : F_X5_layOut a1 a2 a3 a4 a5 a6 h = qN 18 0 (qN 17 0 (qN 16 0 (qP (qG 2 (qG 1 (lay5 a1 a2 a3 a4 a5 a6 h)))))) := rfl
theorem C_layOut {a0 a1 a2 a3 a4 a5 : Nat} {h : Nat → HV} : RC (atA (layA a0 a1 a2 a3 a4 a5)) (F_X5_layOut (nI a0) (nI a1) (nI a2) (nI a3) (nI a4) (nI a5) h) := by
  rw [lay_e]
  have e0 : (qN 18 0 (qN 17 0 (qN 16 0 (qP (qG 2 (qG 1 (lay5 (nI a0) (nI a1) (nI a2) (nI a3) (nI a4) (nI a5) h)))))) 0 : HV) = sS (sS (sS (lay5 (nI a0) (nI a1) (nI a2) (nI a3) (nI a4) (nI a5) h 0) 16 0) 17 0) 18 0 := by
    rw [qN_0, qN_0, qN_0, qP_n (by decide), qG_n (by decide), qG_n (by decide)]
  refine ⟨⟨⟨fun i hi => ?_, fun i hi => ?_, fun a k ha hk => ?_⟩, fun g hg => ?_⟩, ?_⟩
  · rw [e0, sS_1n (by omega), sS_1n (by omega), sS_1n (by omega)]
    unfold lay5
    simp only [qC_0, qN_0, sA_1, sS_1d]
    show _ = nI (up (Hn (layA a0 a1 a2 a3 a4 a5)) 7 (Hn (layA a0 a1 a2 a3 a4 a5) 1) i)
    match i, hi with
    | 0, _ => rfl
    | 1, _ => rfl
    | 2, _ => rfl
    | 3, _ => rfl
    | 4, _ => rfl
    | 5, _ => rfl
    | 6, _ => rfl
    | 7, _ => rfl
  · rw [e0]
    match i, hi with
    | 0, _ => rfl
    | 1, _ => rfl
    | 2, _ => rfl
  · rw [e0, sS_2, sS_2, sS_2]
    have e : ∀ f : Nat → Int32, rclr 40 f k = 0 := fun f => if_pos hk
    unfold lay5
    simp only [qC_0]
    show _ = nI 0
    match a, ha with
    | 0, _ => rw [sA_2n (by decide), sA_2n (by decide), sA_2n (by decide), sA_2n (by decide), sA2s, e]; rfl
    | 1, _ => rw [sA_2n (by decide), sA_2n (by decide), sA_2n (by decide), sA2s, e]; rfl
    | 2, _ => rw [sA_2n (by decide), sA_2n (by decide), sA2s, e]; rfl
    | 3, _ => rw [sA_2n (by decide), sA2s, e]; rfl
    | 4, _ => rw [sA2s, e]; rfl
  · have hu : ∃ u : HV, (qN 18 0 (qN 17 0 (qN 16 0 (qP (qG 2 (qG 1 (lay5 (nI a0) (nI a1) (nI a2) (nI a3) (nI a4) (nI a5) h)))))) (1 + g) : HV) = F_X4_clear u := by
      match g, hg with
      | 0, _ => exact ⟨_, by rw [qN_n (by decide), qN_n (by decide), qN_n (by decide), qP_n (by decide), qG_n (by decide)]; exact qG_s⟩
      | 1, _ => exact ⟨_, by rw [qN_n (by decide), qN_n (by decide), qN_n (by decide), qP_n (by decide)]; exact qG_s⟩
    obtain ⟨u, hu⟩ := hu
    rw [hu]
    refine ⟨fun c hc => ?_, ⟨rfl, rfl, rfl⟩, rfl, fun k hk => absurd hk (Nat.not_lt_zero k), fun k x hk => absurd hk (Nat.not_lt_zero k)⟩
    match c, hc with
    | 0, _ => rfl
    | 1, _ => rfl
    | 2, _ => rfl
    | 3, _ => rfl
  · rw [qN_n (by decide), qN_n (by decide), qN_n (by decide), qP_s]
    exact ⟨sS_1, fun k hk => absurd hk (Nat.not_lt_zero k)⟩
theorem Inv_lay {a0 a1 a2 a3 a4 a5 T : Nat} (hT : T < 2 ^ 20) (h0 : 4 ≤ a0 ∧ a0 ≤ 40) (h1 : 1 ≤ a1 ∧ a1 ≤ 12) (h2 : a2 ≤ 9) (h3 : 1 ≤ a3 ∧ a3 ≤ 99) (h4 : 1 ≤ a4 ∧ a4 ≤ 30) (h5 : 1 ≤ a5 ∧ a5 ≤ 40) : Inv (layA a0 a1 a2 a3 a4 a5) T := by
  refine ⟨hT, ⟨h0, h1, h2, h3, h4, h5, Nat.zero_le _, Nat.zero_le _⟩, fun k => ⟨fun _ => ⟨rfl, rfl, rfl⟩, fun _ => ⟨rfl, rfl⟩, fun q => absurd q (Nat.lt_irrefl 0), Nat.zero_le _, Nat.zero_lt_succ 1, Nat.zero_le _, Nat.zero_le _, Nat.zero_le _⟩, ?_, fun g hg => ⟨Nat.zero_le _, fun w hw => absurd hw List.not_mem_nil⟩, fun g hg => okPr_bare, ⟨fun m hm => ?_, fun k hk => absurd hk (Nat.lt_irrefl 0), ?_⟩⟩
  · have e : cnt (nstB (Hr (layA a0 a1 a2 a3 a4 a5))) (Hn (layA a0 a1 a2 a3 a4 a5) 0) = 0 := cnt_no (fun k _ => rfl)
    rw [e]
    exact Nat.zero_le _
  · cases (show m ∈ ([] : List Msg) from hm)
  · exact List.Pairwise.nil
theorem RM_lay {a0 a1 a2 a3 a4 a5 : Nat} {s : Nat → Int32} (e0 : s 0 = nI a0) (e1 : s 1 = nI a1) (e2 : s 2 = nI a2) (e3 : s 3 = nI a3) (e4 : s 4 = nI a4) (e5 : s 5 = nI a5) (ez : ∀ k, 6 ≤ k → k < 760 → s k = 0) : RM (layA a0 a1 a2 a3 a4 a5) s := by
  refine ⟨fun i hi => ?_, ⟨fun i hi => ez _ (by omega) (by omega), fun g c hg hc => ez _ (by omega) (by omega)⟩, ⟨ez 11 (by omega) (by omega), fun g hg => ez _ (by omega) (by omega)⟩, fun a k ha hk => ?_, fun g k hg hk => absurd hk (Nat.not_lt_zero k), fun g hg => ⟨ez _ (by omega) (by omega), fun h => absurd rfl h⟩, fun k hk => absurd hk (Nat.not_lt_zero k)⟩
  · match i, hi with
    | 0, _ => exact e0
    | 1, _ => exact e1
    | 2, _ => exact e2
    | 3, _ => exact e3
    | 4, _ => exact e4
    | 5, _ => exact e5
    | 6, _ => exact ez 6 (by omega) (by omega)
    | 7, _ => exact ez 7 (by omega) (by omega)
  · rw [ez _ (by omega) (by omega), mLet_no (R := Hr (layA a0 a1 a2 a3 a4 a5)) rfl ha]
    split <;> rfl
theorem mapI {w : List Nat} {i : Nat} (h : i < w.length) : (w.map nI).getD i 0 = nI (w.getD i 0) := by
  rw [List.getD_eq_getElem?_getD, List.getD_eq_getElem?_getD, List.getElem?_map, List.getElem?_eq_getElem h]
  rfl
theorem HL_drop {k : Nat} (h : k < 6) : HL.drop k = HL.getD k (0, 0) :: HL.drop (k + 1) := by
  match k, h with
  | 0, _ => rfl
  | 1, _ => rfl
  | 2, _ => rfl
  | 3, _ => rfl
  | 4, _ => rfl
  | 5, _ => rfl
theorem HL_lt (k : Nat) : (HL.getD k (0, 0)).1 < 2 ^ 20 ∧ (HL.getD k (0, 0)).2 < 2 ^ 20 := by
  by_cases h : k < 6
  · match k, h with
    | 0, _ => decide
    | 1, _ => decide
    | 2, _ => decide
    | 3, _ => decide
    | 4, _ => decide
    | 5, _ => decide
  · rw [gD_no (show HL.length ≤ k by show 6 ≤ k; omega)]
    decide
theorem J_H {B : Nat → Nat} {n T N : Nat} {S0 : SS} {t0 : HV} (hT : T < 2 ^ 20) (hN : 900 < N) : ∀ (m p : Nat) (w : List Nat) (S : SS) (t : HV), w.length + m = 6 → QJ B n p S0 t0 S t → (∀ i, i < w.length → (HL.getD i (0, 0)).1 ≤ w.getD i 0 ∧ w.getD i 0 ≤ (HL.getD i (0, 0)).2 ∧ t.2 0 i = nI (w.getD i 0)) → (∀ k, w.length ≤ k → k < 760 → t.2 0 k = 0) → ∃ b S' t', cH N (HL.drop w.length) (w.map nI) S = some (b, S') ∧ mH N (HL.drop w.length) w.length t = some t' ∧ ((b = true ∧ ∃ p' A', PJ B n p' A' T S0 t0 S' t') ∨ (b = false ∧ PE S0 t0 S' t')) := by
  intro m
  induction m with
  | zero =>
    intro p w S t hw h hv hz
    have hw6 : w.length = 6 := by omega
    have e : HL.drop w.length = [] := by rw [hw6]; rfl
    rw [e]
    obtain ⟨⟨h1, h2, h3, h4, h5, h7⟩, ⟨m1, m2, m3, m4, m6⟩⟩ := h
    have v0 := hv 0 (by omega)
    have v1 := hv 1 (by omega)
    have v2 := hv 2 (by omega)
    have v3 := hv 3 (by omega)
    have v4 := hv 4 (by omega)
    have v5 := hv 5 (by omega)
    have hPJ : PJ B n p (layA (w.getD 0 0) (w.getD 1 0) (w.getD 2 0) (w.getD 3 0) (w.getD 4 0) (w.getD 5 0)) T S0 t0 (up S 1 (F_X5_layOut (nI (w.getD 0 0)) (nI (w.getD 1 0)) (nI (w.getD 2 0)) (nI (w.getD 3 0)) (nI (w.getD 4 0)) (nI (w.getD 5 0)) (S 1))) t := by
      refine ⟨⟨h1, by rw [up_n (by decide)]; exact h2, by rw [up_n (by decide)]; exact h3, by rw [up_n (by decide)]; exact h4, by rw [up_n (by decide)]; exact h5, by rw [up_s]; exact C_layOut, fS_1 h7⟩, ⟨m1, m2, m3, m4, RM_lay v0.2.2 v1.2.2 v2.2.2 v3.2.2 v4.2.2 v5.2.2 (fun k a b => hz k (by omega) b), m6⟩, Inv_lay hT ⟨v0.1, v0.2.1⟩ ⟨v1.1, v1.2.1⟩ v2.2.1 ⟨v3.1, v3.2.1⟩ ⟨v4.1, v4.2.1⟩ ⟨v5.1, v5.2.1⟩, fun g hg => rfl, rfl⟩
    obtain ⟨b, g5, t5, y1, y2, y3⟩ := J_sem hPJ hN
    refine ⟨b, sT (up S 1 (F_X5_layOut (nI (w.getD 0 0)) (nI (w.getD 1 0)) (nI (w.getD 2 0)) (nI (w.getD 3 0)) (nI (w.getD 4 0)) (nI (w.getD 5 0)) (S 1))) g5, t5, ?_, ?_, ?_⟩
    · show (lt (F_X5_layOut ((w.map nI).getD 0 0) ((w.map nI).getD 1 0) ((w.map nI).getD 2 0) ((w.map nI).getD 3 0) ((w.map nI).getD 4 0) ((w.map nI).getD 5 0) (S 1)) fun g24 => (lt (up S 1 g24) fun S25 => (ob (F_X9_readSemicolon N (S25 11 4)) fun v26 g27 => (lt (up S25 11 (up (S25 11) 4 g27)) fun S28 => some (v26, S28))))) = _
      rw [mapI (by omega), mapI (by omega), mapI (by omega), mapI (by omega), mapI (by omega), mapI (by omega), lt_d, lt_d, y1, ob_s, lt_d]
      rfl
    · show (ob1 (F_X11_semicolon N t) fun t32 => some t32) = _
      rw [y2, ob1_s]
    · rcases y3 with ⟨rfl, p', hp', y4⟩ | ⟨rfl, y4⟩
      · exact Or.inl ⟨rfl, p', _, y4⟩
      · exact Or.inr ⟨rfl, y4⟩
  | succ m ih =>
    intro p w S t hw h hv hz
    have hk : w.length < 6 := by omega
    rw [HL_drop hk]
    have hlt := HL_lt w.length
    rcases J_numQ h hlt.1 hlt.2 hN with ⟨g1, t1, f1, f2, f3, f4⟩ | ⟨v, e1, g1, t1, f1, f2, l1, l2, hpe, f5, f6, f4⟩
    · obtain ⟨t', q1, q2, q3⟩ := mH_e (N := N) (HL.drop (w.length + 1)) (w.length + 1) (aw t1 0 (nI w.length) (nI (HL.getD w.length (0, 0)).1)) (by rw [List.length_drop]; show w.length + 1 + (6 - (w.length + 1)) < 700; omega) f3
      refine ⟨false, sT S g1, t', ?_, ?_, Or.inr ⟨rfl, ?_⟩⟩
      · show (ob (F_X9_readNumber N (nI (HL.getD w.length (0, 0)).1) (nI (HL.getD w.length (0, 0)).2) (S 11 4)) fun v g => (lt (up S 11 (up (S 11) 4 g)) fun S' => (if v = true then cH N (HL.drop (w.length + 1)) ((w.map nI) ++ [(S' 11 4).1 6]) S' else some (false, S')))) = _
        rw [f1, ob_s, lt_d, if_neg Bool.false_ne_true]
        rfl
      · show (ob (F_X11_number N (nI (HL.getD w.length (0, 0)).1) (nI (HL.getD w.length (0, 0)).2) t) fun v t' => (if vpb (nI w.length) 760 = true then (lt (aw t' 0 (nI w.length) v) fun t'' => mH N (HL.drop (w.length + 1)) (w.length + 1) t'') else none)) = _
        rw [f2, ob_s, if_pos (by rw [Z_vpb (by omega)]; omega), lt_d, q1]
      · obtain ⟨c, q, x1, x2, x3, x4, x5, x6, x7⟩ := f4
        refine ⟨c, q, x1, x2, x3, x4, ?_, ?_, ?_⟩
        · rw [q2]; exact x5
        · rw [q2]; exact x6
        · refine ⟨fun i hi => by rw [q2]; exact x7.1 i hi, fun a a0 a9 => ?_⟩
          rw [q3 a a0]
          exact (sA_2n a0).trans (x7.2 a a0 a9)
    · have hlen : (w ++ [v]).length = w.length + 1 := by rw [List.length_append]; rfl
      have hgl : ∀ i, i < w.length → (w ++ [v]).getD i 0 = w.getD i 0 := fun i hi => by rw [gD_app, if_pos hi]
      have hgn : (w ++ [v]).getD w.length 0 = v := by rw [gD_app, if_neg (Nat.lt_irrefl _), Nat.sub_self]; rfl
      have hQ : QJ B n e1 S0 t0 (sT S g1) (aw t1 0 (nI w.length) (nI v)) := by
        obtain ⟨x, ⟨m1, m2, m3, m4, m6⟩⟩ := f4
        exact ⟨x, MB_e m1 (sA_2n (by decide)) rfl, m2, m3, m4, fm_A m6 (Or.inl rfl)⟩
      have er : (aw t1 0 (nI w.length) (nI v)).2 0 = upd (t.2 0) w.length (nI v) := by rw [Z_aw (by omega), sA2s, f6]
      obtain ⟨b, S', t', y1, y2, y3⟩ := ih e1 (w ++ [v]) (sT S g1) (aw t1 0 (nI w.length) (nI v)) (by rw [hlen]; omega) hQ (fun i hi => by
        rw [hlen] at hi
        rw [er]
        by_cases e : i = w.length
        · rw [e, hgn, pk_us]; exact ⟨l1, l2, rfl⟩
        · rw [hgl i (by omega), pk_un e]; exact hv i (by omega)) (fun k a b => by
        rw [hlen] at a
        rw [er, pk_un (by omega)]
        exact hz k (by omega) b)
      rw [hlen] at y1 y2
      refine ⟨b, S', t', ?_, ?_, y3⟩
      · show (ob (F_X9_readNumber N (nI (HL.getD w.length (0, 0)).1) (nI (HL.getD w.length (0, 0)).2) (S 11 4)) fun v g => (lt (up S 11 (up (S 11) 4 g)) fun S' => (if v = true then cH N (HL.drop (w.length + 1)) ((w.map nI) ++ [(S' 11 4).1 6]) S' else some (false, S')))) = _
        rw [f1, ob_s, lt_d, if_pos rfl, show up S 11 (up (S 11) 4 g1) = sT S g1 from rfl, sT_4, f5]
        rw [List.map_append] at y1
        exact y1
      · show (ob (F_X11_number N (nI (HL.getD w.length (0, 0)).1) (nI (HL.getD w.length (0, 0)).2) t) fun v t' => (if vpb (nI w.length) 760 = true then (lt (aw t' 0 (nI w.length) v) fun t'' => mH N (HL.drop (w.length + 1)) (w.length + 1) t'') else none)) = _
        rw [f2, ob_s, if_pos (by rw [Z_vpb (by omega)]; omega), lt_d, y2]
theorem J_hedge {B : Nat → Nat} {n T N : Nat} {S0 S : SS} {t0 t : HV} (hT : T < 2 ^ 20) (hN : 900 < N) (h : QJ B n 0 S0 t0 S t) (hz : ∀ k, k < 760 → t.2 0 k = 0) : ∃ b S' t', F_X3_readHedge N 1 S = some (b, S') ∧ F_X11_hedgeLine N t = some t' ∧ ((b = true ∧ ∃ p' A', PJ B n p' A' T S0 t0 S' t') ∨ (b = false ∧ PE S0 t0 S' t')) := by
  obtain ⟨⟨h1, h2, h3, h4, h5, h7⟩, ⟨m1, m2, m3, m4, m6⟩⟩ := h
  obtain ⟨g', f1, k⟩ := C_tok h2 h1 h3 hN
  have n15 : (nxT B n 0 t).1 15 = 0 := by rw [nx_o (by omega)]; exact m3
  rw [cH_eq, mH_eq, f1, ob1_s, lt_d, show up S 11 (up (S 11) 4 g') = sT S g' from rfl, sT_4, C_isW h2 h1 k (sx := 5) (by decide) hN, ob1_s, M_sees m1 h1 m2 m3 (sx := 28) (by decide) (by decide) hN, ob_s, lt_d, sx_5]
  cases c : isW B n 0 (sTx 28) with
  | true =>
    have hk1 := (isW_t.mp c).1
    have he := tE_le (B := B) h1
    have hs := tS_le (B := B) h1
    rw [if_pos rfl, must_t, if_pos n15, lt_d]
    have hg : F_X11_goesPast (nxT B n 0 t) = sS (nxT B n 0 t) 12 (nI (tE B n 0)) := by
      unfold F_X11_goesPast
      rw [lt_d, nx_13, nx_14, wlN_1 hk1, Z_add]
      congr 2
      omega
    rw [hg]
    exact J_H hT hN 6 (tE B n 0) [] (sT S g') (sS (nxT B n 0 t) 12 (nI (tE B n 0))) rfl ⟨⟨he.2, by rw [sT_4]; exact CK_B h2 k, by rw [sT_4]; exact k.2.2.1, by rw [sT_4, k.2.2.2.2.2.2 7 (by decide)]; exact h4, by rw [sT_4, k.2.2.2.2.2.2 8 (by decide)]; exact h5, fS_T h7⟩, ⟨MB_f (MB_f m1 nx_f) (fr_s fr_r (by decide) (by decide)), sS_1, by rw [sS_1n (by decide)]; exact n15, by rw [sS_1n (by decide), nx_o (by omega)]; exact m4, fm_S (fm_t m6 (fr_fm nx_f)) (by omega)⟩⟩ (fun i hi => absurd hi (Nat.not_lt_zero i)) (fun k _ hk => hz k hk)
  | false =>
    have hPE : PE S0 t0 (sT (sT S g') (sS (sS g' 7 1) 8 (g'.1 4))) (sS (sS (nxT B n 0 t) 15 1) 16 ((nxT B n 0 t).1 13)) := by
      refine ⟨1, tS B n 0, by decide, by decide, ?_, fS_T (fS_T h7), ?_, ?_, fm_S (fm_S (fm_t m6 (fr_fm nx_f)) (by omega)) (by omega)⟩
      · rw [sT_4, k.2.2.2.2.1]; exact refuse_7
      · rw [sS_1n (by decide), sS_1]; rfl
      · rw [sS_1, nx_13]
    have hne := PE_n hPE
    rw [if_neg Bool.false_ne_true, must_f n15, if_neg hne, refuse_e, lt2_d, lt_d]
    exact ⟨false, _, _, rfl, rfl, Or.inr ⟨rfl, hPE⟩⟩
def PD (B : Nat → Nat) (n T : Nat) (S0 : SS) (t0 : HV) (S : SS) (t : HV) : Prop := ∃ p A, p ≤ n ∧ n ≤ tS B n p ∧ ((S 11 4).1 7 = 0 ∧ (S 11 4).1 8 = -1 ∧ RC (atA A) (S 1) ∧ fS S0 S) ∧ (MB B n t ∧ t.1 12 = nI p ∧ t.1 15 = 0 ∧ t.1 16 = -1 ∧ RM A (t.2 0) ∧ fm t0 t) ∧ Inv A T
theorem PD_of {B : Nat → Nat} {n p T : Nat} {A : AS} {S0 S : SS} {t0 t g' : HV} (h : PJ B n p A T S0 t0 S t) (k : CK B n p (S 11 4) g') (hn : n ≤ tS B n p) : PD B n T S0 t0 (sT S g') t := ⟨p, A, h.1.1, hn, ⟨by rw [sT_4, k.2.2.2.2.2.2 7 (by decide)]; exact h.1.2.2.2.1, by rw [sT_4, k.2.2.2.2.2.2 8 (by decide)]; exact h.1.2.2.2.2.1, by rw [sT_o (by decide)]; exact h.1.2.2.2.2.2.1, fS_T h.1.2.2.2.2.2.2⟩, h.2.1, h.2.2.1⟩
/-- statement after statement -/
theorem J_loop {B : Nat → Nat} {n T N : Nat} {S0 : SS} {t0 : HV} {R : Type} (f : HV → Option (HV ⊕ R)) (hN : 900 < N) (hf : ∀ p t t', MB B n t → p ≤ n → t.1 12 = nI p → t.1 15 = 0 → tS B n p < n → F_X11_statement N (nxT B n p t) = some t' → f t = some (.inl t')) : ∀ (m p i : Nat) (A : AS) (S : SS) (t : HV), n - p ≤ m → i ≤ p → PJ B n p A T S0 t0 S t → ∃ b S' t' k, k ≤ m ∧ (∀ M, m < M → lpN M (fun z => st_X3_read_16 N 1 z.1 z.2) (nI i, S) = some (b, S')) ∧ (∀ M, lpN (k + M) f t = lpN M f t') ∧ ((b = true ∧ PD B n T S0 t0 S' t') ∨ (b = false ∧ PE S0 t0 S' t')) := by
  intro m
  induction m with
  | zero =>
    intro p i A S t hm hi h
    have h1 := h.1.1
    have hpn : p = n := by omega
    have h800 := h.1.2.1.1
    obtain ⟨g', f1, k⟩ := C_tok h.1.2.1 h1 h.1.2.2.1 hN
    have hs := tS_le (B := B) h1
    have hk0 : tK B n p = 0 := tK_0.mpr (by omega)
    have hst : (fun z : Int32 × SS => st_X3_read_16 N 1 z.1 z.2) (nI i, S) = some (.inr (true, sT S g')) := by
      show st_X3_read_16 N 1 (nI i) S = _
      unfold st_X3_read_16
      rw [if_neg (by rw [L800, Z_lt (by omega) (by omega)]; omega), f1, ob1_s, lt_d, show up S 11 (up (S 11) 4 g') = sT S g' from rfl, sT_4]
      unfold F_X9_atEnd
      rw [k.2.2.2.1, hk0, if_pos (show nI 0 = 0 from rfl), if_pos rfl]
    refine ⟨true, sT S g', t, 0, Nat.le_refl _, fun M hM => ?_, fun M => by rw [Nat.zero_add], Or.inl ⟨rfl, PD_of h k (by omega)⟩⟩
    obtain ⟨M', rfl⟩ : ∃ k, M = k + 1 := ⟨M - 1, by omega⟩
    exact lpN_r hst
  | succ m ih =>
    intro p i A S t hm hi h
    have h1 := h.1.1
    have h800 := h.1.2.1.1
    obtain ⟨g', f1, k⟩ := C_tok h.1.2.1 h1 h.1.2.2.1 hN
    have hs := tS_le (B := B) h1
    have hgo : ∀ r, (if tK B n p = 0 then some (.inr (true, sT S g')) else (ob (F_X3_readStatement N 1 (sT S g')) fun v9 S10 => (if v9 = true then some (.inl ((nI i + 1), S10)) else some (.inr (false, S10))))) = r → (fun z : Int32 × SS => st_X3_read_16 N 1 z.1 z.2) (nI i, S) = r := fun r hr => by
      show st_X3_read_16 N 1 (nI i) S = _
      unfold st_X3_read_16
      rw [if_neg (by rw [L800, Z_lt (by omega) (by omega)]; omega), f1, ob1_s, lt_d, show up S 11 (up (S 11) 4 g') = sT S g' from rfl, sT_4, ← hr]
      unfold F_X9_atEnd
      have hk5 := tK_lt (B := B) (n := n) (p := p)
      rw [k.2.2.2.1]
      by_cases c : tK B n p = 0
      · rw [if_pos (show nI (tK B n p) = 0 by rw [c]; rfl), if_pos rfl, if_pos c]
      · rw [if_neg (show ¬ nI (tK B n p) = 0 by rw [L0, Z_eq (by omega) (by omega)]; exact c), if_neg Bool.false_ne_true, if_neg c]
    by_cases c : tK B n p = 0
    · have hst := hgo _ (if_pos c)
      have hsn := tK_0.mp c
      refine ⟨true, sT S g', t, 0, Nat.zero_le _, fun M hM => ?_, fun M => by rw [Nat.zero_add], Or.inl ⟨rfl, PD_of h k hsn⟩⟩
      obtain ⟨M', rfl⟩ : ∃ k, M = k + 1 := ⟨M - 1, by omega⟩
      exact lpN_r hst
    · have hlt : tS B n p < n := by
        have : ¬ n ≤ tS B n p := fun q => c (tK_0.mpr q)
        omega
      obtain ⟨b, S1, t1, e1, e2, q⟩ := J_stm h k hN
      have hm1 := hf p t t1 h.2.1.1 h1 h.2.1.2.1 h.2.1.2.2.1 hlt e2
      rcases q with ⟨rfl, p', A', hp', y⟩ | ⟨rfl, y⟩
      · have hst := hgo _ (by rw [if_neg c, e1, ob_s, if_pos rfl, L1, Z_add])
        have hp'n := y.1.1
        obtain ⟨b, S', t', k', hk', z1, z2, z3⟩ := ih p' (i + 1) A' S1 t1 (by omega) (by omega) y
        refine ⟨b, S', t', k' + 1, by omega, fun M hM => ?_, fun M => ?_, z3⟩
        · obtain ⟨M', rfl⟩ : ∃ k, M = k + 1 := ⟨M - 1, by omega⟩
          exact (lpN_l hst).trans (z1 M' (by omega))
        · rw [show k' + 1 + M = (k' + M) + 1 by omega, lpN_l hm1]
          exact z2 M
      · have hst := hgo _ (by rw [if_neg c, e1, ob_s, if_neg Bool.false_ne_true])
        refine ⟨false, S1, t1, 1, by omega, fun M hM => ?_, fun M => ?_, Or.inr ⟨rfl, y⟩⟩
        · obtain ⟨M', rfl⟩ : ∃ k, M = k + 1 := ⟨M - 1, by omega⟩
          exact lpN_r hst
        · rw [Nat.add_comm 1 M, lpN_l hm1]
