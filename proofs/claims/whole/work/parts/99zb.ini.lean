/-! ===== the other machine's first text ===== -/
def PM (B : Nat → Nat) (n p : Nat) (A : AS) (t0 t : HV) : Prop := p ≤ n ∧ MB B n t ∧ t.1 12 = nI p ∧ t.1 15 = 0 ∧ t.1 16 = -1 ∧ RM A (t.2 0) ∧ fm t0 t
theorem PM_O {B : Nat → Nat} {n p e : Nat} {A : AS} {t0 t t' : HV} (h : PM B n p A t0 t) (hm : MO e t t') (he : e ≤ n) : PM B n e A t0 t' := by
  obtain ⟨h1, m1, m2, m3, m4, m5, m6⟩ := h
  obtain ⟨f, e12, e15, e16⟩ := hm
  exact ⟨he, MB_f m1 f, e12, e15, e16.trans m4, by rw [f.1]; exact m5, fm_t m6 (fr_fm f)⟩
theorem PM_num {B : Nat → Nat} {n p N lo hi v e : Nat} {A : AS} {t0 t : HV} (h : PM B n p A t0 t) (hr : numR B n lo hi p = .inr (v, e)) (hlo : lo < 2 ^ 20) (hhi : hi < 2 ^ 20) (hN : 900 < N) : ∃ t', F_X11_number N (nI lo) (nI hi) t = some (nI v, t') ∧ PM B n e A t0 t' := by
  obtain ⟨h1, m1, m2, m3, _⟩ := id h
  obtain ⟨t', w1, w2, _⟩ := (M_num m1 h1 m2 m3 hlo hhi hN).1 v e hr
  exact ⟨t', w1, PM_O h w2 (numR_ok h1 hr).2.2.2.1⟩
theorem PM_let {B : Nat → Nat} {n p N c e : Nat} {A : AS} {t0 t : HV} (h : PM B n p A t0 t) (hr : letR B n p = .inr (c, e)) (hN : 900 < N) : ∃ t', F_X11_letterHere N t = some (nI c, t') ∧ PM B n e A t0 t' := by
  obtain ⟨h1, m1, m2, m3, _⟩ := id h
  obtain ⟨t', w1, w2⟩ := (M_let m1 h1 m2 m3 hN).1 c e hr
  exact ⟨t', w1, PM_O h w2 (letR_ok h1 hr).2.2.2⟩
theorem PM_sem {B : Nat → Nat} {n p N e : Nat} {A : AS} {t0 t : HV} (h : PM B n p A t0 t) (hr : semR B n p = .inr e) (hN : 900 < N) : ∃ t', F_X11_semicolon N t = some t' ∧ PM B n e A t0 t' := by
  obtain ⟨h1, m1, m2, m3, _⟩ := id h
  obtain ⟨t', w1, w2⟩ := (M_sem m1 h1 m2 m3 hN).1 e hr
  exact ⟨t', w1, PM_O h w2 (semR_ok h1 hr).2⟩
theorem PM_tok {B : Nat → Nat} {n p : Nat} {A : AS} {t0 t : HV} (h : PM B n p A t0 t) (hk1 : tK B n p = 1) : PM B n (tE B n p) A t0 (sS (nxT B n p t) 12 (((nxT B n p t).1 13) + ((nxT B n p t).1 14))) := by
  obtain ⟨h1, m1, m2, m3, m4, m5, m6⟩ := h
  have he := tE_le (B := B) h1
  refine ⟨he.2, MB_f (MB_f m1 nx_f) (fr_s fr_r (by decide) (by decide)), ?_, ?_, ?_, m5, fm_S (fm_t m6 (fr_fm nx_f)) (by omega)⟩
  · rw [sS_1, nx_13, nx_14, wlN_1 hk1, Z_add]
    congr 1
    omega
  · rw [sS_1n (by decide), nx_o (by omega)]; exact m3
  · rw [sS_1n (by decide), nx_o (by omega)]; exact m4
def nores (A : AS) : Prop := (∀ g, g < 2 → Hp A g = bare) ∧ Hl A = []
theorem PM_stT {B : Nat → Nat} {n p e0 k e1 c e2 o e3 l e4 e5 N T : Nat} {A : AS} {t0 t : HV} (h : PM B n p A t0 t) (hI : Inv A T) (hn : nores A) (c1 : isW B n p (sTx 29) = true) (q0 : tE B n p = e0) (q1 : numR B n 0 (Hn A 0 - 1) e0 = .inr (k, e1)) (cf : Hr A 2 k = 0) (q2 : letR B n e1 = .inr (c, e2)) (q3 : numR B n 0 1 e2 = .inr (o, e3)) (q4 : numR B n 1 99 e3 = .inr (l, e4)) (q5 : semR B n e4 = .inr e5) (hN : 900 < N) : ∃ t', F_X11_statement N (nxT B n p t) = some t' ∧ PM B n e5 (opTw A k c o l) t0 t' ∧ Inv (opTw A k c o l) T := by
  obtain ⟨h1, m1, m2, m3, m4, m5, m6⟩ := id h
  obtain ⟨i2, i3⟩ := hn
  have bI := hI
  obtain ⟨hT, ⟨⟨b0, b0'⟩, ⟨b1, b1'⟩, b2, ⟨b3, b3'⟩, ⟨b4, b4'⟩, ⟨b5, b5'⟩, b6, b7⟩, hRw, hNs, hQu, hPr, hVm⟩ := id hI
  have h0 := PM_tok h (isW_t.mp c1).1
  rw [q0] at h0
  unfold F_X11_statement F_X11_twigLine F_X11_goesPast
  simp only [lt_d]
  rw [M_sees_i m1 h1 m3 (sx := 29) (by decide) (by decide) hN, ob_s, c1, if_pos rfl]
  generalize sS (nxT B n p t) 12 (((nxT B n p t).1 13) + ((nxT B n p t).1 14)) = x at h0 ⊢
  have hM1 : x.2 0 0 = nI (Hn A 0) := h0.2.2.2.2.2.1.1 0 (by decide)
  have ea : ag x 0 0 = nI (Hn A 0) := by rw [L0, Z_ag (by decide), hM1]
  have hz1 : nI (Hn A 0) - 1 = nI (Hn A 0 - 1) := by rw [L1, Z_sub (by omega)]
  have ok1 := numR_ok h0.1 q1
  obtain ⟨t1, f1, p1⟩ := PM_num h0 q1 (by decide) (by omega) hN
  have ok2 := letR_ok p1.1 q2
  obtain ⟨t2, f2, p2⟩ := PM_let p1 q2 hN
  have ok3 := numR_ok p2.1 q3
  obtain ⟨t3, f3, p3⟩ := PM_num p2 q3 (by decide) (by decide) hN
  have ok4 := numR_ok p3.1 q4
  obtain ⟨t4, f4, p4⟩ := PM_num p3 q4 (by decide) (by decide) hN
  rw [n0] at f1 f3
  rw [n1] at f3 f4
  rw [show (nI 99 : Int32) = 99 from rfl] at f4
  have hMt : F_X11_hasTwig (nI k) t1 = some (decide (0 < Hr A 2 k)) := by
    have := M_hasTwig (t := t1) p1.2.2.2.2.2.1.2.2.2.1 hRw (k := k) (by omega)
    rw [sA_id rfl] at this
    exact this
  have hz4 := no4 hI i2 i3 k
  obtain ⟨j1, j2, j3, j4, j5, j6, j7⟩ := id p4
  obtain ⟨s5, w1, w2, w3, w4⟩ := M_tw (t := t4) j6.2.2.2.1 j6.2.1 (k := k) (c := c) (o := o) (l := l) (f := 0) (by omega) (by omega) (by rw [if_neg (by omega)])
  rw [sA_id rfl] at w1
  have hIn : Inv (opTw A k c o l) T := Inv_tw (B := opTw A k c o l) hI (by omega) ok2.1 ok2.2.1 (by omega) ok4.2.1 rfl rfl hQu (fun g hg => by show okPr _ (Hp A g); rw [i2 g hg]; exact okPr_bare) (List.Perm.refl _)
  have hRM : RM (opTw A k c o l) s5 := by
    obtain ⟨x1, x2, x3, x4, x5, x6, x7⟩ := j6
    exact ⟨RMf_c x1 (fun j a => w4 j (by omega) (by omega)), w3, RMk_c x3 (fun j a b => w4 j (by omega) (by omega)), w2, RMq_c x5 hQu (fun j a b => w4 j (by omega) (by omega)), RMp_c x6 (fun g hg => (Inv_pl hI hg).1) (fun j a b => w4 j (by omega) (by omega)), (show RMl (Hl A) _ from RMl_c x7 (RMl_ok hI) (fun j a b => w4 j (by omega) (by omega)))⟩
  have p5 : PM B n e4 (opTw A k c o l) t0 (sA t4 0 s5) := ⟨j1, MB_e j2 (sA_2n (by decide)) rfl, j3, j4, j5, by rw [sA2s]; exact hRM, fm_A j7 (by omega)⟩
  obtain ⟨t6, f6, p6⟩ := PM_sem p5 q5 hN
  refine ⟨t6, ?_, p6, hIn⟩
  rw [if_pos (show vpb 0 760 = true by decide), ea, hz1, f1, ob_s, if_pos p1.2.2.2.1, hMt, ob1_s, if_neg (show ¬ decide (0 < Hr A 2 k) = true from fun q => by have := of_decide_eq_true q; omega), must_t, f2, ob_s, f3, ob_s, f4, ob_s, if_pos j4, show (0 : Int32) = nI 0 from rfl, w1, ob1_s, ob1_s, f6, ob1_s]
theorem PM_stN {B : Nat → Nat} {n p e0 k e1 d e2 e5 N T : Nat} {A : AS} {t0 t : HV} (h : PM B n p A t0 t) (hI : Inv A T) (c0 : isW B n p (sTx 29) = false) (c1 : isW B n p (sTx 30) = true) (q0 : tE B n p = e0) (q1 : numR B n 0 (Hn A 0 - 1) e0 = .inr (k, e1)) (cf : Hr A 3 k = 0) (c6 : cnt (nstB (Hr A)) (Hn A 0) < 6) (q2 : numR B n 1 30 e1 = .inr (d, e2)) (q5 : semR B n e2 = .inr e5) (hN : 900 < N) : ∃ t', F_X11_statement N (nxT B n p t) = some t' ∧ PM B n e5 (opNst A k d) t0 t' ∧ Inv (opNst A k d) T := by
  obtain ⟨h1, m1, m2, m3, m4, m5, m6⟩ := id h
  have bI := hI
  obtain ⟨hT, ⟨⟨b0, b0'⟩, ⟨b1, b1'⟩, b2, ⟨b3, b3'⟩, ⟨b4, b4'⟩, ⟨b5, b5'⟩, b6, b7⟩, hRw, hNs, hQu, hPr, hVm⟩ := id hI
  have h0 := PM_tok h (isW_t.mp c1).1
  rw [q0] at h0
  unfold F_X11_statement F_X11_nestLine F_X11_goesPast
  simp only [lt_d]
  rw [M_sees_i m1 h1 m3 (sx := 29) (by decide) (by decide) hN, ob_s, c0, if_neg Bool.false_ne_true, M_sees_i m1 h1 m3 (sx := 30) (by decide) (by decide) hN, ob_s, c1, if_pos rfl]
  generalize sS (nxT B n p t) 12 (((nxT B n p t).1 13) + ((nxT B n p t).1 14)) = x at h0 ⊢
  have hM1 : x.2 0 0 = nI (Hn A 0) := h0.2.2.2.2.2.1.1 0 (by decide)
  have ea : ag x 0 0 = nI (Hn A 0) := by rw [L0, Z_ag (by decide), hM1]
  have hz1 : nI (Hn A 0) - 1 = nI (Hn A 0 - 1) := by rw [L1, Z_sub (by omega)]
  have nst : ∀ x : HV, RM A (x.2 0) → F_X11_nests N x = some (nI (cnt (nstB (Hr A)) (Hn A 0))) := fun x hx => by
    have := M_nests (t := x) hx.1 hx.2.2.2.1 bI (N := N) (by omega)
    rw [sA_id rfl] at this
    exact this
  have ok1 := numR_ok h0.1 q1
  obtain ⟨t1, f1, p1⟩ := PM_num h0 q1 (by decide) (by omega) hN
  have ok2 := numR_ok p1.1 q2
  obtain ⟨t2, f2, p2⟩ := PM_num p1 q2 (by decide) (by decide) hN
  rw [n0] at f1
  rw [n1, show (nI 30 : Int32) = 30 from rfl] at f2
  obtain ⟨j1, j2, j3, j4, j5, j6, j7⟩ := id p2
  have hMt : F_X11_hasNest (nI k) t1 = some (decide (0 < Hr A 3 k)) := by
    have := M_hasNest (t := t1) p1.2.2.2.2.2.1.1 p1.2.2.2.2.2.1.2.2.2.1 bI (k := k) (by omega)
    rw [sA_id rfl] at this
    exact this
  have hIn := Inv_nst (k := k) (d := d) hI (by omega) ok2.2.1 c6
  have hMp := M_puts (t := t2) (s := t2.2 0) (k := k) (a := 4) (v := nI d) (by omega)
  rw [sA_id rfl] at hMp
  have hRM : RM (opNst A k d) (upd (t2.2 0) (22 + 5 * k + 4) (nI d)) := by
    obtain ⟨hf, hcc, hkk, hr, hq, hp, hl⟩ := j6
    refine ⟨RMf_c hf (fun j a => pk_un (by omega)), RMc_c hcc (fun j a b _ _ _ => pk_un (by omega)), RMk_c hkk (fun j a b => pk_un (by omega)), fun a j ha hj => ?_, RMq_c hq hQu (fun j a b => pk_un (by omega)), RMp_c hp (fun g hg => (Inv_pl hI hg).1) (fun j a b => pk_un (by omega)), (show RMl (Hl A) _ from RMl_c hl (RMl_ok hI) (fun j a b => pk_un (by omega)))⟩
    show _ = nI (mLet (rowS (Hr A) 3 k d) a j)
    by_cases e : j = k
    · subst e
      have e3 : rowS (Hr A) 3 j d 3 j = d := rowS_at
      have eo : ∀ b, b ≠ 3 → rowS (Hr A) 3 j d b j = Hr A b j := fun b hb => rowS_a hb j
      match a, ha with
      | 0, _ => rw [pk_un (by omega), mLet_0, eo 2 (by decide), eo 0 (by decide), hr 0 j (by decide) hj, mLet_0]
      | 1, _ => rw [pk_un (by omega), mLet_1, eo 2 (by decide), eo 1 (by decide), hr 1 j (by decide) hj, mLet_1]
      | 2, _ => rw [pk_un (by omega), mLet_2, eo 2 (by decide), hr 2 j (by decide) hj, mLet_2]
      | 3, _ => rw [pk_un (by omega), mLet_3, eo 2 (by decide), eo 4 (by decide), hr 3 j (by decide) hj, mLet_3]
      | 4, _ => rw [pk_us, mLet_4, e3]
    · rw [pk_un (by omega), hr a j ha hj, mLet_eq (fun b _ => (rowS_k e b).symm) ha]
  have p5 : PM B n e2 (opNst A k d) t0 (sA t2 0 (upd (t2.2 0) (22 + 5 * k + 4) (nI d))) := ⟨j1, MB_e j2 (sA_2n (by decide)) rfl, j3, j4, j5, by rw [sA2s]; exact hRM, fm_A j7 (by omega)⟩
  obtain ⟨t6, f6, p6⟩ := PM_sem p5 q5 hN
  refine ⟨t6, ?_, p6, hIn⟩
  rw [if_pos (show vpb 0 760 = true by decide), ea, hz1, f1, ob_s, if_pos p1.2.2.2.1, hMt, ob1_s, if_neg (show ¬ decide (0 < Hr A 3 k) = true from fun q => by have := of_decide_eq_true q; omega), must_t, nst _ p1.2.2.2.2.2.1, ob1_s, if_neg (show ¬ (6 : Int32) ≤ nI (cnt (nstB (Hr A)) (Hn A 0)) by rw [L6, Z_le (by omega) (by omega)]; omega), must_t, f2, ob_s, if_pos j4, L4, hMp, ob1_s, ob1_s, f6, ob1_s]
theorem PM_stM {B : Nat → Nat} {n p e0 g e1 s e2 e5 N T : Nat} {A : AS} {w : List Nat} {t0 t : HV} (h : PM B n p A t0 t) (hI : Inv A T) (c0 : isW B n p (sTx 29) = false) (c1 : isW B n p (sTx 30) = false) (c2 : isW B n p (sTx 31) = true) (q0 : tE B n p = e0) (q1 : numR B n 0 1 e0 = .inr (g, e1)) (c8 : (Hq A g).length < 8) (q2 : wrdR B n e1 = .inr (s, e2)) (ew : wdL B s (e2 - s) = w) (q5 : semR B n e2 = .inr e5) (hN : 900 < N) : ∃ t', F_X11_statement N (nxT B n p t) = some t' ∧ PM B n e5 (opQue A g w) t0 t' ∧ Inv (opQue A g w) T := by
  subst ew
  obtain ⟨h1, m1, m2, m3, m4, m5, m6⟩ := id h
  have h0 := PM_tok h (isW_t.mp c2).1
  rw [q0] at h0
  unfold F_X11_statement F_X11_messageLine F_X11_goesPast
  simp only [lt_d]
  rw [M_sees_i m1 h1 m3 (sx := 29) (by decide) (by decide) hN, ob_s, c0, if_neg Bool.false_ne_true, M_sees_i m1 h1 m3 (sx := 30) (by decide) (by decide) hN, ob_s, c1, if_neg Bool.false_ne_true, M_sees_i m1 h1 m3 (sx := 31) (by decide) (by decide) hN, ob_s, c2, if_pos rfl]
  generalize sS (nxT B n p t) 12 (((nxT B n p t).1 13) + ((nxT B n p t).1 14)) = x at h0 ⊢
  have ok1 := numR_ok h0.1 q1
  have hg : g < 2 := by omega
  obtain ⟨t1, f1, p1⟩ := PM_num h0 q1 (by decide) (by decide) hN
  rw [n0, n1] at f1
  obtain ⟨r1, r2, r3, r4, r5, r6, r7⟩ := id p1
  obtain ⟨t2, r, y1, y2, y3, y4, y5, y6, y7⟩ := (M_wrd r2 r1 r3 r4 hN).1 s e2 q2
  obtain ⟨ok3, ok4, ok5, ok6, ok7, ok8, ok9⟩ := wrdR_ok r1 q2
  have h800 := r2.1
  have k12 : (sA t2 9 r).2 0 (12 + g) = nI (Hq A g).length := by rw [sA_2n (by decide), y2.1]; exact r6.2.2.1.2 g hg
  have hlen : (wdL B s (e2 - s)).length = e2 - s := wdL_len
  have hokw : okW (wdL B s (e2 - s)) := wdL_ok (by omega) ok6 (fun k hk => ok9 k (by omega))
  have v12 : vpb (12 + nI g) 760 = true := by rw [L12, Z_add, Z_vpb (by omega)]; omega
  have a12 : ag (sA t2 9 r) 0 (12 + nI g) = nI (Hq A g).length := by rw [L12, Z_add, Z_ag (by omega), k12]
  have t15 : (sA t2 9 r).1 15 = 0 := y5
  have hfm2 : fm t0 (sA t2 9 r) := fm_A (fm_t r7 (fr_fm y2)) (by omega)
  have e9 : (sA t2 9 r).1 13 + (sA t2 9 r).1 14 = nI e2 := by
    show t2.1 13 + t2.1 14 = _
    rw [y3, y4, Z_add]
    congr 1
    omega
  have hRMx : RM A ((sS (sA t2 9 r) 12 (nI e2)).2 0) := by rw [sS_2, sA_2n (by decide), y2.1]; exact r6
  obtain ⟨s5, z1, z2⟩ := M_msg (t := sS (sA t2 9 r) 12 (nI e2)) hRMx hI hg c8 (w := wdL B s (e2 - s)) (by rw [sS_2, sA2s]; exact y7) (by rw [hlen]; exact ok6) (N := N) (by omega)
  rw [sA_id rfl] at z1
  have p5 : PM B n e2 (opQue A g (wdL B s (e2 - s))) t0 (sA (sS (sS (sA t2 9 r) 12 (nI e2)) 8 (nI ((Hq A g).length + 1))) 0 s5) := by
    refine ⟨ok8, ?_, ?_, ?_, ?_, by rw [sA2s]; exact z2, fm_A (fm_S (fm_S hfm2 (by omega)) (by omega)) (by omega)⟩
    · refine MB_e (MB_f r2 y2) ?_ ?_
      · rw [sA_2n (by decide), sS_2, sS_2, sA_2n (by decide)]
      · rw [sA_1, sS_1n (by decide), sS_1n (by decide), sA_1]
    · rw [sA_1, sS_1n (by decide), sS_1]
    · rw [sA_1, sS_1n (by decide), sS_1n (by decide)]; exact y5
    · rw [sA_1, sS_1n (by decide), sS_1n (by decide)]; exact y6.trans r5
  obtain ⟨t6, f6, p6⟩ := PM_sem p5 q5 hN
  refine ⟨t6, ?_, p6, Inv_que hI c8 hokw⟩
  rw [f1, ob_s, y1, ob1_s, if_pos t15, if_pos v12, a12, if_neg (show ¬ (8 : Int32) ≤ nI (Hq A g).length by rw [L8, Z_le (by omega) (by omega)]; omega), must_t, if_pos t15, e9, z1, ob_s, ob1_s, f6, ob1_s]
/-- the first line -/
def QM (B : Nat → Nat) (n p : Nat) (t0 t : HV) : Prop := p ≤ n ∧ MB B n t ∧ t.1 12 = nI p ∧ t.1 15 = 0 ∧ t.1 16 = -1 ∧ fm t0 t
theorem mH_st {B : Nat → Nat} {n p N k v e : Nat} {q : Nat × Nat} {L : List (Nat × Nat)} {t0 t : HV} (h : QM B n p t0 t) (hr : numR B n q.1 q.2 p = .inr (v, e)) (hq : q.1 < 2 ^ 20) (hq2 : q.2 < 2 ^ 20) (hk : k < 760) (hN : 900 < N) : ∃ t', mH N (q :: L) k t = mH N L (k + 1) t' ∧ QM B n e t0 t' ∧ t'.2 0 = upd (t.2 0) k (nI v) := by
  obtain ⟨h1, m1, m2, m3, m4, m6⟩ := h
  obtain ⟨t', w1, ⟨f, e12, e15, e16⟩, _⟩ := (M_num m1 h1 m2 m3 hq hq2 hN).1 v e hr
  refine ⟨aw t' 0 (nI k) (nI v), ?_, ⟨(numR_ok h1 hr).2.2.2.1, MB_e (MB_f m1 f) (sA_2n (by decide)) rfl, e12, e15, e16.trans m4, fm_A (fm_t m6 (fr_fm f)) (Or.inl rfl)⟩, ?_⟩
  · show (ob (F_X11_number N (nI q.1) (nI q.2) t) fun v t' => (if vpb (nI k) 760 = true then (lt (aw t' 0 (nI k) v) fun t'' => mH N L (k + 1) t'') else none)) = _
    rw [w1, ob_s, if_pos (by rw [Z_vpb (by omega)]; omega), lt_d]
  · rw [Z_aw (by omega), sA2s, f.1]
theorem PM_hedge {B : Nat → Nat} {n e0 v0 e1 v1 e2 v2 e3 v3 e4 v4 e5 v5 e6 e7 N T : Nat} {t : HV} (m1 : MB B n t) (m2 : t.1 12 = nI 0) (m3 : t.1 15 = 0) (m4 : t.1 16 = -1) (hz : ∀ k, k < 760 → t.2 0 k = 0) (hT : T < 2 ^ 20) (c1 : isW B n 0 (sTx 28) = true) (q : tE B n 0 = e0) (q0 : numR B n 4 40 e0 = .inr (v0, e1)) (q1 : numR B n 1 12 e1 = .inr (v1, e2)) (q2 : numR B n 0 9 e2 = .inr (v2, e3)) (q3 : numR B n 1 99 e3 = .inr (v3, e4)) (q4 : numR B n 1 30 e4 = .inr (v4, e5)) (q5 : numR B n 1 40 e5 = .inr (v5, e6)) (q6 : semR B n e6 = .inr e7) (hN : 900 < N) : ∃ t', F_X11_hedgeLine N t = some t' ∧ PM B n e7 (layA v0 v1 v2 v3 v4 v5) t t' ∧ Inv (layA v0 v1 v2 v3 v4 v5) T := by
  have n15 : (nxT B n 0 t).1 15 = 0 := by rw [nx_o (by omega)]; exact m3
  have hk1 := (isW_t.mp c1).1
  have he := tE_le (B := B) (Nat.zero_le n)
  have hs := tS_le (B := B) (Nat.zero_le n)
  have hg : F_X11_goesPast (nxT B n 0 t) = sS (nxT B n 0 t) 12 (nI e0) := by
    unfold F_X11_goesPast
    rw [lt_d, nx_13, nx_14, wlN_1 hk1, Z_add, ← q]
    congr 2
    omega
  have hQ : QM B n e0 t (sS (nxT B n 0 t) 12 (nI e0)) := ⟨by omega, MB_f (MB_f m1 nx_f) (fr_s fr_r (by decide) (by decide)), sS_1, by rw [sS_1n (by decide)]; exact n15, by rw [sS_1n (by decide), nx_o (by omega)]; exact m4, fm_S (fr_fm nx_f) (by omega)⟩
  have hr : F_X11_hedgeLine N t = mH N HL 0 (sS (nxT B n 0 t) 12 (nI e0)) := by
    rw [mH_eq, M_sees m1 (Nat.zero_le n) m2 m3 (sx := 28) (by decide) (by decide) hN, ob_s, c1, lt_d, must_t, if_pos n15, lt_d, hg]
  have hz0 : ∀ k, k < 760 → (sS (nxT B n 0 t) 12 (nI e0)).2 0 k = 0 := hz
  generalize sS (nxT B n 0 t) 12 (nI e0) = x at hQ hr hz0
  obtain ⟨t1, a1, h1, z1⟩ := mH_st (q := (4, 40)) (L := [(1, 12), (0, 9), (1, 99), (1, 30), (1, 40)]) (k := 0) hQ q0 (by decide) (by decide) (by decide) hN
  obtain ⟨t2, a2, h2, z2⟩ := mH_st (q := (1, 12)) (L := [(0, 9), (1, 99), (1, 30), (1, 40)]) (k := 1) h1 q1 (by decide) (by decide) (by decide) hN
  obtain ⟨t3, a3, h3, z3⟩ := mH_st (q := (0, 9)) (L := [(1, 99), (1, 30), (1, 40)]) (k := 2) h2 q2 (by decide) (by decide) (by decide) hN
  obtain ⟨t4, a4, h4, z4⟩ := mH_st (q := (1, 99)) (L := [(1, 30), (1, 40)]) (k := 3) h3 q3 (by decide) (by decide) (by decide) hN
  obtain ⟨t5, a5, h5, z5⟩ := mH_st (q := (1, 30)) (L := [(1, 40)]) (k := 4) h4 q4 (by decide) (by decide) (by decide) hN
  obtain ⟨t6, a6, h6, z6⟩ := mH_st (q := (1, 40)) (L := []) (k := 5) h5 q5 (by decide) (by decide) (by decide) hN
  have o0 := numR_ok hQ.1 q0
  have o1 := numR_ok h1.1 q1
  have o2 := numR_ok h2.1 q2
  have o3 := numR_ok h3.1 q3
  have o4 := numR_ok h4.1 q4
  have o5 := numR_ok h5.1 q5
  have hRM : RM (layA v0 v1 v2 v3 v4 v5) (t6.2 0) := RM_lay (by rw [z6, pk_un (by decide), z5, pk_un (by decide), z4, pk_un (by decide), z3, pk_un (by decide), z2, pk_un (by decide), z1, pk_us]) (by rw [z6, pk_un (by decide), z5, pk_un (by decide), z4, pk_un (by decide), z3, pk_un (by decide), z2, pk_us]) (by rw [z6, pk_un (by decide), z5, pk_un (by decide), z4, pk_un (by decide), z3, pk_us]) (by rw [z6, pk_un (by decide), z5, pk_un (by decide), z4, pk_us]) (by rw [z6, pk_un (by decide), z5, pk_us]) (by rw [z6, pk_us]) (fun k a b => by rw [z6, pk_un (by omega), z5, pk_un (by omega), z4, pk_un (by omega), z3, pk_un (by omega), z2, pk_un (by omega), z1, pk_un (by omega)]; exact hz0 k b)
  have p6 : PM B n e6 (layA v0 v1 v2 v3 v4 v5) t t6 := ⟨h6.1, h6.2.1, h6.2.2.1, h6.2.2.2.1, h6.2.2.2.2.1, hRM, h6.2.2.2.2.2⟩
  obtain ⟨t7, f7, p7⟩ := PM_sem p6 q6 hN
  refine ⟨t7, ?_, p7, Inv_lay hT ⟨o0.1, o0.2.1⟩ ⟨o1.1, o1.2.1⟩ o2.2.1 ⟨o3.1, o3.2.1⟩ ⟨o4.1, o4.2.1⟩ ⟨o5.1, o5.2.1⟩⟩
  refine hr.trans (Eq.trans a1 (a2.trans (a3.trans (a4.trans (a5.trans (a6.trans ?_))))))
  show (ob1 (F_X11_semicolon N t6) fun t32 => some t32) = _
  rw [f7, ob1_s]
theorem lp_6 {X R : Type} {f : X → Option (X ⊕ R)} {x0 x1 x2 x3 x4 x5 x6 : X} {r : R} {N : Nat} (h0 : f x0 = some (.inl x1)) (h1 : f x1 = some (.inl x2)) (h2 : f x2 = some (.inl x3)) (h3 : f x3 = some (.inl x4)) (h4 : f x4 = some (.inl x5)) (h5 : f x5 = some (.inl x6)) (h6 : f x6 = some (.inr r)) (hN : 6 < N) : lpN N f x0 = some r := by
  obtain ⟨M, rfl⟩ : ∃ M, N = M + 1 + 1 + 1 + 1 + 1 + 1 + 1 := ⟨N - 7, by omega⟩
  rw [lpN_l h0, lpN_l h1, lpN_l h2, lpN_l h3, lpN_l h4, lpN_l h5, lpN_r h6]
theorem PM_go {B : Nat → Nat} {n p N : Nat} {A : AS} {t0 t t' : HV} (h : PM B n p A t0 t) (hlt : tS B n p < n) (e : F_X11_statement N (nxT B n p t) = some t') (hN : 900 < N) : st_X11_load_43 N t = some (.inl t') := by
  obtain ⟨h1, m1, m2, m3, _⟩ := h
  have := (m1.2.1 _ hlt).1
  unfold st_X11_load_43
  rw [if_pos m3, M_next m1 h1 m2 hN, ob_s, if_neg (by
    have : bA B n (tS B n p) = nI (B (tS B n p)) := if_neg (by omega)
    rw [this, Z_m1 (by omega)]
    exact not_false), e, ob1_s]
