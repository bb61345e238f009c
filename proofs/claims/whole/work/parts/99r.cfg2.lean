/-! ===== a text of a hedge: nests, messages, all of a statement ===== -/
theorem sT_e (Q : SS) (g : HV) : sT Q g = up Q 11 (up (Q 11) 4 g) := rfl
theorem n0 : (nI 0 : Int32) = 0 := rfl
theorem n1 : (nI 1 : Int32) = 1 := rfl
theorem J_nest {B : Nat → Nat} {n p T N : Nat} {A : AS} {S0 S : SS} {t0 t : HV} (h : PJ B n p A T S0 t0 S (sS t 12 ((t.1 13) + (t.1 14)))) (hN : 900 < N) : JX B n p T S0 t0 (F_X3_readNest N 1 S) (ob1 (F_X11_nestLine N t) fun t22 => (ob1 (F_X11_semicolon N t22) fun t24 => some t24)) := by
  have hI := h.2.2.1
  have bI := hI
  obtain ⟨hT, ⟨⟨b0, b0'⟩, ⟨b1, b1'⟩, b2, ⟨b3, b3'⟩, ⟨b4, b4'⟩, ⟨b5, b5'⟩, b6, b7⟩, hRw, hNs, hQu, hPr, hVm⟩ := id hI
  have hC1 : (S 1 0).1 0 = nI (Hn A 0) := h.1.2.2.2.2.2.1.1.1.1 0 (by decide)
  have hM1 : t.2 0 0 = nI (Hn A 0) := h.2.1.2.2.2.2.1.1 0 (by decide)
  unfold F_X3_readNest F_X11_nestLine F_X11_goesPast
  simp only [lt_d]
  have ea : ag (sS t 12 ((t.1 13) + (t.1 14))) 0 0 = nI (Hn A 0) := by rw [L0, Z_ag (by decide), sS_2, hM1]
  have hz1 : nI (Hn A 0) - 1 = nI (Hn A 0 - 1) := by rw [L1, Z_sub (by omega)]
  have hcl := cnt_le (nstB (Hr A)) (Hn A 0)
  rw [hC1, if_pos (by decide), ea, hz1]
  have nst : ∀ x : HV, RM A (x.2 0) → F_X11_nests N x = some (nI (cnt (nstB (Hr A)) (Hn A 0))) := fun x hx => by
    have := M_nests (t := x) hx.1 hx.2.2.2.1 bI (N := N) (by omega)
    rw [sA_id rfl] at this
    exact this
  rcases J_num (lo := 0) (hi := Hn A 0 - 1) h (by omega) (by omega) hN with ⟨g1, t1, f1, f2, f3, f4⟩ | ⟨k, e1, g1, t1, f1, f2, _, hk2, hpe, f5, f6, f7, f4⟩
  · rw [n0] at f1 f2
    have hr1 : RM A (t1.2 0) := by
      obtain ⟨g', w1, w2⟩ : ∃ t', F_X11_number N 0 (nI (Hn A 0 - 1)) (sS t 12 ((t.1 13) + (t.1 14))) = some (0, t') ∧ fr (sS t 12 ((t.1 13) + (t.1 14))) t' := by
        obtain ⟨⟨h1, _⟩, ⟨m1, m2, m3, _⟩, _⟩ := h
        have hh := M_num (lo := 0) (hi := Hn A 0 - 1) m1 h1 m2 m3 (by omega) (by omega) hN
        cases hr : numR B n 0 (Hn A 0 - 1) p with
        | inl cq =>
          obtain ⟨t', w1, w2⟩ := hh.2 cq.1 cq.2 hr
          exact ⟨t', w1, w2.1⟩
        | inr ve =>
          obtain ⟨t', w1, w2, _⟩ := hh.1 ve.1 ve.2 hr
          rw [n0, f2] at w1
          have e2 : t1 = t' := congrArg Prod.snd (Option.some.inj w1)
          rw [← e2] at w2
          exact absurd w2.2.2.1 f3
      rw [f2] at w1
      cases w1
      rw [w2.1]
      exact h.2.1.2.2.2.2.1
    rw [f1, f2, ob_s, ob_s, if_neg f3, if_neg Bool.false_ne_true, must_t, nst _ hr1, ob1_s, must_e f3, must_t]
    have fin : (if (6 : Int32) ≤ nI (cnt (nstB (Hr A)) (Hn A 0)) then (ob (F_X11_number N 1 30 t1) fun v11 t12 => (if (t12.1 15) = 0 then (ob1 (F_X11_puts 0 4 v11 t12) fun t14 => some t14) else some t12)) else (ob (F_X11_number N 1 30 t1) fun v17 t18 => (if (t18.1 15) = 0 then (ob1 (F_X11_puts 0 4 v17 t18) fun t20 => some t20) else some t18))) = some t1 := by
      rw [numb_e f3, ob_s, if_neg f3]
      split <;> rfl
    rw [fin, ob1_s, semi_e f3, ob1_s]
    exact ⟨false, _, _, rfl, rfl, Or.inr ⟨rfl, f4⟩⟩
  · have hk : k < Hn A 0 := by omega
    have hC1' := f4.1.2.2.2.2.2.1
    have i4 := f4.2.2
    have t15 := f4.2.1.2.2.1
    have hM1' := f4.2.1.2.2.2.2.1
    rw [n0] at f1 f2
    rw [f1, f2, ob_s, ob_s, if_pos t15, if_pos rfl]
    rw [sT_e] at f4 hC1'
    have hX : up S 11 (up (S 11) 4 g1) 11 4 = g1 := sT_4
    have hMt : F_X11_hasNest (nI k) t1 = some (decide (0 < Hr A 3 k)) := by
      have := M_hasNest (t := t1) hM1'.1 hM1'.2.2.2.1 bI (k := k) (by omega)
      rw [sA_id rfl] at this
      exact this
    have hCn : rget 40 ((up S 11 (up (S 11) 4 g1) 1 0).2 3) (nI k) = nI (Hr A 3 k) := RHr_get hC1'.1.1.2.2 (by decide) (by omega)
    have q3 := Inv_b bI k (a := 3) (by decide)
    rw [hX, f5, hCn, hMt, ob1_s, refuse_e, refuse_e, lt2_d, lt2_d, must_f t15, must_t, C_countNests hC1'.1.1 (Inv_at i4.1) (by omega), ob1_s]
    rw [show cnt (nstB (Hr (atA A))) (Hn (atA A) 0) = cnt (nstB (Hr A)) (Hn A 0) from by
      show cnt (nstB (Hr A)) (up (Hn A) 7 (Hn A 1) 0) = _
      rw [up_n (by decide)]]
    by_cases c : 0 < Hr A 3 k
    · have hPE := PJ_ref (c := 3) f4 (by decide) (by decide) (by rw [hX]; exact f6) f7
      rw [hX] at hPE
      have hne := PE_n hPE
      have hr2 : RM A ((sS (sS t1 15 (nI 3)) 16 (t1.1 13)).2 0) := hM1'
      rw [show (3 : Int32) = nI 3 from rfl, if_neg (show ¬ nI (Hr A 3 k) ≤ 0 by rw [L0, Z_le (by omega) (by omega)]; omega), if_pos (decide_eq_true c), nst _ hr2, ob1_s, must_e hne]
      have fin : (if (6 : Int32) ≤ nI (cnt (nstB (Hr A)) (Hn A 0)) then (ob (F_X11_number N 1 30 (sS (sS t1 15 (nI 3)) 16 (t1.1 13))) fun v27 t28 => (if (t28.1 15) = 0 then (ob1 (F_X11_puts (nI k) 4 v27 t28) fun t30 => some t30) else some t28)) else (ob (F_X11_number N 1 30 (sS (sS t1 15 (nI 3)) 16 (t1.1 13))) fun v33 t34 => (if (t34.1 15) = 0 then (ob1 (F_X11_puts (nI k) 4 v33 t34) fun t36 => some t36) else some t34))) = some (sS (sS t1 15 (nI 3)) 16 (t1.1 13)) := by
        rw [numb_e hne, ob_s, if_neg hne]
        split <;> rfl
      rw [fin, ob1_s, semi_e hne, ob1_s]
      exact ⟨false, _, _, rfl, rfl, Or.inr ⟨rfl, hPE⟩⟩
    · rw [if_pos (show nI (Hr A 3 k) ≤ 0 by rw [L0, Z_le (by omega) (by omega)]; omega), if_neg (fun q => c (of_decide_eq_true q)), must_t (c := 3), nst _ hM1', ob1_s, must_f t15, must_t]
      by_cases c6 : 6 ≤ cnt (nstB (Hr A)) (Hn A 0)
      · have hPE := PJ_ref (c := 4) f4 (by decide) (by decide) (by rw [hX]; exact f6) f7
        rw [hX] at hPE
        have hne := PE_n hPE
        rw [show (4 : Int32) = nI 4 from rfl, if_neg (show ¬ nI (cnt (nstB (Hr A)) (Hn A 0)) < 6 by rw [L6, Z_lt (by omega) (by omega)]; omega), if_pos (show (6 : Int32) ≤ nI (cnt (nstB (Hr A)) (Hn A 0)) by rw [L6, Z_le (by omega) (by omega)]; exact c6), numb_e hne, ob_s, if_neg hne, ob1_s, semi_e hne, ob1_s]
        exact ⟨false, _, _, rfl, rfl, Or.inr ⟨rfl, hPE⟩⟩
      · rw [if_pos (show nI (cnt (nstB (Hr A)) (Hn A 0)) < 6 by rw [L6, Z_lt (by omega) (by omega)]; omega), if_neg (show ¬ (6 : Int32) ≤ nI (cnt (nstB (Hr A)) (Hn A 0)) by rw [L6, Z_le (by omega) (by omega)]; exact c6)]
        have hJ2 := J_num (lo := 1) (hi := 30) f4 (by decide) (by decide) hN
        rw [hX] at hJ2
        rw [n1, show (nI 30 : Int32) = 30 from rfl] at hJ2
        rcases hJ2 with ⟨g2, t2, f1, f2, f3, f4⟩ | ⟨d, e2, g2, t2, f1, f2, hd1, hd, hpe2, f5', _, _, f4⟩
        · rw [f1, f2, ob_s, ob_s, if_neg Bool.false_ne_true, if_neg f3, ob1_s, semi_e f3, ob1_s]
          exact ⟨false, _, _, rfl, rfl, Or.inr ⟨rfl, f4⟩⟩
        · rw [f1, f2, ob_s, ob_s, if_pos rfl]
          rw [sT_e] at f4
          generalize hS2 : up (up S 11 (up (S 11) 4 g1)) 11 (up (up S 11 (up (S 11) 4 g1) 11) 4 g2) = S2 at f4 ⊢
          have hX2 : S2 11 4 = g2 := by rw [← hS2]; exact sT_4
          obtain ⟨⟨h1, h2, h3, h4, h5, h6, h7⟩, ⟨m1, m2, m3, m4, m5, m6⟩, i1, i2, i3⟩ := f4
          have hIn := Inv_nst (d := d) i1 hk hd (by omega)
          have hMp := M_puts (t := t2) (s := t2.2 0) (k := k) (a := 4) (v := nI d) (by omega)
          rw [sA_id rfl] at hMp
          have hRM : RM (opNst A k d) (upd (t2.2 0) (22 + 5 * k + 4) (nI d)) := by
            obtain ⟨hf, hcc, hkk, hr, hq, hp, hl⟩ := m5
            refine ⟨RMf_c hf (fun j a => pk_un (by omega)), RMc_c hcc (fun j a b _ _ _ => pk_un (by omega)), RMk_c hkk (fun j a b => pk_un (by omega)), fun a j ha hj => ?_, RMq_c hq i1.2.2.2.2.1 (fun j a b => pk_un (by omega)), RMp_c hp (fun g hg => (Inv_pl i1 hg).1) (fun j a b => pk_un (by omega)), (show RMl (Hl A) _ from RMl_c hl (RMl_ok i1) (fun j a b => pk_un (by omega)))⟩
            show _ = nI (mLet (rowS (Hr A) 3 k d) a j)
            by_cases e : j = k
            · subst e
              have e3 : rowS (Hr A) 3 j d 3 j = d := rowS_at
              have eo : ∀ b, b ≠ 3 → rowS (Hr A) 3 j d b j = Hr A b j := fun b hb => rowS_a hb j
              match a, ha with
              | 0, _ => rw [pk_un (by omega), mLet_0, eo 2 (by decide), eo 0 (by decide), hr 0 j (by decide) hj, mLet_0]
              | 1, _ => rw [pk_un (by omega), mLet_1, eo 2 (by decide), eo 1 (by decide), hr 1 j (by decide) hj, mLet_1]
              | 2, _ => rw [pk_un (by omega), mLet_2, eo 2 (by decide), hr 2 j (by decide) hj, mLet_2]
              | 3, _ => rw [pk_un (by omega), mLet_3, eo 2 (by decide), eo 4 (by decide), hr 3 j (by decide) hj, mLet_3]
              | 4, _ => rw [pk_us, mLet_4, e3]
            · rw [pk_un (by omega), hr a j ha hj, mLet_eq (fun b _ => (rowS_k e b).symm) ha]
          have hPJ : PJ B n e2 (opNst A k d) T S0 t0 (up S2 1 (F_X5_placeNest (nI k) (nI d) (S2 1))) (sA t2 0 (upd (t2.2 0) (22 + 5 * k + 4) (nI d))) := by
            refine ⟨⟨h1, by rw [up_n (by decide)]; exact h2, by rw [up_n (by decide)]; exact h3, by rw [up_n (by decide)]; exact h4, by rw [up_n (by decide)]; exact h5, ?_, fS_1 h7⟩, ⟨MB_e m1 (sA_2n (by decide)) rfl, m2, m3, m4, by rw [sA2s]; exact hRM, fm_A m6 (by omega)⟩, hIn, i2, i3⟩
            rw [up_s]
            exact C_nst (A := atA A) h6 (Inv_at i1) (by show k < up (Hn A) 7 (Hn A 1) 0; rw [up_n (by decide)]; exact hk)
          obtain ⟨b, g5, t5, y1, y2, y3⟩ := J_sem hPJ hN
          have ez0 : (up S2 1 (F_X5_placeNest (nI k) (nI d) (S2 1))) 11 4 = g2 := by rw [up_n (by decide)]; exact hX2
          rw [ez0] at y1
          rw [if_pos m3, L4, hMp, ob1_s, ob1_s, y2, ob1_s, hX2, f5', ez0, y1, ob_s]
          refine ⟨b, _, t5, rfl, rfl, ?_⟩
          rcases y3 with ⟨rfl, p', hp', y4⟩ | ⟨rfl, y4⟩
          · exact Or.inl ⟨rfl, p', _, by omega, y4⟩
          · exact Or.inr ⟨rfl, y4⟩
theorem J_msg {B : Nat → Nat} {n p T N : Nat} {A : AS} {S0 S : SS} {t0 t : HV} (h : PJ B n p A T S0 t0 S (sS t 12 ((t.1 13) + (t.1 14)))) (hN : 900 < N) : JX B n p T S0 t0 (F_X3_readMessage N 1 S) (ob1 (F_X11_messageLine N t) fun t22 => (ob1 (F_X11_semicolon N t22) fun t24 => some t24)) := by
  have hI := h.2.2.1
  have bI := hI
  obtain ⟨hT, ⟨⟨b0, b0'⟩, ⟨b1, b1'⟩, b2, ⟨b3, b3'⟩, ⟨b4, b4'⟩, ⟨b5, b5'⟩, b6, b7⟩, hRw, hNs, hQu, hPr, hVm⟩ := id hI
  unfold F_X3_readMessage F_X11_messageLine F_X11_goesPast
  simp only [lt_d]
  have hJ1 := J_num (lo := 0) (hi := 1) h (by decide) (by decide) hN
  rw [n0, n1] at hJ1
  have errT : ∀ x : HV, x.1 15 ≠ 0 → (if (x.1 15) = 0 then (ob (F_X11_messageNow N (nI 0) (sS x 12 ((x.1 13) + (x.1 14)))) fun v11 t12 => some t12) else some x) = some x := fun x hx => if_neg hx
  rcases hJ1 with ⟨g1, t1, f1, f2, f3, f4⟩ | ⟨g, e1, g1, t1, f1, f2, _, hg1, hpe, f5, f6, f7, f4⟩
  · rw [f1, f2, ob_s, ob_s, if_neg Bool.false_ne_true, word_e f3, ob1_s, if_neg f3, must_t, if_neg f3, ob1_s, semi_e f3, ob1_s]
    exact ⟨false, _, _, rfl, rfl, Or.inr ⟨rfl, f4⟩⟩
  · have hg : g < 2 := by omega
    rw [f1, f2, ob_s, ob_s, if_pos rfl]
    rw [sT_e] at f4
    generalize hS1 : up S 11 (up (S 11) 4 g1) = S1 at f4 ⊢
    have hX1 : S1 11 4 = g1 := by rw [← hS1]; exact sT_4
    obtain ⟨⟨h1, h2, h3, h4, h5, h6, h7⟩, ⟨m1, m2, m3, m4, m5, m6⟩, i1, i2, i3⟩ := f4
    cases hr : wrdR B n e1 with
    | inl cq =>
      obtain ⟨g', w1, w2⟩ := (C_wrd h2 h1 h3 hN).2 cq.1 cq.2 hr
      obtain ⟨t', w3, w4⟩ := (M_wrd m1 h1 m2 m3 hN).2 cq.1 cq.2 hr
      obtain ⟨c0, c4⟩ := wrd_cq (c := cq.1) (q := cq.2) hr
      have hPE : PE S0 t0 (sT S1 g') t' := ⟨cq.1, cq.2, c0, c4, by rw [sT_4]; exact w2, fS_T h7, w4.2.1, w4.2.2, fm_t m6 (fr_fm w4.1)⟩
      have hne := PE_n hPE
      rw [w1, w3, ob_s, ob1_s, if_neg Bool.false_ne_true, if_neg hne, must_t, if_neg hne, ob1_s, semi_e hne, ob1_s]
      exact ⟨false, _, _, rfl, rfl, Or.inr ⟨rfl, hPE⟩⟩
    | inr se =>
      obtain ⟨g2, w1, w2, w3, w4⟩ := (C_wrd h2 h1 h3 hN).1 se.1 se.2 hr
      obtain ⟨t2, r, y1, y2, y3, y4, y5, y6, y7⟩ := (M_wrd m1 h1 m2 m3 hN).1 se.1 se.2 hr
      obtain ⟨ok1, ok2, ok3, ok4, ok5, ok6, ok7⟩ := wrdR_ok (s := se.1) (e := se.2) h1 hr
      have h800 := h2.1
      have q8 := (hQu g hg).1
      have k12 : (sA t2 9 r).2 0 (12 + g) = nI (Hq A g).length := by rw [sA_2n (by decide), y2.1]; exact m5.2.2.1.2 g hg
      have hlen : (wdL B se.1 (se.2 - se.1)).length = se.2 - se.1 := wdL_len
      have hokw : okW (wdL B se.1 (se.2 - se.1)) := wdL_ok (by omega) ok4 (fun k hk => ok7 k (by omega))
      have hmay : F_X5_mayQueue (nI g) (sT S1 g2 1) = decide ((Hq A g).length < 8) := by
        unfold F_X5_mayQueue
        rw [sT_o (by decide), Z_gsel hg, show (S1 1 (1 + g)).1 2 = nI (Hq A g).length from (h6.1.2 g hg).2.2.1]
        by_cases c : (Hq A g).length < 8
        · rw [if_neg (show ¬ (8 : Int32) ≤ nI (Hq A g).length by rw [L8, Z_le (by omega) (by omega)]; omega), decide_eq_true c]
        · rw [if_pos (show (8 : Int32) ≤ nI (Hq A g).length by rw [L8, Z_le (by omega) (by omega)]; omega), decide_eq_false c]
      have hX2 : (up S1 11 (up (S1 11) 4 g2)) 11 4 = g2 := sT_4
      have v12 : vpb (12 + nI g) 760 = true := by rw [L12, Z_add, Z_vpb (by omega)]; omega
      have a12 : ag (sA t2 9 r) 0 (12 + nI g) = nI (Hq A g).length := by rw [L12, Z_add, Z_ag (by omega), k12]
      have t15 : (sA t2 9 r).1 15 = 0 := y5
      rw [w1, y1, ob_s, ob1_s, if_pos rfl, if_pos t15, if_pos v12, a12, hX1, f5, show up S1 11 (up (S1 11) 4 g2) 1 = sT S1 g2 1 from rfl, hmay, hX2, refuse_e, lt2_d, must_f t15, must_t]
      have hfs2 : fS S0 (sT S1 g2) := fS_T h7
      have hfm2 : fm t0 (sA t2 9 r) := fm_A (fm_t m6 (fr_fm y2)) (by omega)
      by_cases c : (Hq A g).length < 8
      · rw [decide_eq_true c, if_pos rfl, if_neg (show ¬ (8 : Int32) ≤ nI (Hq A g).length by rw [L8, Z_le (by omega) (by omega)]; omega), if_pos t15, w3, w4]
        have e9 : (sA t2 9 r).1 13 + (sA t2 9 r).1 14 = nI se.2 := by
          show t2.1 13 + t2.1 14 = _
          rw [y3, y4, Z_add]
          congr 1
          omega
        rw [e9]
        have hRMx : RM A ((sS (sA t2 9 r) 12 (nI se.2)).2 0) := by rw [sS_2, sA_2n (by decide), y2.1]; exact m5
        obtain ⟨s5, z1, z2⟩ := M_msg (t := sS (sA t2 9 r) 12 (nI se.2)) hRMx i1 hg c (w := wdL B se.1 (se.2 - se.1)) (by rw [sS_2, sA2s]; exact y7) (by rw [hlen]; exact ok4) (N := N) (by omega)
        rw [sA_id rfl] at z1
        have hque := C_que (A := atA A) (h := sT S1 g2 1) (by rw [sT_o (by decide)]; exact h6) (Inv_at i1) hg c (src := g2.2 0) (n2 := 800) (a := se.1) (w := wdL B se.1 (se.2 - se.1)) (by decide) (by rw [hlen]; omega) (by rw [hlen]; exact ok4) (fun x hx => by
          rw [hlen] at hx
          rw [wdL_at hx]
          exact (w2.1.2.1 (se.1 + x) (by omega)).2)
        rw [hlen] at hque
        have hPJ : PJ B n se.2 (opQue A g (wdL B se.1 (se.2 - se.1))) T S0 t0 (up (sT S1 g2) 1 (F_X5_receive (nI g) (g2.2 0) 800 (nI se.1) (nI (se.2 - se.1)) (sT S1 g2 1))) (sA (sS (sS (sA t2 9 r) 12 (nI se.2)) 8 (nI ((Hq A g).length + 1))) 0 s5) := by
          refine ⟨⟨ok6, by rw [up_n (by decide), sT_4]; exact w2.1, by rw [up_n (by decide), sT_4]; exact w2.2.1, by rw [up_n (by decide), sT_4, w2.2.2.1 7 (by decide)]; exact h4, by rw [up_n (by decide), sT_4, w2.2.2.1 8 (by decide)]; exact h5, by rw [up_s]; exact hque, fS_1 hfs2⟩, ⟨?_, ?_, ?_, ?_, by rw [sA2s]; exact z2, fm_A (fm_S (fm_S hfm2 (by omega)) (by omega)) (by omega)⟩, Inv_que i1 c hokw, i2, i3⟩
          · refine MB_e (MB_f m1 y2) ?_ ?_
            · rw [sA_2n (by decide), sS_2, sS_2, sA_2n (by decide)]
            · rw [sA_1, sS_1n (by decide), sS_1n (by decide), sA_1]
          · rw [sA_1, sS_1n (by decide), sS_1]
          · rw [sA_1, sS_1n (by decide), sS_1n (by decide)]; exact y5
          · rw [sA_1, sS_1n (by decide), sS_1n (by decide)]; exact y6.trans m4
        obtain ⟨b, g5, t5, q1, q2, q3⟩ := J_sem hPJ hN
        have ez0 : (up (sT S1 g2) 1 (F_X5_receive (nI g) (g2.2 0) 800 (nI se.1) (nI (se.2 - se.1)) (sT S1 g2 1))) 11 4 = g2 := by rw [up_n (by decide)]; exact sT_4
        rw [ez0] at q1
        rw [z1, ob_s, ob1_s, q2, ob1_s, show up S1 11 (up (S1 11) 4 g2) = sT S1 g2 from rfl, ez0, q1, ob_s]
        refine ⟨b, _, t5, rfl, rfl, ?_⟩
        rcases q3 with ⟨rfl, p', hp', y4⟩ | ⟨rfl, y4⟩
        · exact Or.inl ⟨rfl, p', _, by omega, y4⟩
        · exact Or.inr ⟨rfl, y4⟩
      · have hPE : PE S0 t0 (sT (sT S1 g2) (sS (sS g2 7 4) 8 (g2.1 4))) (sS (sS (sA t2 9 r) 15 4) 16 ((sA t2 9 r).1 13)) := by
          refine ⟨4, se.1, by decide, by decide, ?_, fS_T hfs2, ?_, ?_, fm_S (fm_S hfm2 (by omega)) (by omega)⟩
          · rw [sT_4, w3]; exact refuse_7
          · rw [sS_1n (by decide), sS_1]; rfl
          · rw [sS_1]; exact y3
        have hne := PE_n hPE
        rw [decide_eq_false c, if_neg Bool.false_ne_true, if_pos (show (8 : Int32) ≤ nI (Hq A g).length by rw [L8, Z_le (by omega) (by omega)]; omega), if_neg hne, ob1_s, semi_e hne, ob1_s]
        exact ⟨false, _, _, rfl, rfl, Or.inr ⟨rfl, hPE⟩⟩
theorem sx_6 : sTx 6 = sTx 29 := by decide
theorem sx_7 : sTx 7 = sTx 30 := by decide
theorem sx_8 : sTx 8 = sTx 31 := by decide
theorem sx_5 : sTx 5 = sTx 28 := by decide
theorem M_sees_i {B : Nat → Nat} {n p N sx : Nat} {t : HV} (h : MB B n t) (hp : p ≤ n) (h15 : t.1 15 = 0) (h0 : 0 < (sTx sx).length) (hx : (sTx sx).length ≤ 12) (hN : 900 < N) : F_X11_sees N sx (nxT B n p t) = some (isW B n p (sTx sx), nxT B n p t) := by
  have hs := tS_le (B := B) hp
  rw [M_sees (MB_f h nx_f) hs.2 nx_12 (by rw [nx_o (by omega)]; exact h15) h0 hx hN, isW_i hp, nxT_i hp]
theorem M_next_i {B : Nat → Nat} {n p N : Nat} {t : HV} (h : MB B n t) (hp : p ≤ n) (hN : 900 < N) : F_X11_next N (nxT B n p t) = some (bA B n (tS B n p), nxT B n p t) := by
  have hs := tS_le (B := B) hp
  rw [M_next (MB_f h nx_f) hs.2 nx_12 hN, tS_i hp, nxT_i hp]
/-- before a token, both sides: what reading it leaves -/
theorem PJ_tok {B : Nat → Nat} {n p T : Nat} {A : AS} {S0 S : SS} {t0 t : HV} {g' : HV} (h : PJ B n p A T S0 t0 S t) (k : CK B n p (S 11 4) g') (hk1 : tK B n p = 1) : PJ B n (tE B n p) A T S0 t0 (sT S g') (sS (nxT B n p t) 12 (((nxT B n p t).1 13) + ((nxT B n p t).1 14))) := by
  obtain ⟨⟨h1, h2, h3, h4, h5, h6, h7⟩, ⟨m1, m2, m3, m4, m5, m6⟩, i1⟩ := h
  have he := tE_le (B := B) h1
  refine ⟨⟨he.2, by rw [sT_4]; exact CK_B h2 k, by rw [sT_4]; exact k.2.2.1, by rw [sT_4, k.2.2.2.2.2.2 7 (by decide)]; exact h4, by rw [sT_4, k.2.2.2.2.2.2 8 (by decide)]; exact h5, by rw [sT_o (by decide)]; exact h6, fS_T h7⟩, ⟨MB_f (MB_f m1 nx_f) (fr_s fr_r (by decide) (by decide)), ?_, ?_, ?_, m5, fm_S (fm_t m6 (fr_fm nx_f)) (by omega)⟩, i1⟩
  · rw [sS_1, nx_13, nx_14, wlN_1 hk1, Z_add]
    congr 1
    omega
  · rw [sS_1n (by decide), nx_o (by omega)]; exact m3
  · rw [sS_1n (by decide), nx_o (by omega)]; exact m4
theorem JX_lt {B : Nat → Nat} {n p p2 T : Nat} {S0 : SS} {t0 : HV} {F : Option (Bool × SS)} {G : Option HV} (h : JX B n p2 T S0 t0 F G) (hp : p ≤ p2) : JX B n p T S0 t0 F G := by
  obtain ⟨b, S', t', e1, e2, q⟩ := h
  refine ⟨b, S', t', e1, e2, ?_⟩
  rcases q with ⟨rfl, p', A', hp', y⟩ | ⟨rfl, y⟩
  · exact Or.inl ⟨rfl, p', A', by omega, y⟩
  · exact Or.inr ⟨rfl, y⟩
theorem J_stm {B : Nat → Nat} {n p T N : Nat} {A : AS} {S0 S : SS} {t0 t : HV} {g' : HV} (h : PJ B n p A T S0 t0 S t) (k : CK B n p (S 11 4) g') (hN : 900 < N) : JX B n p T S0 t0 (F_X3_readStatement N 1 (sT S g')) (F_X11_statement N (nxT B n p t)) := by
  have h1 := h.1.1
  have h2 := h.1.2.1
  have m1 := h.2.1.1
  have m3 := h.2.1.2.2.1
  have he := tE_le (B := B) h1
  have hs := tS_le (B := B) h1
  unfold F_X3_readStatement F_X11_statement
  rw [sT_4, C_isW h2 h1 k (sx := 6) (by decide) hN, C_isW h2 h1 k (sx := 7) (by decide) hN, C_isW h2 h1 k (sx := 8) (by decide) hN, M_sees_i m1 h1 m3 (sx := 29) (by decide) (by decide) hN, ob1_s, ob1_s, ob1_s, ob_s, M_sees_i m1 h1 m3 (sx := 30) (by decide) (by decide) hN, ob_s, M_sees_i m1 h1 m3 (sx := 31) (by decide) (by decide) hN, ob_s, sx_6, sx_7, sx_8]
  cases c1 : isW B n p (sTx 29) with
  | true =>
    rw [if_pos rfl, if_pos rfl]
    obtain ⟨b, S', t', e1, e2, q⟩ := JX_lt (J_twig (PJ_tok h k (isW_t.mp c1).1) hN) (show p ≤ tE B n p by omega)
    exact ⟨b, S', t', by rw [e1, ob_s], e2, q⟩
  | false =>
    rw [if_neg Bool.false_ne_true, if_neg Bool.false_ne_true]
    cases c2 : isW B n p (sTx 30) with
    | true =>
      rw [if_pos rfl, if_pos rfl]
      obtain ⟨b, S', t', e1, e2, q⟩ := JX_lt (J_nest (PJ_tok h k (isW_t.mp c2).1) hN) (show p ≤ tE B n p by omega)
      exact ⟨b, S', t', by rw [e1, ob_s], e2, q⟩
    | false =>
      rw [if_neg Bool.false_ne_true, if_neg Bool.false_ne_true]
      cases c3 : isW B n p (sTx 31) with
      | true =>
        rw [if_pos rfl, if_pos rfl]
        obtain ⟨b, S', t', e1, e2, q⟩ := JX_lt (J_msg (PJ_tok h k (isW_t.mp c3).1) hN) (show p ≤ tE B n p by omega)
        exact ⟨b, S', t', by rw [e1, ob_s], e2, q⟩
      | false =>
        have n15 : (nxT B n p t).1 15 = 0 := by rw [nx_o (by omega)]; exact m3
        have hPE : PE S0 t0 (sT (sT S g') (sS (sS g' 7 1) 8 (g'.1 4))) (sS (sS (nxT B n p t) 15 1) 16 ((nxT B n p t).1 13)) := by
          refine ⟨1, tS B n p, by decide, by decide, ?_, fS_T (fS_T h.1.2.2.2.2.2.2), ?_, ?_, fm_S (fm_S (fm_t h.2.1.2.2.2.2.2 (fr_fm nx_f)) (by omega)) (by omega)⟩
          · rw [sT_4, k.2.2.2.2.1]; exact refuse_7
          · rw [sS_1n (by decide), sS_1]; rfl
          · rw [sS_1, nx_13]
        have hne := PE_n hPE
        rw [if_neg Bool.false_ne_true, if_neg Bool.false_ne_true, M_next_i m1 h1 hN, ob_s, refuse_e, lt2_d, lt_d, lt_d, must_f n15, semi_e hne, ob1_s]
        exact ⟨false, _, _, rfl, rfl, Or.inr ⟨rfl, hPE⟩⟩
