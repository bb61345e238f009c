/-! ===== failing: the other side ===== -/
theorem M_fails {A : AS} {T : Nat} {t : HV} {s : Nat → Int32} (hM : RM A s) (hI : Inv A T) {m : Msg} (hm : okMs (Hr A) (Hn A 0) m) {N p mm : Nat} (hp : 430 ≤ p) (hp2 : p + 13 < 760) (hw : wAt s p m.2.2) (h13 : s (p + 13) = nI m.2.1) (hmm : mm ≤ m.2.2.length) (hz : ∀ k, m.2.1 + mm ≤ k → k < m.2.1 + m.2.2.length → Hr A 2 k = 0) (hN : 400 < N) : ∃ s', F_X11_fails N (nI m.1) (nI p) (nI mm) (sA t 0 s) = some (sA t 0 s') ∧ RM (opFail A m) s' ∧ ∀ j, 430 ≤ j → s' j = s j := by
  have bI := hI
  obtain ⟨hT, ⟨⟨b0, b0'⟩, ⟨b1, b1'⟩, b2, ⟨b3, b3'⟩, ⟨b4, b4'⟩, ⟨b5, b5'⟩, b6, b7⟩, hRw, hNs, hQu, hPr, hVm⟩ := id hI
  obtain ⟨hf, hc, hk, hr, hq, hpp, hl⟩ := hM
  obtain ⟨hg, hwd, h40, hlt⟩ := hm
  have h12 := hwd.2.1
  have hq8 := (hQu m.1 hg).1
  obtain ⟨s1, e1, r1, c1, f1⟩ := M_clr (t := t) hr hc hRw (N := N) (p := p) (st := m.2.1) (m := mm) (by omega) hp2 (fun _ => h13) (by omega) (by omega)
  obtain ⟨x1, x2⟩ := clr_more (R := Hr A) (s := m.2.1) hmm hz
  have r2 : RMr (clrR (Hr A) m.2.1 m.2.2.length) s1 := RMr_eq r1 (fun a k ha _ => x1 a k ha)
  rw [← x2] at c1
  have v18 : s1 (18 + m.1) = Hc A (14 + m.1) := by rw [f1 _ (by omega) (by omega)]; exact hc.2 m.1 2 hg (by decide)
  have v20 : s1 (20 + m.1) = Hc A (16 + m.1) := by rw [f1 _ (by omega) (by omega)]; exact hc.2 m.1 3 hg (by decide)
  have v12 : s1 (12 + m.1) = nI (Hq A m.1).length := by rw [f1 _ (by omega) (by omega)]; exact hk.2 m.1 hg
  have c2 : RMc (up (up (Hc A) 2 (Hc A 2 + nI (cntT (Hr A) m.2.1 m.2.2.length))) (14 + m.1) (Hc A (14 + m.1) + 1)) (upd s1 (18 + m.1) (Hc A (14 + m.1) + 1)) := RMc_setg (c := 2) c1 hg (by decide) _
  have hk2 : RMk (Hq A) (Hl A) (upd s1 (18 + m.1) (Hc A (14 + m.1) + 1)) := RMk_c hk (fun j h1 h2 => by rw [pk_un (by omega)]; exact f1 _ (by omega) (by omega))
  have hq2 : RMq (Hq A) (upd s1 (18 + m.1) (Hc A (14 + m.1) + 1)) := RMq_c hq hQu (fun j h1 h2 => by rw [pk_un (by omega)]; exact f1 _ (by omega) (by omega))
  have hpl := fun g' (hg' : g' < 2) => (Inv_pl bI hg').1
  have w12 : upd s1 (18 + m.1) (Hc A (14 + m.1) + 1) (12 + m.1) = nI (Hq A m.1).length := by rw [pk_un (by omega)]; exact v12
  by_cases c : (Hq A m.1).length < 8
  · have e2 : opF2 A m.1 m.2.2 = Sq (opF1 A m.1) (up (Hq A) m.1 (Hq A m.1 ++ [m.2.2])) := if_pos c
    obtain ⟨s3, e3, k3, q3, f3⟩ := M_waits (t := t) hk2 hq2 hQu (p := p) (w := m.2.2) hg c hp hp2 (wAt_c hw (fun j h1 h2 => by rw [pk_un (by omega)]; exact f1 _ (by omega) (by omega))) h12 hN
    refine ⟨s3, ?_, ?_, fun j hj => ?_⟩
    · unfold F_X11_fails
      rw [e1, ob1_s]
      simp (disch := omega) only [L1, L8, L12, L18, L760, Z_vpb, Z_ag0, Z_aw0, Z_add, if_pos, lt_d, v18]
      rw [show (nI 1 : Int32) = 1 from rfl]
      simp (disch := omega) only [Z_vpb, Z_ag0, w12, Z_eq, if_neg, if_pos, e3, ob1_s]
    · have hr3 : RMr (Hr (opFail A m)) s3 := by
        rw [opFail_r]
        exact RMr_c r2 (fun j h1 h2 => by rw [f3 _ (by omega) (by omega), pk_un (by omega)])
      have hc3 : RMc (Hc (opFail A m)) s3 := by
        unfold opFail
        rw [e2]
        show RMc (up (up (Hc A) (14 + m.1) (Hc A (14 + m.1) + 1)) 2 (up (Hc A) (14 + m.1) (Hc A (14 + m.1) + 1) 2 + nI (cntT (Hr A) m.2.1 m.2.2.length))) s3
        rw [up_n (show 2 ≠ 14 + m.1 by omega), up_co (by omega)]
        exact RMc_c c2 (fun j h1 h2 h3 h4 h5 => f3 _ (by omega) (by omega))
      have hk3 : RMk (Hq (opFail A m)) (Hl (opFail A m)) s3 := by
        rw [opFail_l]
        unfold opFail
        rw [e2]
        exact k3
      have hq3 : RMq (Hq (opFail A m)) s3 := by
        unfold opFail
        rw [e2]
        exact q3
      refine ⟨?_, hc3, hk3, hr3, hq3, ?_, ?_⟩
      · rw [opFail_n]
        exact RMf_c hf (fun j h1 => by rw [f3 _ (by omega) (by omega), pk_un (by omega)]; exact f1 _ (by omega) (by omega))
      · rw [opFail_p]
        exact RMp_c hpp hpl (fun j h1 h2 => by rw [f3 _ (by omega) (by omega), pk_un (by omega)]; exact f1 _ (by omega) (by omega))
      · rw [opFail_l]
        exact RMl_c hl (RMl_ok bI) (fun j h1 h2 => by rw [f3 _ (by omega) (by omega), pk_un (by omega)]; exact f1 _ (by omega) (by omega))
    · rw [f3 _ (by omega) (by omega), pk_un (by omega)]; exact f1 _ (by omega) (by omega)
  · have e2 : opF2 A m.1 m.2.2 = Sc (opF1 A m.1) (up (Hc (opF1 A m.1)) (16 + m.1) (Hc (opF1 A m.1) (16 + m.1) + 1)) := if_neg c
    have c8 : (Hq A m.1).length = 8 := by omega
    have w20 : upd s1 (18 + m.1) (Hc A (14 + m.1) + 1) (20 + m.1) = Hc A (16 + m.1) := by rw [pk_un (by omega)]; exact v20
    have c3 : RMc (up (up (up (Hc A) 2 (Hc A 2 + nI (cntT (Hr A) m.2.1 m.2.2.length))) (14 + m.1) (Hc A (14 + m.1) + 1)) (16 + m.1) (Hc A (16 + m.1) + 1)) (upd (upd s1 (18 + m.1) (Hc A (14 + m.1) + 1)) (20 + m.1) (Hc A (16 + m.1) + 1)) := RMc_setg (c := 3) c2 hg (by decide) _
    refine ⟨upd (upd s1 (18 + m.1) (Hc A (14 + m.1) + 1)) (20 + m.1) (Hc A (16 + m.1) + 1), ?_, ?_, fun j hj => ?_⟩
    · unfold F_X11_fails
      rw [e1, ob1_s]
      simp (disch := omega) only [L1, L8, L12, L18, L20, L760, Z_vpb, Z_ag0, Z_aw0, Z_add, if_pos, lt_d, v18]
      rw [show (nI 1 : Int32) = 1 from rfl]
      simp (disch := omega) only [Z_vpb, Z_ag0, Z_aw0, w12, c8, w20, if_pos, ↓reduceIte]
    · have hc3 : RMc (Hc (opFail A m)) (upd (upd s1 (18 + m.1) (Hc A (14 + m.1) + 1)) (20 + m.1) (Hc A (16 + m.1) + 1)) := by
        unfold opFail
        rw [e2]
        show RMc (up (up (up (Hc A) (14 + m.1) (Hc A (14 + m.1) + 1)) (16 + m.1) (up (Hc A) (14 + m.1) (Hc A (14 + m.1) + 1) (16 + m.1) + 1)) 2 (up (up (Hc A) (14 + m.1) (Hc A (14 + m.1) + 1)) (16 + m.1) (up (Hc A) (14 + m.1) (Hc A (14 + m.1) + 1) (16 + m.1) + 1) 2 + nI (cntT (Hr A) m.2.1 m.2.2.length))) _
        rw [up_n (show 16 + m.1 ≠ 14 + m.1 by omega), up_n (show 2 ≠ 16 + m.1 by omega), up_n (show 2 ≠ 14 + m.1 by omega), up_co (show 16 + m.1 ≠ 2 by omega), up_co (show 14 + m.1 ≠ 2 by omega)]
        exact c3
      have hk3 : RMk (Hq (opFail A m)) (Hl (opFail A m)) (upd (upd s1 (18 + m.1) (Hc A (14 + m.1) + 1)) (20 + m.1) (Hc A (16 + m.1) + 1)) := by
        rw [opFail_l]
        unfold opFail
        rw [e2]
        exact RMk_c hk2 (fun j h1 h2 => pk_un (by omega))
      have hq3 : RMq (Hq (opFail A m)) (upd (upd s1 (18 + m.1) (Hc A (14 + m.1) + 1)) (20 + m.1) (Hc A (16 + m.1) + 1)) := by
        unfold opFail
        rw [e2]
        exact RMq_c hq2 hQu (fun j h1 h2 => pk_un (by omega))
      refine ⟨?_, hc3, hk3, ?_, hq3, ?_, ?_⟩
      · rw [opFail_n]
        exact RMf_c hf (fun j h1 => by rw [pk_un (by omega), pk_un (by omega)]; exact f1 _ (by omega) (by omega))
      · rw [opFail_r]
        exact RMr_c r2 (fun j h1 h2 => by rw [pk_un (by omega), pk_un (by omega)])
      · rw [opFail_p]
        exact RMp_c hpp hpl (fun j h1 h2 => by rw [pk_un (by omega), pk_un (by omega)]; exact f1 _ (by omega) (by omega))
      · rw [opFail_l]
        exact RMl_c hl (RMl_ok bI) (fun j h1 h2 => by rw [pk_un (by omega), pk_un (by omega)]; exact f1 _ (by omega) (by omega))
    · rw [pk_un (by omega), pk_un (by omega)]; exact f1 _ (by omega) (by omega)
theorem M_fip {A : AS} {T : Nat} {t : HV} {s : Nat → Int32} (hM : RM A s) (hI : Inv A T) {N g : Nat} (hg : g < 2) (hN : 400 < N) : ∃ s', st_X11_inspects_44 N (nI g) (sA t 0 s) = some (.inl (nI (g + 1), sA t 0 s')) ∧ RM (opFIP A g) s' := by
  have bI := hI
  obtain ⟨hT, ⟨⟨b0, b0'⟩, ⟨b1, b1'⟩, b2, ⟨b3, b3'⟩, ⟨b4, b4'⟩, ⟨b5, b5'⟩, b6, b7⟩, hRw, hNs, hQu, hPr, hVm⟩ := id hI
  have hpl := Inv_pl bI hg
  have hpr := M_isInProgress (t := t) hM.2.2.2.2.2.1 hg hpl.1
  unfold opFIP
  by_cases cw : (Hp A g).2.2 = []
  · have hb := (hPr g hg).1 cw
    rw [if_neg (by rw [hb]; exact Bool.false_ne_true)]
    refine ⟨s, ?_, hM⟩
    unfold st_X11_inspects_44
    simp (disch := omega) only [L1, L2, Z_le, Z_add, if_neg, hpr, ob1_s, cw, ne_eq, not_true, decide_false, Bool.false_eq_true, ↓reduceIte]
  · have hok := Inv_m bI (msgs_p hg cw)
    obtain ⟨w1, w2, w3⟩ := (hM.2.2.2.2.2.1 g hg).2 cw
    have hlo := M_lost (t := t) hM.2.2.2.1 hRw (N := N) (p := 430 + 15 * g) (st := (Hp A g).2.1) (m := (Hp A g).1) (by omega) (fun _ => w2) (by omega) (by omega)
    have hz : ∀ k, (Hp A g).2.1 + (Hp A g).1 ≤ k → k < (Hp A g).2.1 + (Hp A g).2.2.length → Hr A 2 k = 0 := fun k h1 h2 => by
      have := ((hPr g hg).2 cw).2 (k - (Hp A g).2.1) (by omega) (by omega)
      rwa [show (Hp A g).2.1 + (k - (Hp A g).2.1) = k by omega] at this
    by_cases c : lostB (Hr A) (Hp A g).2.1 (Hp A g).1 = true
    · rw [if_pos c]
      obtain ⟨s3, e3, r3, f3⟩ := M_fails (t := t) hM bI hok (p := 430 + 15 * g) (mm := (Hp A g).1) (by omega) (by omega) w1 w2 hpl.2.2 hz hN
      dsimp only at e3
      refine ⟨upd s3 (430 + 15 * g) (nI 0), ?_, ?_⟩
      · unfold st_X11_inspects_44 F_X11_progressOf
        simp (disch := omega) only [L0, L1, L2, L14, L15, L430, L760, Z_vpb, Z_ag0, Z_aw0, Z_mul, Z_le, Z_add, if_neg, if_pos, hpr, ob1_s, cw, ne_eq, not_false_eq_true, decide_true, ↓reduceIte, w3, hlo, c, e3, lt_d]
      · obtain ⟨q1, q2, q3, q4, q5, q6, q7⟩ := r3
        refine ⟨RMf_c q1 (fun j h1 => pk_un (by omega)), RMc_c q2 (fun j h1 h2 _ _ _ => pk_un (by omega)), RMk_c q3 (fun j h1 h2 => pk_un (by omega)), RMr_c q4 (fun j h1 h2 => pk_un (by omega)), RMq_c q5 (opFail_q hQu hok.2.1) (fun j h1 h2 => pk_un (by omega)), fun g' hg' => ?_, ?_⟩
        · show _ = nI (up (Hp A) g bare g').2.2.length ∧ ((up (Hp A) g bare g').2.2 ≠ [] → wAt _ _ (up (Hp A) g bare g').2.2 ∧ _ = nI (up (Hp A) g bare g').2.1 ∧ _ = nI (up (Hp A) g bare g').1)
          by_cases e : g' = g
          · subst e
            rw [up_s]
            exact ⟨pk_us, fun h => absurd rfl h⟩
          · rw [up_n e]
            rw [opFail_p] at q6
            obtain ⟨p1, p2⟩ := q6 g' hg'
            have hpl' := (Inv_pl bI hg').1
            refine ⟨by rw [pk_un (by omega)]; exact p1, fun h => ?_⟩
            obtain ⟨p3, p4, p5⟩ := p2 h
            exact ⟨wAt_c p3 (fun j h1 h2 => pk_un (by omega)), by rw [pk_un (by omega)]; exact p4, by rw [pk_un (by omega)]; exact p5⟩
        · show RMl (Hl (opFail A _)) _
          rw [opFail_l] at q7 ⊢
          exact RMl_c q7 (RMl_ok bI) (fun j h1 h2 => pk_un (by omega))
    · rw [if_neg c]
      refine ⟨s, ?_, hM⟩
      unfold st_X11_inspects_44 F_X11_progressOf
      simp (disch := omega) only [L1, L2, L14, L15, L430, L760, Z_vpb, Z_ag0, Z_mul, Z_le, Z_add, if_neg, if_pos, hpr, ob1_s, cw, ne_eq, not_false_eq_true, decide_true, ↓reduceIte, w3, hlo, c, Bool.false_eq_true]
theorem M_failPosted {A : AS} {T : Nat} {t : HV} {s : Nat → Int32} (hM : RM A s) (hI : Inv A T) {N : Nat} (hN : 400 < N) : ∃ s', lpN N (fun z => st_X11_inspects_109 N z.1 z.2) (0, sA t 0 s) = some (sA t 0 s') ∧ RM (sift fFail (Hl A) [] A) s' := by
  have hL := Inv_l hI
  have key := lpN_up (f := fun z => st_X11_inspects_109 N z.1 z.2) (fun i (x : Int32 × HV) => ∃ K B s', x = (nI K.length, sA t 0 s') ∧ RM B s' ∧ Hl B = K ++ (Hl A).drop i ∧ Inv B T ∧ sift fFail ((Hl A).drop i) K B = sift fFail (Hl A) [] A) (fun r => ∃ s', r = sA t 0 s' ∧ RM (sift fFail (Hl A) [] A) s') (n := (Hl A).length) (N := N) (x0 := (0, sA t 0 s)) (by omega) ⟨[], A, s, rfl, hM, rfl, hI, rfl⟩ (fun i x hi hP => ?_) (fun x hP => ?_)
  · obtain ⟨r, e, s', rfl, h⟩ := key
    exact ⟨s', e, h⟩
  · obtain ⟨K, B, s', rfl, hB, hE, hJ, hS⟩ := hP
    have hd := gD_drop hi
    have hE' := hE
    rw [hd] at hE'
    have hLB := Inv_l hJ
    have hlen : (Hl B).length = K.length + (Hl A).length - i := by rw [hE, List.length_append, List.length_drop]; omega
    have hK : K.length < (Hl B).length := by omega
    have hmk : (Hl B).getD K.length bare = (Hl A).getD i bare := by rw [hE']; exact gD_at
    have hlk := hB.2.2.2.2.2.2 K.length hK
    have hlo := RMl_ok hJ K.length hK
    rw [hmk] at hlk hlo
    have h11 := hB.2.2.1.1
    have hok := Inv_lk hJ hK
    rw [hmk] at hok
    have hm1 := hok.1
    have h40 := hJ.2.1.1.2
    have hm3 := hok.2.2.1
    have hls := M_lost (t := t) hB.2.2.2.1 hJ.2.2.1 (N := N) (p := 460 + 15 * K.length) (st := ((Hl A).getD i bare).2.1) (m := ((Hl A).getD i bare).2.2.length) (by omega) (fun _ => hlk.2.1) (by omega) (by omega)
    by_cases c : lostB (Hr B) ((Hl A).getD i bare).2.1 ((Hl A).getD i bare).2.2.length = true
    · obtain ⟨s1, e1, r1, f1⟩ := M_fails (t := t) hB hJ hok (p := 460 + 15 * K.length) (mm := ((Hl A).getD i bare).2.2.length) (by omega) (by omega) hlk.1 hlk.2.1 (Nat.le_refl _) (fun k h1 h2 => absurd h2 (by omega)) hN
      have hl1 := r1.2.2.2.2.2.2
      have hk1 := r1.2.2.1
      rw [opFail_l] at hl1 hk1
      obtain ⟨s2, e2, k2, l2, f2⟩ := M_postGoes (t := t) (q := Hq (opFail B ((Hl A).getD i bare))) (by rw [← hE']; exact hk1) (by rw [← hE']; exact hl1) (by rw [← hE']; exact RMl_ok hJ) hN
      have hi2 := Inv_failP hJ hE'
      refine ⟨(nI K.length, sA t 0 s2), ?_, K, Sl (opFail B ((Hl A).getD i bare)) (K ++ (Hl A).drop (i + 1)), s2, rfl, ?_, rfl, hi2, ?_⟩
      · show st_X11_inspects_109 N (nI K.length) (sA t 0 s') = _
        unfold st_X11_inspects_109 F_X11_postAt
        simp (disch := omega) only [L11, L14, L15, L460, L760, Z_vpb, Z_ag0, Z_mul, Z_add, Z_le, h11, hlk.1.1, hlk.2.2, hls, c, ↓reduceIte, if_pos, if_neg, ob1_s, e1, e2]
      · obtain ⟨q1, q2, q3, q4, q5, q6, q7⟩ := r1
        refine ⟨RMf_c q1 (fun j h1 => f2 _ (by omega) (by omega)), RMc_c q2 (fun j h1 h2 h3 _ _ => f2 _ h3 (by omega)), k2, RMr_c q4 (fun j h1 h2 => f2 _ (by omega) (by omega)), RMq_c q5 (opFail_q hJ.2.2.2.2.1 hok.2.1) (fun j h1 h2 => f2 _ (by omega) (by omega)), ?_, l2⟩
        show RMp (Hp (opFail B _)) _
        rw [opFail_p] at q6 ⊢
        exact RMp_c q6 (fun g hg => (Inv_pl hJ hg).1) (fun j h1 h2 => f2 _ (by omega) (by omega))
      · rw [← hS, hd]
        show _ = match fFail B ((Hl A).getD i bare) with
          | some B' => sift fFail ((Hl A).drop (i + 1)) K (Sl B' (K ++ (Hl A).drop (i + 1)))
          | none => sift fFail ((Hl A).drop (i + 1)) (K ++ [(Hl A).getD i bare]) B
        unfold fFail
        rw [if_pos c]
    · refine ⟨(nI (K.length + 1), sA t 0 s'), ?_, K ++ [(Hl A).getD i bare], B, s', by rw [List.length_append]; rfl, hB, by rw [hE', List.append_assoc]; rfl, hJ, ?_⟩
      · show st_X11_inspects_109 N (nI K.length) (sA t 0 s') = _
        unfold st_X11_inspects_109 F_X11_postAt
        simp (disch := omega) only [L1, L11, L14, L15, L460, L760, Z_vpb, Z_ag0, Z_mul, Z_add, Z_le, h11, hlk.1.1, hls, c, ↓reduceIte, if_pos, if_neg, ob1_s, Bool.false_eq_true]
      · rw [← hS, hd]
        show _ = match fFail B ((Hl A).getD i bare) with
          | some B' => sift fFail ((Hl A).drop (i + 1)) K (Sl B' (K ++ (Hl A).drop (i + 1)))
          | none => sift fFail ((Hl A).drop (i + 1)) (K ++ [(Hl A).getD i bare]) B
        unfold fFail
        rw [if_neg c]
  · obtain ⟨K, B, s', rfl, hB, hE, hJ, hS⟩ := hP
    rw [List.drop_length] at hE hS
    rw [List.append_nil] at hE
    refine ⟨sA t 0 s', ?_, s', rfl, by rw [← hS]; exact hB⟩
    show st_X11_inspects_109 N (nI K.length) (sA t 0 s') = _
    have h11 := hB.2.2.1.1
    have hLB := Inv_l hJ
    rw [hE] at h11 hLB
    unfold st_X11_inspects_109
    simp (disch := omega) only [L11, L760, Z_vpb, Z_ag0, Z_le, h11, if_pos]
def opInsp (A : AS) : AS := sift fFail (Hl (opFIP (opFIP (opPrune A) 0) 1)) [] (opFIP (opFIP (opPrune A) 0) 1)
theorem M_inspects {A : AS} {T : Nat} {t : HV} {s : Nat → Int32} (hM : RM A s) (hI : Inv A T) {N : Nat} (hN : 400 < N) : ∃ s', F_X11_inspects N (sA t 0 s) = some (sA t 0 s') ∧ RM (opInsp A) s' := by
  have bI := hI
  obtain ⟨hT, ⟨⟨b0, b0'⟩, ⟨b1, b1'⟩, b2, ⟨b3, b3'⟩, ⟨b4, b4'⟩, ⟨b5, b5'⟩, b6, b7⟩, hRw, hNs, hQu, hPr, hVm⟩ := id hI
  have hfin : ∀ s1, RM (opPrune A) s1 → ∃ s', lpN N (fun z => st_X11_inspects_44 N z.1 z.2) (0, sA t 0 s1) = some (sA t 0 s') ∧ RM (opInsp A) s' := fun s1 r1 => by
    have i1 : Inv (opPrune A) T := Inv_pru bI (Hn A 0)
    obtain ⟨s2, e2, r2⟩ := M_fip (t := t) r1 i1 (g := 0) (by decide) hN
    have i2 := Inv_fip (g := 0) i1 (by decide)
    obtain ⟨s3, e3, r3⟩ := M_fip (t := t) r2 i2 (g := 1) (by decide) hN
    have i3 := Inv_fip (g := 1) i2 (by decide)
    obtain ⟨s4, e4, r4⟩ := M_failPosted (t := t) r3 i3 hN
    refine ⟨s4, ?_, r4⟩
    obtain ⟨k, hk⟩ : ∃ k, N = k + 3 := ⟨N - 3, by omega⟩
    have h1 : (fun z : Int32 × HV => st_X11_inspects_44 N z.1 z.2) (0, sA t 0 s1) = some (.inl (nI (0 + 1), sA t 0 s2)) := e2
    have h2 : (fun z : Int32 × HV => st_X11_inspects_44 N z.1 z.2) (nI (0 + 1), sA t 0 s2) = some (.inl (nI (1 + 1), sA t 0 s3)) := e3
    have h3 : (fun z : Int32 × HV => st_X11_inspects_44 N z.1 z.2) (nI (1 + 1), sA t 0 s3) = some (.inr (sA t 0 s4)) := by
      show st_X11_inspects_44 N (nI (1 + 1)) (sA t 0 s3) = _
      unfold st_X11_inspects_44
      rw [if_pos (by decide), e4, ob1_s]
    generalize hF : (fun z : Int32 × HV => st_X11_inspects_44 N z.1 z.2) = F at h1 h2 h3 ⊢
    rw [hk]
    exact (lpN_l h1).trans ((lpN_l h2).trans (lpN_r h3))
  unfold F_X11_inspects
  have key := lpN_up (f := fun z => st_X11_inspects_2 N z.1 z.2) (fun i (x : Int32 × HV) => ∃ s', x = (nI i, sA t 0 s') ∧ RM (Sc (Sr A (pruR (Hr A) (Hn A 3) i)) (up (Hc A) 1 (Hc A 1 + nI (cnt (pruB (Hr A) (Hn A 3)) i)))) s') (fun r => ∃ s', r = sA t 0 s' ∧ RM (opInsp A) s') (n := Hn A 0) (N := N) (x0 := (0, sA t 0 s)) (by omega) ⟨s, rfl, ?_⟩ (fun i x hi hP => ?_) (fun x hP => ?_)
  · obtain ⟨r, e, s', rfl, h⟩ := key
    exact ⟨s', e, h⟩
  · rw [pruR_0, show cnt (pruB (Hr A) (Hn A 3)) 0 = 0 from rfl, show Hc A 1 + nI 0 = Hc A 1 from Int32.add_zero _, up_id]
    exact hM
  · obtain ⟨s', rfl, h⟩ := hP
    obtain ⟨s2, e2, r2⟩ := M_pruneStep (t := t) (N := N) bI hi h (by omega)
    exact ⟨_, e2, s2, rfl, r2⟩
  · obtain ⟨s', rfl, h⟩ := hP
    have n0 : s' 0 = nI (Hn A 0) := h.1 0 (by decide)
    obtain ⟨s2, e2, r2⟩ := hfin s' h
    refine ⟨sA t 0 s2, ?_, s2, rfl, r2⟩
    show st_X11_inspects_2 N (nI (Hn A 0)) (sA t 0 s') = _
    unfold st_X11_inspects_2
    simp (disch := omega) only [L760, L0, Z_vpb, Z_ag0, Z_le, n0, if_pos]
    rw [show (nI 0 : Int32) = 0 from rfl, e2, ob1_s]
