/-! ===== delivering: the other side ===== -/
theorem gD_mid {K M : List Msg} {m : Msg} {k : Nat} : (K ++ M).getD k bare = if k < K.length then (K ++ m :: M).getD k bare else (K ++ m :: M).getD (k + 1) bare := by
  rw [gD_app]
  by_cases c : k < K.length
  · rw [if_pos c, if_pos c, gD_app, if_pos c]
  · rw [if_neg c, if_neg c, gD_app, if_neg (by omega), show k + 1 - K.length = (k - K.length) + 1 by omega, gD_s]
theorem gD_at {K M : List Msg} {m : Msg} : (K ++ m :: M).getD K.length bare = m := by
  rw [gD_app, if_neg (by omega), Nat.sub_self]
  rfl
theorem M_postGoes {K M : List Msg} {m : Msg} {q : Nat → List (List Nat)} {t : HV} {s : Nat → Int32} (hk : RMk q (K ++ m :: M) s) (hl : RMl (K ++ m :: M) s) (hL : ∀ k, k < (K ++ m :: M).length → k < 20 ∧ ((K ++ m :: M).getD k bare).2.2.length ≤ 12) {N : Nat} (hN : 400 < N) : ∃ s', F_X11_postGoes N (nI K.length) (sA t 0 s) = some (sA t 0 s') ∧ RMk q (K ++ M) s' ∧ RMl (K ++ M) s' ∧ ∀ j, j ≠ 11 → j < 460 → s' j = s j := by
  have hlen : (K ++ m :: M).length = K.length + M.length + 1 := by rw [List.length_append, List.length_cons]; omega
  have hlen2 : (K ++ M).length = K.length + M.length := List.length_append
  have h20 := (hL (K.length + M.length) (by omega)).1
  have h11 := hk.1
  rw [hlen] at h11
  refine ⟨va_cpy s (upd s 11 (nI (K.length + M.length))) (460 + 15 * K.length + 15) (460 + 15 * K.length) (15 * M.length), ?_, ?_, ?_, ?_⟩
  · unfold F_X11_postGoes
    simp (disch := omega) only [L1, L11, L760, Z_vpb, Z_ag0, h11, Z_sub, Z_aw0, lt_d, if_pos]
    unfold F_X11_postAt
    simp (disch := omega) only [L460, L15, Z_mul, Z_add, Nat.add_sub_cancel]
    refine lp_cpy (n := 15 * M.length) (c := 0) (d := 0) (from_ := 460 + 15 * K.length + 15) (to := 460 + 15 * K.length) (j0 := 460 + 15 * K.length) (t := sA t 0 (upd s 11 (nI (K.length + M.length)))) (by omega) (fun _ => Or.inl (by omega)) (fun i t' hi e => ?_) (fun t' e => ?_)
    · subst e
      rw [sA2s, sAA, sA2s]
      show st_X11_postGoes_16 N (nI (460 + 15 * K.length + i)) (sA t 0 _) = _
      unfold st_X11_postGoes_16 F_X11_postAt
      have e11 : va_cpy (upd s 11 (nI (K.length + M.length))) (upd s 11 (nI (K.length + M.length))) (460 + 15 * K.length + 15) (460 + 15 * K.length) i 11 = nI (K.length + M.length) := by rw [pk_cpy_out (by omega), pk_us]
      simp (disch := omega) only [L1, L11, L15, L460, L760, Z_vpb, Z_ag0, Z_mul, Z_add, Z_le, e11, if_pos, if_neg, lt_d, Z_aw0, sAA]
      rw [show 460 + 15 * K.length + i + 15 = 460 + 15 * K.length + 15 + i by omega]
    · subst e
      rw [sA2s, sAA]
      show st_X11_postGoes_16 N (nI (460 + 15 * K.length + 15 * M.length)) (sA t 0 _) = _
      unfold st_X11_postGoes_16 F_X11_postAt
      have e11 : va_cpy (upd s 11 (nI (K.length + M.length))) (upd s 11 (nI (K.length + M.length))) (460 + 15 * K.length + 15) (460 + 15 * K.length) (15 * M.length) 11 = nI (K.length + M.length) := by rw [pk_cpy_out (by omega), pk_us]
      simp (disch := omega) only [L11, L15, L460, L760, Z_vpb, Z_ag0, Z_mul, Z_add, Z_le, e11, if_pos]
      congr 3
      funext j
      by_cases c : 460 + 15 * K.length ≤ j ∧ j < 460 + 15 * K.length + 15 * M.length
      · rw [pk_cpy_in c.1 c.2, pk_cpy_in c.1 c.2, pk_un (by omega)]
      · rw [pk_cpy_out (by omega), pk_cpy_out (by omega)]
  · refine ⟨?_, fun g hg => ?_⟩
    · rw [pk_cpy_out (by omega), pk_us, hlen2]
    · rw [pk_cpy_out (by omega), pk_un (by omega)]
      exact hk.2 g hg
  · intro k hk2
    rw [hlen2] at hk2
    rw [gD_mid (m := m)]
    by_cases c : k < K.length
    · rw [if_pos c]
      obtain ⟨q1, q2, q3⟩ := hl k (by omega)
      have q4 := (hL k (by omega)).2
      refine ⟨wAt_c q1 (fun j h1 h2 => ?_), ?_, ?_⟩
      · rw [pk_cpy_out (by omega), pk_un (by omega)]
      · rw [pk_cpy_out (by omega), pk_un (by omega)]; exact q2
      · rw [pk_cpy_out (by omega), pk_un (by omega)]; exact q3
    · rw [if_neg c]
      obtain ⟨⟨q0, q1⟩, q2, q3⟩ := hl (k + 1) (by omega)
      have q4 := (hL (k + 1) (by omega)).2
      have e : ∀ j, j < 15 → va_cpy s (upd s 11 (nI (K.length + M.length))) (460 + 15 * K.length + 15) (460 + 15 * K.length) (15 * M.length) (460 + 15 * k + j) = s (460 + 15 * (k + 1) + j) := fun j hj => by
        rw [pk_cpy_in (by omega) (by omega)]
        congr 1
        omega
      refine ⟨⟨?_, fun x hx => ?_⟩, ?_, ?_⟩
      · exact (e 0 (by omega)).trans q0
      · have := e (1 + x) (by omega)
        rw [show 460 + 15 * k + 1 + x = 460 + 15 * k + (1 + x) by omega, this, show 460 + 15 * (k + 1) + (1 + x) = 460 + 15 * (k + 1) + 1 + x by omega]
        exact q1 x hx
      · rw [e 13 (by omega)]; exact q2
      · rw [e 14 (by omega)]; exact q3
  · intro j h1 h2
    rw [pk_cpy_out (by omega), pk_un h1]
/-- a posted message is taken out: its slots cleared, its place closed -/
theorem M_out {B : AS} {T : Nat} {K M : List Msg} {m : Msg} {t : HV} {s : Nat → Int32} (hM : RM B s) (hJ : Inv B T) (hE : Hl B = K ++ m :: M) {N : Nat} (hN : 400 < N) : ∃ s1, F_X11_clearsTwigs N (nI (460 + 15 * K.length)) (nI m.2.2.length) (sA t 0 s) = some (sA t 0 s1) ∧ RM (opClr B m.2.1 m.2.2.length) s1 ∧ (∀ j, 222 ≤ j → s1 j = s j) ∧ ∀ c g, g < 2 → c < 4 → s1 (14 + 2 * c + g) = Hc B (10 + 2 * c + g) := by
  obtain ⟨hf, hc, hk, hr, hq, hp, hl⟩ := hM
  have hm : m ∈ Hl B := by rw [hE]; exact List.mem_append_right _ (List.mem_cons_self)
  have hok := Inv_m hJ (msgs_l hm)
  have h40 := hJ.2.1.1.2
  have hK : K.length < (Hl B).length := by rw [hE, List.length_append, List.length_cons]; omega
  have hmk : (Hl B).getD K.length bare = m := by rw [hE]; exact gD_at
  have hlk := hl K.length hK
  have hlo := RMl_ok hJ K.length hK
  rw [hmk] at hlk hlo
  obtain ⟨s1, e1, r1, c1, f1⟩ := M_clr (t := t) hr hc hJ.2.2.1 (N := N) (p := 460 + 15 * K.length) (st := m.2.1) (m := m.2.2.length) (by omega) (by omega) (fun _ => hlk.2.1) (by have := hok.2.2.1; omega) (by omega)
  refine ⟨s1, e1, ⟨RMf_c hf (fun k hk => f1 k (by omega) (by omega)), c1, RMk_c hk (fun k h1 h2 => f1 k (by omega) (by omega)), r1, RMq_c hq hJ.2.2.2.2.1 (fun k h1 h2 => f1 k (by omega) (by omega)), RMp_c hp (fun g hg => (Inv_pl hJ hg).1) (fun k h1 h2 => f1 k (by omega) (by omega)), (show RMl (Hl B) s1 from RMl_c hl (RMl_ok hJ) (fun k h1 h2 => f1 k (by omega) (by omega)))⟩, fun j hj => f1 j (by omega) (by omega), fun c g hg hc' => ?_⟩
  rw [f1 _ (by omega) (by omega)]
  exact hc.2 g c hg hc'
theorem M_deliver {A : AS} {T : Nat} {t : HV} {s : Nat → Int32} (hM : RM A s) (hI : Inv A T) {N g : Nat} (hg : g < 2) (hN : 400 < N) : ∃ s', F_X11_delivers N (nI g) (sA t 0 s) = some (sA t 0 s') ∧ RM (sift (fDel g) (Hl A) [] A) s' := by
  have hL := Inv_l hI
  unfold F_X11_delivers
  have key := lpN_up (f := fun z => st_X11_delivers_2 N (nI g) z.1 z.2) (fun i (x : Int32 × HV) => ∃ K B s', x = (nI K.length, sA t 0 s') ∧ RM B s' ∧ Hl B = K ++ (Hl A).drop i ∧ Inv B T ∧ sift (fDel g) ((Hl A).drop i) K B = sift (fDel g) (Hl A) [] A) (fun r => ∃ s', r = sA t 0 s' ∧ RM (sift (fDel g) (Hl A) [] A) s') (n := (Hl A).length) (N := N) (x0 := (0, sA t 0 s)) (by omega) ⟨[], A, s, rfl, hM, rfl, hI, rfl⟩ (fun i x hi hP => ?_) (fun x hP => ?_)
  · obtain ⟨r, e, s', rfl, h⟩ := key
    exact ⟨s', e, h⟩
  · obtain ⟨K, B, s', rfl, hB, hE, hJ, hS⟩ := hP
    have hd := gD_drop hi
    have hE' := hE
    rw [hd] at hE'
    have hLB := Inv_l hJ
    have hlen : (Hl B).length = K.length + (Hl A).length - i := by rw [hE, List.length_append, List.length_drop]; omega
    have hK : K.length < (Hl B).length := by omega
    have hmk : (Hl B).getD K.length bare = (Hl A).getD i bare := by rw [hE']; exact gD_at
    have hlk := hB.2.2.2.2.2.2 K.length hK
    have hlo := RMl_ok hJ K.length hK
    rw [hmk] at hlk hlo
    have h11 := hB.2.2.1.1
    have hok := Inv_lk hJ hK
    rw [hmk] at hok
    have hm1 := hok.1
    by_cases c : ((Hl A).getD i bare).1 = g
    · obtain ⟨s1, e1, r1, f1, fc⟩ := M_out (t := t) hB hJ hE' hN
      obtain ⟨s2, e2, k2, l2, f2⟩ := M_postGoes (t := t) (q := Hq B) (by rw [← hE']; exact r1.2.2.1) (by rw [← hE']; exact r1.2.2.2.2.2.2) (by rw [← hE']; exact RMl_ok hJ) hN
      have hc2 : s2 (16 + g) = Hc B (12 + g) := by rw [f2 _ (by omega) (by omega)]; exact fc 1 g hg (by decide)
      refine ⟨(nI K.length, sA t 0 (upd s2 (16 + g) (Hc B (12 + g) + 1))), ?_, K, Sl (opDel B ((Hl A).getD i bare)) (K ++ (Hl A).drop (i + 1)), _, rfl, ?_, rfl, ?_, ?_⟩
      · show st_X11_delivers_2 N (nI g) (nI K.length) (sA t 0 s') = _
        unfold st_X11_delivers_2 F_X11_postAt
        simp (disch := omega) only [L11, L14, L16, L15, L460, L760, Z_vpb, Z_ag0, Z_mul, Z_add, Z_le, Z_eq, h11, hlk.1.1, hlk.2.2, c, ↓reduceIte, if_pos, if_neg, ob1_s, lt_d, e1, e2, hc2, Z_aw0]
      · obtain ⟨q1, q2, q3, q4, q5, q6, q7⟩ := r1
        have hi2 := Inv_del hJ hE'
        refine ⟨RMf_c q1 (fun k hk => ?_), ?_, RMk_c k2 (fun k h1 h2 => pk_un (by omega)), RMr_c q4 (fun k h1 h2 => ?_), RMq_c q5 hJ.2.2.2.2.1 (fun k h1 h2 => ?_), RMp_c q6 (fun g hg => (Inv_pl hJ hg).1) (fun k h1 h2 => ?_), RMl_c l2 (RMl_ok hi2) (fun k h1 h2 => pk_un (by omega))⟩
        · rw [pk_un (by omega)]; exact f2 k (by omega) (by omega)
        · have h1 := RMc_setg (RMc_c (s' := s2) q2 (fun k h1 h2 h3 _ _ => f2 k h3 (by omega))) (c := 1) hg (by decide) (Hc B (12 + g) + 1)
          show RMc (up (Hc (opClr B ((Hl A).getD i bare).2.1 ((Hl A).getD i bare).2.2.length)) (12 + ((Hl A).getD i bare).1) (Hc (opClr B ((Hl A).getD i bare).2.1 ((Hl A).getD i bare).2.2.length) (12 + ((Hl A).getD i bare).1) + 1)) _
          rw [c]
          have e12 : Hc (opClr B ((Hl A).getD i bare).2.1 ((Hl A).getD i bare).2.2.length) (12 + g) = Hc B (12 + g) := up_n (by omega)
          rw [e12]
          exact h1
        · rw [pk_un (by omega)]; exact f2 k (by omega) (by omega)
        · rw [pk_un (by omega)]; exact f2 k (by omega) (by omega)
        · rw [pk_un (by omega)]; exact f2 k (by omega) (by omega)
      · exact Inv_del hJ hE'
      · rw [← hS, hd]
        show _ = match fDel g B ((Hl A).getD i bare) with
          | some B' => sift (fDel g) ((Hl A).drop (i + 1)) K (Sl B' (K ++ (Hl A).drop (i + 1)))
          | none => sift (fDel g) ((Hl A).drop (i + 1)) (K ++ [(Hl A).getD i bare]) B
        unfold fDel
        rw [if_pos c]
    · refine ⟨(nI (K.length + 1), sA t 0 s'), ?_, K ++ [(Hl A).getD i bare], B, s', by rw [List.length_append]; rfl, hB, by rw [hE', List.append_assoc]; rfl, hJ, ?_⟩
      · show st_X11_delivers_2 N (nI g) (nI K.length) (sA t 0 s') = _
        unfold st_X11_delivers_2 F_X11_postAt
        simp (disch := omega) only [L1, L11, L14, L15, L460, L760, Z_vpb, Z_ag0, Z_mul, Z_add, Z_le, Z_eq, h11, hlk.2.2, c, ↓reduceIte, if_pos, if_neg]
      · rw [← hS, hd]
        show _ = match fDel g B ((Hl A).getD i bare) with
          | some B' => sift (fDel g) ((Hl A).drop (i + 1)) K (Sl B' (K ++ (Hl A).drop (i + 1)))
          | none => sift (fDel g) ((Hl A).drop (i + 1)) (K ++ [(Hl A).getD i bare]) B
        unfold fDel
        rw [if_neg c]
  · obtain ⟨K, B, s', rfl, hB, hE, hJ, hS⟩ := hP
    rw [List.drop_length] at hE hS
    rw [List.append_nil] at hE
    refine ⟨sA t 0 s', ?_, s', rfl, by rw [← hS]; exact hB⟩
    show st_X11_delivers_2 N (nI g) (nI K.length) (sA t 0 s') = _
    have h11 := hB.2.2.1.1
    have hLB := Inv_l hJ
    rw [hE] at h11 hLB
    unfold st_X11_delivers_2
    simp (disch := omega) only [L11, L760, Z_vpb, Z_ag0, Z_le, h11, if_pos]
