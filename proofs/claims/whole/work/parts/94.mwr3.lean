/-! ===== writing letters: the other side, the whole ===== -/
theorem M_wrTail {A : AS} {T : Nat} {t : HV} {s : Nat → Int32} (hM : RM A s) (hI : Inv A T) {g N : Nat} (hg : g < 2) (hw : (Hp A g).2.2 ≠ []) (hN : 400 < N) : ∃ s', mwTail N (nI g) (sA t 0 s) = some (true, sA t 0 s') ∧ RM (opWr A g) s' := by
  have bI := hI
  obtain ⟨hT, ⟨⟨b0, b0'⟩, ⟨b1, b1'⟩, b2, ⟨b3, b3'⟩, ⟨b4, b4'⟩, ⟨b5, b5'⟩, b6, b7⟩, hRw, hNs, hQu, hPr, hVm⟩ := id hI
  obtain ⟨m1, m2, m3, m4⟩ := Inv_m bI (msgs_p hg hw)
  have hp1 := ((hPr g hg).2 hw).1
  have hL := Inv_l bI
  dsimp only at m1 m2 m3 m4
  obtain ⟨hf, hc, hkk, hr, hq, hp, hl⟩ := hM
  obtain ⟨p3, p4, p5⟩ := (hp g hg).2 hw
  have p0 := (hp g hg).1
  have h12 := m2.2.1
  have hlet := p3.2 _ hp1
  have hbk : 0 < Hr A 4 ((Hp A g).2.1 + (Hp A g).1) := by
    rw [m4 _ hp1]
    have := (m2.2.2 _ hp1).1
    omega
  obtain ⟨s1, e1, r1, c1, f1⟩ := M_tw (t := t) hr hc (k := (Hp A g).2.1 + (Hp A g).1) (c := (Hp A g).2.2.getD (Hp A g).1 0) (o := g) (l := 1) (f := 1) (by omega) (by decide) (by rw [if_pos hbk])
  have hpl := fun g' (hg' : g' < 2) => (Inv_pl bI hg').1
  have q14 : s1 (430 + 15 * g + 14) = nI (Hp A g).1 := by rw [f1 _ (by omega) (by omega)]; exact p5
  have q0 : s1 (430 + 15 * g) = nI (Hp A g).2.2.length := by rw [f1 _ (by omega) (by omega)]; exact p0
  have hp2 : RMp (up (Hp A) g ((Hp A g).1 + 1, (Hp A g).2.1, (Hp A g).2.2)) (upd s1 (430 + 15 * g + 14) (nI ((Hp A g).1 + 1))) := fun g' hg' => by
    by_cases e : g' = g
    · subst e
      rw [up_s]
      refine ⟨by rw [pk_un (by omega)]; exact q0, fun _ => ⟨(show wAt _ _ (Hp A g').2.2 from wAt_c p3 (fun j h1 h2 => ?_)), ?_, pk_us⟩⟩
      · rw [pk_un (by omega)]; exact f1 _ (by omega) (by omega)
      · rw [pk_un (by omega), f1 _ (by omega) (by omega)]; exact p4
    · rw [up_n e]
      have hpl' := hpl g' hg'
      have ec : ∀ j, 430 + 15 * g' ≤ j → j < 430 + 15 * g' + 15 → upd s1 (430 + 15 * g + 14) (nI ((Hp A g).1 + 1)) j = s j := fun j h1 h2 => by
        rw [pk_un (by omega)]; exact f1 _ (by omega) (by omega)
      obtain ⟨p1, p2⟩ := hp g' hg'
      refine ⟨(ec _ (by omega) (by omega)).trans p1, fun h => ?_⟩
      obtain ⟨p3, p4, p5⟩ := p2 h
      exact ⟨wAt_c p3 (fun j h1 h2 => ec j (by omega) (by omega)), (ec _ (by omega) (by omega)).trans p4, (ec _ (by omega) (by omega)).trans p5⟩
  have hk2 : RMk (Hq A) (Hl A) (upd s1 (430 + 15 * g + 14) (nI ((Hp A g).1 + 1))) := RMk_c hkk (fun j h1 h2 => by rw [pk_un (by omega)]; exact f1 _ (by omega) (by omega))
  have hl2 : RMl (Hl A) (upd s1 (430 + 15 * g + 14) (nI ((Hp A g).1 + 1))) := RMl_c hl (RMl_ok bI) (fun j h1 h2 => by rw [pk_un (by omega)]; exact f1 _ (by omega) (by omega))
  have hn2 : RMf (Hn A) (upd s1 (430 + 15 * g + 14) (nI ((Hp A g).1 + 1))) := RMf_c hf (fun j h1 => by rw [pk_un (by omega)]; exact f1 _ (by omega) (by omega))
  have hc2 : RMc (up (Hc A) 0 (Hc A 0 + 1)) (upd s1 (430 + 15 * g + 14) (nI ((Hp A g).1 + 1))) := RMc_c c1 (fun j h1 h2 _ _ _ => pk_un (by omega))
  have hr2 : RMr (twR (Hr A) ((Hp A g).2.1 + (Hp A g).1) ((Hp A g).2.2.getD (Hp A g).1 0) g 1) (upd s1 (430 + 15 * g + 14) (nI ((Hp A g).1 + 1))) := RMr_c r1 (fun j h1 h2 => pk_un (by omega))
  have hq2 : RMq (Hq A) (upd s1 (430 + 15 * g + 14) (nI ((Hp A g).1 + 1))) := RMq_c hq hQu (fun j h1 h2 => by rw [pk_un (by omega)]; exact f1 _ (by omega) (by omega))
  have hlet' : s (430 + 15 * g + 1 + (Hp A g).1) = nI ((Hp A g).2.2.getD (Hp A g).1 0) := hlet
  have hstep : mwTail N (nI g) (sA t 0 s) = if (Hp A g).1 + 1 = (Hp A g).2.2.length then (ob1 (F_X11_posts N (nI g) (sA t 0 (upd s1 (430 + 15 * g + 14) (nI ((Hp A g).1 + 1))))) fun t13 => some (true, t13)) else some (true, sA t 0 (upd s1 (430 + 15 * g + 14) (nI ((Hp A g).1 + 1)))) := by
    unfold mwTail F_X11_progressOf
    simp (disch := omega) only [L1, L13, L14, L15, L430, L760, Z_vpb, Z_ag0, Z_aw0, Z_add, Z_mul, Z_eq, if_pos, p4, p5, hlet', ob1_s, lt_d, e1, q14, q0, pk_us, pk_un]
  rw [hstep]
  by_cases c : (Hp A g).1 + 1 = (Hp A g).2.2.length
  · rw [if_pos c]
    have ew : opWr A g = Sl (Sp (opTw A ((Hp A g).2.1 + (Hp A g).1) ((Hp A g).2.2.getD (Hp A g).1 0) g 1) (up (Hp A) g bare)) (Hl A ++ [(g, (Hp A g).2.1, (Hp A g).2.2)]) := if_neg (by omega)
    have hI2 := Inv_wr bI hg hw
    have hL3 : (Hl A).length < 20 := by
      have hL2 := Inv_l hI2
      rw [ew] at hL2
      have : (Hl A ++ [(g, (Hp A g).2.1, (Hp A g).2.2)]).length ≤ 20 := hL2
      rw [List.length_append] at this
      have h1 : [(g, (Hp A g).2.1, (Hp A g).2.2)].length = 1 := rfl
      omega
    have hPl : ∀ g', g' < 2 → (up (Hp A) g ((Hp A g).1 + 1, (Hp A g).2.1, (Hp A g).2.2) g').2.2.length ≤ 12 := fun g' hg' => by
      by_cases e : g' = g
      · subst e; rw [up_s]; exact h12
      · rw [up_n e]; exact hpl g' hg'
    obtain ⟨s3, e3, k3, p3, l3, f3⟩ := M_posts (t := t) hk2 hp2 hl2 hPl (RMl_ok bI) hL3 hg (by rw [up_s]; exact hw) hN
    rw [up_s] at k3 l3
    rw [up_up] at p3
    refine ⟨s3, by rw [e3]; rfl, ?_⟩
    rw [ew]
    exact ⟨RMf_c hn2 (fun j h1 => f3 j (by omega) (by omega)), RMc_c hc2 (fun j h1 h2 h3 _ _ => f3 j h3 (by omega)), k3, RMr_c hr2 (fun j h1 h2 => f3 j (by omega) (by omega)), RMq_c hq2 hQu (fun j h1 h2 => f3 j (by omega) (by omega)), p3, l3⟩
  · rw [if_neg c]
    have ew : opWr A g = Sp (opTw A ((Hp A g).2.1 + (Hp A g).1) ((Hp A g).2.2.getD (Hp A g).1 0) g 1) (up (Hp A) g ((Hp A g).1 + 1, (Hp A g).2.1, (Hp A g).2.2)) := if_pos (by omega)
    refine ⟨_, rfl, ?_⟩
    rw [ew]
    exact ⟨hn2, hc2, hk2, hr2, hq2, hp2, hl2⟩
theorem M_beg {A : AS} {T : Nat} {t : HV} {s : Nat → Int32} (hM : RM A s) (hI : Inv A T) {g k N : Nat} (hg : g < 2) (hw : (Hp A g).2.2 = []) (hf : fStart (Hr A) (Hn A 0) ((Hq A g).getD 0 []).length = some k) (hN : 400 < N) : ∃ s', F_X11_begins N (nI g) (nI k) (sA t 0 s) = some (sA t 0 s') ∧ RM (opBeg A g k ((Hq A g).getD 0 [])) s' := by
  obtain ⟨_, _, hq0⟩ := Inv_beg hI hg hw hf
  obtain ⟨hL0, f1, f2, f3, f4⟩ := fStart_fit hf
  have h40 := hI.2.1.1.2
  obtain ⟨s', e', k', q', p', f'⟩ := M_begins (t := t) hM hI hg (k := k) (by omega) hq0 hN
  obtain ⟨hf, hc, hkk, hr, hq, hp, hl⟩ := hM
  refine ⟨s', e', RMf_c hf (fun j h1 => f' j (by omega) (by omega)), RMc_c hc (fun j h1 h2 h3 h4 h5 => f' j (by omega) (by omega)), k', ?_, q', p', (show RMl (Hl A) s' from RMl_c hl (RMl_ok hI) (fun j h1 h2 => f' j (by omega) (by omega)))⟩
  refine RMr_eq (RMr_c hr (fun j h1 h2 => f' j (by omega) (by omega))) (fun a j ha hj => ?_)
  show mLet (Hr A) a j = mLet (bookR (Hr A) k ((Hq A g).getD 0 [])) a j
  by_cases c : k ≤ j ∧ j < k + ((Hq A g).getD 0 []).length
  · have h2 := (fre (f2 (j - k) (by omega))).1
    rw [show k + (j - k) = j by omega] at h2
    rw [mLet_no h2 ha, mLet_no (by rw [bookR_n (by decide)]; exact h2) ha, bookR_n (by decide)]
  · exact mLet_eq (fun b _ => (bookR_out b c).symm) ha
theorem RM_act {A : AS} {s : Nat → Int32} (hM : RM A s) (hq : okQu (Hq A)) (hP : ∀ g, g < 2 → (Hp A g).2.2.length ≤ 12) (hL : ∀ k, k < (Hl A).length → k < 20 ∧ ((Hl A).getD k bare).2.2.length ≤ 12) : RM (act A) (upd s 7 (nI (Hn A 7 - 1))) := by
  obtain ⟨h1, h2, h3, h4, h5, h6, h7⟩ := hM
  exact ⟨RMf_set h1 _, RMc_c h2 (fun j a b _ _ _ => pk_un (by omega)), RMk_c h3 (fun j a b => pk_un (by omega)), RMr_c h4 (fun j a b => pk_un (by omega)), RMq_c h5 hq (fun j a b => pk_un (by omega)), RMp_c h6 hP (fun j a b => pk_un (by omega)), (show RMl (Hl A) _ from RMl_c h7 hL (fun j a b => pk_un (by omega)))⟩
theorem M_write {T N g : Nat} {t : HV} (hg : g < 2) (hN : 400 < N) : ∀ (n M : Nat) (A : AS) (s : Nat → Int32), n < M → RM A s → Inv A T → Hn A 7 = n → ∃ s', lpN M (fun z => st_X11_writesAll_0 N (nI g) z) (sA t 0 s) = some (sA t 0 s') ∧ RM (wrAll g n A) s' := by
  intro n
  induction n with
  | zero =>
    intro M A s hM hR hI h7
    obtain ⟨M', rfl⟩ : ∃ k, M = k + 1 := ⟨M - 1, by omega⟩
    refine ⟨s, lpN_r ?_, hR⟩
    unfold st_X11_writesAll_0
    have h := hR.1 7 (by decide)
    simp (disch := omega) only [L0, L7, L760, Z_vpb, Z_ag0, h, h7, Z_le, if_pos]
  | succ n ih =>
    intro M A s hM hR hI h7
    have hb := hI.2.1.2.2.2.2.2.2.2
    obtain ⟨M', rfl⟩ : ∃ k, M = k + 1 := ⟨M - 1, by omega⟩
    have h := hR.1 7 (by decide)
    have hpr := M_isInProgress (t := t) hR.2.2.2.2.2.1 hg (Inv_pl hI hg).1
    have hfin : ∀ B s1, RM B s1 → Inv B T → (Hp B g).2.2 ≠ [] → Hn B 7 = n + 1 → F_X11_writes N (nI g) (sA t 0 s) = mwTail N (nI g) (sA t 0 s1) → ∃ s', lpN (M' + 1) (fun z => st_X11_writesAll_0 N (nI g) z) (sA t 0 s) = some (sA t 0 s') ∧ RM (wrAll g n (act (opWr B g))) s' := by
      intro B s1 hB hJ hw h7B e
      obtain ⟨s2, e2, r2⟩ := M_wrTail (t := t) hB hJ hg hw hN
      have hJ2 := Inv_wr hJ hg hw
      have h72 : Hn (opWr B g) 7 = n + 1 := by
        rw [← h7B]; unfold opWr; split <;> rfl
      have hs7 := r2.1 7 (by decide)
      have r3 := RM_act r2 hJ2.2.2.2.2.1 (fun g' hg' => (Inv_pl hJ2 hg').1) (RMl_ok hJ2)
      obtain ⟨s3, e3, r4⟩ := ih M' _ _ (by omega) r3 (Inv_act hJ2) (by show up (Hn (opWr B g)) 7 (Hn (opWr B g) 7 - 1) 7 = n; rw [up_s, h72]; rfl)
      refine ⟨s3, ?_, r4⟩
      rw [lpN_l (y := sA t 0 (upd s2 7 (nI (Hn (opWr B g) 7 - 1))))]
      · exact e3
      · unfold st_X11_writesAll_0
        simp (disch := omega) only [L0, L1, L7, L760, Z_vpb, Z_ag0, Z_aw0, h, h7, Z_le, if_pos, if_neg, e, e2, ob_s, hs7, h72, Z_sub, lt_d, ↓reduceIte]
    unfold wrAll
    by_cases c : (Hp A g).2.2 ≠ []
    · rw [if_pos c]
      exact hfin A s hR hI c h7 (by rw [mw_eq, hpr, ob1_s, if_pos (by simpa using c)])
    · rw [if_neg c]
      have c' : (Hp A g).2.2 = [] := Classical.byContradiction c
      have hst := M_startOfNext (t := t) hR hI (N := N) hg (by omega)
      have hno : F_X11_writes N (nI g) (sA t 0 s) = (ob1 (F_X11_startOfNext N (nI g) (sA t 0 s)) fun v14 => (if v14 = (-1) then some (false, sA t 0 s) else (ob1 (F_X11_begins N (nI g) v14 (sA t 0 s)) fun t16 => mwTail N (nI g) t16))) := by
        rw [mw_eq, hpr, ob1_s, if_neg (by simpa using c)]
      cases hf : fStart (Hr A) (Hn A 0) ((Hq A g).getD 0 []).length with
      | none =>
        refine ⟨s, lpN_r ?_, hR⟩
        rw [hst, hf, ob1_s, if_pos (show oI none = -1 from rfl)] at hno
        unfold st_X11_writesAll_0
        simp (disch := omega) only [L0, L7, L760, Z_vpb, Z_ag0, h, h7, Z_le, if_pos, if_neg, hno, ob_s, ↓reduceIte, Bool.false_eq_true]
      | some k =>
        obtain ⟨i1, i2, _⟩ := Inv_beg hI hg c' hf
        obtain ⟨s1, e1, r1⟩ := M_beg (t := t) hR hI hg c' hf hN
        have f1 := (fStart_fit hf).2.1
        have h40 := hI.2.1.1.2
        refine hfin _ s1 r1 i1 i2 h7 ?_
        rw [hno, hst, hf, ob1_s, if_neg (by show ¬ (nI k = -1); rw [Z_m1 (by omega)]; exact not_false)]
        show (ob1 (F_X11_begins N (nI g) (nI k) (sA t 0 s)) fun t16 => mwTail N (nI g) t16) = _
        rw [e1, ob1_s]
