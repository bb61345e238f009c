/-! ===== writing letters: the other side, on ===== -/
theorem M_begins {A : AS} {T : Nat} {t : HV} {s : Nat → Int32} (hM : RM A s) (hI : Inv A T) {g k N : Nat} (hg : g < 2) (hk : k < 2 ^ 20) (hq0 : 0 < (Hq A g).length) (hN : 400 < N) : ∃ s', F_X11_begins N (nI g) (nI k) (sA t 0 s) = some (sA t 0 s') ∧ RMk (up (Hq A) g ((Hq A g).eraseIdx 0)) (Hl A) s' ∧ RMq (up (Hq A) g ((Hq A g).eraseIdx 0)) s' ∧ RMp (up (Hp A) g (0, k, (Hq A g).getD 0 [])) s' ∧ ∀ j, j ≠ 12 + g → (j < 222 ∨ 460 ≤ j) → s' j = s j := by
  have bI := hI
  obtain ⟨hT, ⟨⟨b0, b0'⟩, ⟨b1, b1'⟩, b2, ⟨b3, b3'⟩, ⟨b4, b4'⟩, ⟨b5, b5'⟩, b6, b7⟩, hRw, hNs, hQu, hPr, hVm⟩ := id hI
  obtain ⟨hf, hc, hkk, hr, hq, hp, hl⟩ := hM
  have hwd := Inv_qw bI hg hq0
  have h12 := hwd.2.1
  have hwq := hq g 0 hg hq0
  have hpl := fun g' (hg' : g' < 2) => (Inv_pl bI hg').1
  generalize hW : (Hq A g).getD 0 [] = w at *
  obtain ⟨s', e', k', q', f'⟩ := M_waitsNoMore (t := t) (s := upd (upd (va_cpy s s (222 + 13 * (8 * g + 0)) (430 + 15 * g) 13) (430 + 15 * g + 13) (nI k)) (430 + 15 * g + 14) (nI 0)) (RMk_c hkk (fun j h1 h2 => by rw [pk_un (by omega), pk_un (by omega), pk_cpy_out (by omega)])) (RMq_c hq hQu (fun j h1 h2 => by rw [pk_un (by omega), pk_un (by omega), pk_cpy_out (by omega)])) hQu (N := N) (m := 0) hg hq0 hN
  refine ⟨s', ?_, k', q', fun g' hg' => ?_, fun j h1 h2 => ?_⟩
  · unfold F_X11_begins F_X11_progressOf F_X11_waitingAt
    simp (disch := omega) only [L0, L8, L13, L15, L222, L430, Z_add, Z_mul]
    rw [show (nI 0, sA t 0 s) = (nI (0 + 0), sA t 0 s) from rfl]
    refine lp_cpy (n := 13) (c := 0) (d := 0) (from_ := 222 + 13 * (8 * g + 0)) (to := 430 + 15 * g) (j0 := 0) (t := sA t 0 s) (by omega) (fun _ => Or.inr (by omega)) (fun i t' hi e => ?_) (fun t' e => ?_)
    · subst e
      rw [sA2s, sAA, sA2s]
      show st_X11_begins_15 N (nI g) (nI k) (nI (430 + 15 * g)) (nI (222 + 13 * (8 * g + 0))) (nI (0 + i)) (sA t 0 _) = _
      unfold st_X11_begins_15
      simp (disch := omega) only [L1, L13, L760, Z_vpb, Z_ag0, Z_mul, Z_add, Z_le, if_pos, if_neg, lt_d, Z_aw0, sAA, Nat.zero_add]
    · subst e
      rw [sA2s, sAA]
      show st_X11_begins_15 N (nI g) (nI k) (nI (430 + 15 * g)) (nI (222 + 13 * (8 * g + 0))) (nI (0 + 13)) (sA t 0 _) = _
      unfold st_X11_begins_15
      simp (disch := omega) only [L0, L1, L13, L14, L760, Z_vpb, Z_ag0, Z_mul, Z_add, Z_le, if_pos, lt_d, Z_aw0, Nat.zero_add, e', ob1_s]
  · by_cases e : g' = g
    · subst e
      rw [up_s]
      have ec : ∀ j, j < 13 → s' (430 + 15 * g' + j) = s (222 + 13 * (8 * g' + 0) + j) := fun j hj => by
        rw [f' _ (by omega) (by omega), pk_un (by omega), pk_un (by omega), pk_cpy_in (by omega) (by omega)]
        congr 1
        omega
      have e0 : s' (430 + 15 * g') = nI w.length := (ec 0 (by omega)).trans hwq.1
      refine ⟨e0, fun _ => ⟨⟨e0, fun x hx => ?_⟩, ?_, ?_⟩⟩
      · dsimp only at hx ⊢
        rw [Nat.add_assoc (430 + 15 * g'), ec (1 + x) (by omega)]
        exact (congrArg s (by omega)).trans (hwq.2 x hx)
      · rw [f' _ (by omega) (by omega), pk_un (by omega), pk_us]
      · rw [f' _ (by omega) (by omega), pk_us]
    · rw [up_n e]
      have hpl' := hpl g' hg'
      have ec : ∀ j, j < 15 → s' (430 + 15 * g' + j) = s (430 + 15 * g' + j) := fun j hj => by
        rw [f' _ (by omega) (by omega), pk_un (by omega), pk_un (by omega), pk_cpy_out (by omega)]
      obtain ⟨p1, p2⟩ := hp g' hg'
      refine ⟨(ec 0 (by omega)).trans p1, fun h => ?_⟩
      obtain ⟨p3, p4, p5⟩ := p2 h
      refine ⟨wAt_c p3 (fun j h1 h2 => ?_), (ec 13 (by omega)).trans p4, (ec 14 (by omega)).trans p5⟩
      have := ec (j - (430 + 15 * g')) (by omega)
      rw [show 430 + 15 * g' + (j - (430 + 15 * g')) = j by omega] at this
      exact this
  · rw [f' j h1 (by omega), pk_un (by omega), pk_un (by omega), pk_cpy_out (by omega)]
theorem M_posts {q : Nat → List (List Nat)} {P : Nat → Nat × Nat × List Nat} {L : List Msg} {t : HV} {s : Nat → Int32} (hk : RMk q L s) (hp : RMp P s) (hl : RMl L s) (hP : ∀ g, g < 2 → (P g).2.2.length ≤ 12) (hL : ∀ k, k < L.length → k < 20 ∧ (L.getD k bare).2.2.length ≤ 12) (h19 : L.length < 20) {g N : Nat} (hg : g < 2) (hne : (P g).2.2 ≠ []) (hN : 400 < N) : ∃ s', F_X11_posts N (nI g) (sA t 0 s) = some (sA t 0 s') ∧ RMk q (L ++ [(g, (P g).2.1, (P g).2.2)]) s' ∧ RMp (up P g bare) s' ∧ RMl (L ++ [(g, (P g).2.1, (P g).2.2)]) s' ∧ ∀ j, j ≠ 11 → j < 430 → s' j = s j := by
  have hlen : (L ++ [(g, (P g).2.1, (P g).2.2)]).length = L.length + 1 := by rw [List.length_append]; rfl
  have h11 := hk.1
  have hpl := hP g hg
  refine ⟨upd (upd (upd (va_cpy s s (430 + 15 * g) (460 + 15 * L.length) 15) (460 + 15 * L.length + 14) (nI g)) (430 + 15 * g) (nI 0)) 11 (nI (L.length + 1)), ?_, ?_, ?_, ?_, ?_⟩
  · unfold F_X11_posts F_X11_postAt F_X11_progressOf
    simp (disch := omega) only [L0, L11, L15, L430, L460, L760, Z_vpb, Z_ag0, h11, lt_d, if_pos, Z_add, Z_mul]
    rw [show (nI 0, sA t 0 s) = (nI (0 + 0), sA t 0 s) from rfl]
    refine lp_cpy (n := 15) (c := 0) (d := 0) (from_ := 430 + 15 * g) (to := 460 + 15 * L.length) (j0 := 0) (t := sA t 0 s) (by omega) (fun _ => Or.inr (by omega)) (fun i t' hi e => ?_) (fun t' e => ?_)
    · subst e
      rw [sA2s, sAA, sA2s]
      show st_X11_posts_19 N (nI g) (nI (430 + 15 * g)) (nI (460 + 15 * L.length)) (nI (0 + i)) (sA t 0 _) = _
      unfold st_X11_posts_19
      simp (disch := omega) only [L1, L15, L760, Z_vpb, Z_ag0, Z_mul, Z_add, Z_le, if_pos, if_neg, lt_d, Z_aw0, sAA, Nat.zero_add]
    · subst e
      rw [sA2s, sAA]
      show st_X11_posts_19 N (nI g) (nI (430 + 15 * g)) (nI (460 + 15 * L.length)) (nI (0 + 15)) (sA t 0 _) = _
      unfold st_X11_posts_19
      have e11 : upd (upd (va_cpy s s (430 + 15 * g) (460 + 15 * L.length) 15) (460 + 15 * L.length + 14) (nI g)) (430 + 15 * g) (nI 0) 11 = nI L.length := by rw [pk_un (by omega), pk_un (by omega), pk_cpy_out (by omega)]; exact h11
      simp (disch := omega) only [L0, L1, L11, L14, L15, L760, Z_vpb, Z_ag0, Z_mul, Z_add, Z_le, if_pos, lt_d, Z_aw0, e11, Nat.zero_add]
  · refine ⟨by rw [pk_us, hlen], fun g' hg' => ?_⟩
    rw [pk_un (by omega), pk_un (by omega), pk_un (by omega), pk_cpy_out (by omega)]
    exact hk.2 g' hg'
  · intro g' hg'
    by_cases e : g' = g
    · subst e
      rw [up_s]
      exact ⟨by rw [pk_un (by omega), pk_us]; rfl, fun h => absurd rfl h⟩
    · rw [up_n e]
      have hpl' := hP g' hg'
      have ec : ∀ j, 430 + 15 * g' ≤ j → j < 430 + 15 * g' + 15 → upd (upd (upd (va_cpy s s (430 + 15 * g) (460 + 15 * L.length) 15) (460 + 15 * L.length + 14) (nI g)) (430 + 15 * g) (nI 0)) 11 (nI (L.length + 1)) j = s j := fun j h1 h2 => by
        rw [pk_un (by omega), pk_un (by omega), pk_un (by omega), pk_cpy_out (by omega)]
      obtain ⟨p1, p2⟩ := hp g' hg'
      refine ⟨(ec _ (by omega) (by omega)).trans p1, fun h => ?_⟩
      obtain ⟨p3, p4, p5⟩ := p2 h
      exact ⟨wAt_c p3 (fun j h1 h2 => ec j (by omega) (by omega)), (ec _ (by omega) (by omega)).trans p4, (ec _ (by omega) (by omega)).trans p5⟩
  · intro k hk'
    rw [hlen] at hk'
    rw [gD_app]
    by_cases c : k < L.length
    · rw [if_pos c]
      obtain ⟨h1, h2⟩ := hL k c
      obtain ⟨p3, p4, p5⟩ := hl k c
      have ec : ∀ j, 460 + 15 * k ≤ j → j < 460 + 15 * k + 15 → upd (upd (upd (va_cpy s s (430 + 15 * g) (460 + 15 * L.length) 15) (460 + 15 * L.length + 14) (nI g)) (430 + 15 * g) (nI 0)) 11 (nI (L.length + 1)) j = s j := fun j h1 h2 => by
        rw [pk_un (by omega), pk_un (by omega), pk_un (by omega), pk_cpy_out (by omega)]
      exact ⟨wAt_c p3 (fun j h1 h2 => ec j (by omega) (by omega)), (ec _ (by omega) (by omega)).trans p4, (ec _ (by omega) (by omega)).trans p5⟩
    · have ek : k = L.length := by omega
      subst ek
      rw [if_neg c, Nat.sub_self]
      show wAt _ _ (P g).2.2 ∧ _ = nI (P g).2.1 ∧ _ = nI g
      obtain ⟨p3, p4, p5⟩ := (hp g hg).2 hne
      have ec : ∀ j, j < 14 → upd (upd (upd (va_cpy s s (430 + 15 * g) (460 + 15 * L.length) 15) (460 + 15 * L.length + 14) (nI g)) (430 + 15 * g) (nI 0)) 11 (nI (L.length + 1)) (460 + 15 * L.length + j) = s (430 + 15 * g + j) := fun j hj => by
        rw [pk_un (by omega), pk_un (by omega), pk_un (by omega), pk_cpy_in (by omega) (by omega)]
        congr 1
        omega
      refine ⟨⟨(ec 0 (by omega)).trans p3.1, fun x hx => ?_⟩, (ec 13 (by omega)).trans p4, ?_⟩
      · rw [Nat.add_assoc (460 + 15 * L.length), ec (1 + x) (by omega)]
        exact (congrArg s (by omega)).trans (p3.2 x hx)
      · rw [pk_un (by omega), pk_un (by omega), pk_us]
  · intro j h1 h2
    rw [pk_un h1, pk_un (by omega), pk_un (by omega), pk_cpy_out (by omega)]
