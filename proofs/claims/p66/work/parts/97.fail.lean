/-! ===== failing ===== -/
def lostB (R : Nat → Nat → Nat) (s n : Nat) : Bool := (fstF (fun x => decide (R 2 x = 0)) n s).isSome
theorem lostB_0 {R : Nat → Nat → Nat} {s : Nat} : lostB R s 0 = false := rfl
theorem up_co {α : Type} {f : Nat → α} {i j : Nat} {a b : α} (h : i ≠ j) : up (up f i a) j b = up (up f j b) i a := by
  funext k
  by_cases c : k = i
  · subst c
    rw [up_n h, up_s, up_s]
  · by_cases c2 : k = j
    · subst c2
      rw [up_s, up_n c, up_s]
    · rw [up_n c2, up_n c, up_n c, up_n c2]
theorem C_lost {R : Nat → Nat → Nat} {h : Nat → HV} (hr : RHr R (h 0)) (hb : ∀ k, R 2 k < 2 ^ 24) {N s n : Nat} (hs : s + n ≤ 40) (hN : 40 < N) : F_X5_lostTwig N (nI s) (nI n) h = some (lostB R s n) := by
  unfold F_X5_lostTwig
  have key := lp_fst (f := fun z => st_X5_lostTwig_2 N (nI s) (nI n) z h) (p := fun x => decide (R 2 x = 0)) (x := fun j => nI j) (r := fun _ => true) (r0 := false) (n := n) (i := s) (N := N) (by omega) (fun j h1 h2 h3 => ?_) (fun j h1 h2 h3 => ?_) ?_
  · rw [key]
    unfold lostB
    cases fstF (fun x => decide (R 2 x = 0)) n s <;> rfl
  · show st_X5_lostTwig_2 N (nI s) (nI n) (nI j) h = _
    have b := hb j
    have h4 : R 2 j = 0 := of_decide_eq_true h3
    unfold st_X5_lostTwig_2
    rw [RHr_get hr (by decide) (by omega)]
    simp (disch := omega) only [L0, L1, Z_add, Z_le, Z_eq, if_neg, if_pos, h4, ↓reduceIte]
  · show st_X5_lostTwig_2 N (nI s) (nI n) (nI j) h = _
    have b := hb j
    have h4 : ¬ R 2 j = 0 := of_decide_eq_false h3
    unfold st_X5_lostTwig_2
    rw [RHr_get hr (by decide) (by omega)]
    simp (disch := omega) only [L0, L1, Z_add, Z_le, Z_eq, if_neg, if_pos, h4, ↓reduceIte]
  · show st_X5_lostTwig_2 N (nI s) (nI n) (nI (s + n)) h = _
    unfold st_X5_lostTwig_2
    simp (disch := omega) only [Z_add, Z_le, if_pos]
def opF1 (A : AS) (g : Nat) : AS := Sc A (up (Hc A) (14 + g) (Hc A (14 + g) + 1))
def opF2 (A : AS) (g : Nat) (w : List Nat) : AS := if (Hq A g).length < 8 then Sq (opF1 A g) (up (Hq A) g (Hq A g ++ [w])) else Sc (opF1 A g) (up (Hc (opF1 A g)) (16 + g) (Hc (opF1 A g) (16 + g) + 1))
def opFail (A : AS) (m : Msg) : AS := opClr (opF2 A m.1 m.2.2) m.2.1 m.2.2.length
theorem opF2_n {A : AS} {g : Nat} {w : List Nat} : Hn (opF2 A g w) = Hn A := by unfold opF2; split <;> rfl
theorem opF2_r {A : AS} {g : Nat} {w : List Nat} : Hr (opF2 A g w) = Hr A := by unfold opF2; split <;> rfl
theorem opF2_p {A : AS} {g : Nat} {w : List Nat} : Hp (opF2 A g w) = Hp A := by unfold opF2; split <;> rfl
theorem opF2_l {A : AS} {g : Nat} {w : List Nat} : Hl (opF2 A g w) = Hl A := by unfold opF2; split <;> rfl
theorem opFail_n {A : AS} {m : Msg} : Hn (opFail A m) = Hn A := (show Hn (opFail A m) = Hn (opF2 A m.1 m.2.2) from rfl).trans opF2_n
theorem opFail_r {A : AS} {m : Msg} : Hr (opFail A m) = clrR (Hr A) m.2.1 m.2.2.length := by
  show clrR (Hr (opF2 A m.1 m.2.2)) _ _ = _
  rw [opF2_r]
theorem opFail_p {A : AS} {m : Msg} : Hp (opFail A m) = Hp A := (show Hp (opFail A m) = Hp (opF2 A m.1 m.2.2) from rfl).trans opF2_p
theorem opFail_l {A : AS} {m : Msg} : Hl (opFail A m) = Hl A := (show Hl (opFail A m) = Hl (opF2 A m.1 m.2.2) from rfl).trans opF2_l
theorem opFail_q {A : AS} {m : Msg} (hq : okQu (Hq A)) (hw : okW m.2.2) : okQu (Hq (opFail A m)) := by
  show okQu (Hq (opF2 A m.1 m.2.2))
  unfold opF2
  by_cases c : (Hq A m.1).length < 8
  · rw [if_pos c]
    intro g' hg'
    show (up (Hq A) m.1 _ g').length ≤ 8 ∧ ∀ w ∈ up (Hq A) m.1 _ g', okW w
    by_cases e : g' = m.1
    · subst e
      rw [up_s, List.length_append]
      refine ⟨by show _ + 1 ≤ 8; omega, fun w hw2 => ?_⟩
      rcases List.mem_append.mp hw2 with h | h
      · exact (hq _ hg').2 w h
      · rw [List.mem_singleton.mp h]; exact hw
    · rw [up_n e]; exact hq g' hg'
  · rw [if_neg c]; exact hq
theorem C_fail {A : AS} {T : Nat} {h : Nat → HV} (hH : RC0 A h) (hI : Inv A T) {m : Msg} (hm : okMs (Hr A) (Hn A 0) m) {N : Nat} (hN : 40 < N) : ∃ h', F_X5_fail N (nI m.1) (nI m.2.1) (nI m.2.2.length) h = some h' ∧ RC0 (opFail A m) h' ∧ h' 3 = h 3 := by
  have bI := hI
  obtain ⟨hT, ⟨⟨b0, b0'⟩, ⟨b1, b1'⟩, b2, ⟨b3, b3'⟩, ⟨b4, b4'⟩, ⟨b5, b5'⟩, b6, b7⟩, hRw, hNs, hQu, hPr, hVm⟩ := id hI
  obtain ⟨hg, hw, h40, hlt⟩ := hm
  have h12 := hw.2.1
  have hq8 := (hQu m.1 hg).1
  have h8 : (h (1 + m.1)).1 8 = Hc A (14 + m.1) := (hH.2 m.1 hg).1 2 (by decide)
  have h2 : (h (1 + m.1)).1 2 = nI (Hq A m.1).length := (hH.2 m.1 hg).2.2.1
  have hB1 := RC0_cnt hH (g := m.1) (c := 2) hg (by decide) ((h (1 + m.1)).1 8 + 1)
  generalize hh1 : up h (1 + m.1) (sS (h (1 + m.1)) (6 + 2) ((h (1 + m.1)).1 8 + 1)) = h1 at hB1
  have hh1' : up h (1 + m.1) (sS (h (1 + m.1)) 8 ((h (1 + m.1)).1 8 + 1)) = h1 := hh1
  have hB1' : RC0 (opF1 A m.1) h1 := by rw [h8] at hB1; exact hB1
  have h13 : h1 3 = h 3 := by rw [← hh1]; exact up_n (by omega)
  have h12' : (h1 (1 + m.1)).1 2 = nI (Hq A m.1).length := (hB1'.2 m.1 hg).2.2.1
  by_cases c : (Hq A m.1).length < 8
  · have hen := C_enqueue (hB1'.2 m.1 hg).2.2 (show (Hq (opF1 A m.1) m.1).length < 8 from c) (fun k hk => (Inv_qw bI hg hk).2.1) (src := (h1 0).2 4) (n2 := 40) (a := m.2.1) (w := m.2.2) (by decide) (by omega) h12 (fun x hx => by
      rw [hB1'.1.2.2 4 _ (by decide) (by omega)]
      exact congrArg nI (hlt x hx))
    have hB2 : RC0 (opF2 A m.1 m.2.2) (up h1 (1 + m.1) (F_X4_enqueue ((h1 0).2 4) 40 (nI m.2.1) (nI m.2.2.length) (h1 (1 + m.1)))) := by
      unfold opF2
      rw [if_pos c]
      refine ⟨?_, fun g' hg' => ?_⟩
      · rw [up_n (by omega)]; exact hB1'.1
      · by_cases e : g' = m.1
        · subst e
          rw [up_s]
          obtain ⟨q1, q2, q3⟩ := hB1'.2 m.1 hg
          refine ⟨RGc_1 q1 (fun i i1 i2 => hen.2 i (by omega)), RGp_1 q2 (fun i i1 i2 => hen.2 i (by omega)), ?_⟩
          show RGq (up (Hq A) m.1 _ m.1) _
          rw [up_s]
          exact hen.1
        · rw [up_n (by omega)]
          obtain ⟨q1, q2, q3⟩ := hB1'.2 g' hg'
          refine ⟨q1, q2, ?_⟩
          show RGq (up (Hq A) m.1 _ g') _
          rw [up_n e]
          exact q3
    have hR2 : RH (opF1 A m.1) ((up h1 (1 + m.1) (F_X4_enqueue ((h1 0).2 4) 40 (nI m.2.1) (nI m.2.2.length) (h1 (1 + m.1)))) 0) := by
      rw [up_n (by omega)]; exact hB1'.1
    obtain ⟨h9, e9, r9, f9⟩ := C_clr hR2 (show Inv (opF1 A m.1) T from bI) (N := N) (s := m.2.1) (n := m.2.2.length) (by omega) hN
    refine ⟨h9, ?_, RC0_clr hB2 ?_ f9, ?_⟩
    · unfold F_X5_fail
      simp (disch := omega) only [L8, lt_d, Z_gsel hg]
      rw [hh1', h12']
      simp (disch := omega) only [Z_le, if_neg, e9, ob1_s]
    · have e2 : opF2 A m.1 m.2.2 = Sq (opF1 A m.1) (up (Hq A) m.1 (Hq A m.1 ++ [m.2.2])) := if_pos c
      rw [e2]
      exact r9
    · rw [f9 3 (by decide), up_n (by omega), h13]
  · have e16 : (h1 (1 + m.1)).1 9 = Hc (opF1 A m.1) (16 + m.1) := (hB1'.2 m.1 hg).1 3 (by decide)
    have hB2 := RC0_cnt hB1' (g := m.1) (c := 3) hg (by decide) ((h1 (1 + m.1)).1 9 + 1)
    have e2 : opF2 A m.1 m.2.2 = Sc (opF1 A m.1) (up (Hc (opF1 A m.1)) (16 + m.1) (Hc (opF1 A m.1) (16 + m.1) + 1)) := if_neg c
    have hB2' : RC0 (opF2 A m.1 m.2.2) (up h1 (1 + m.1) (sS (h1 (1 + m.1)) 9 ((h1 (1 + m.1)).1 9 + 1))) := by
      rw [e2, ← e16]
      exact hB2
    have hI2 : Inv (opF2 A m.1 m.2.2) T := by rw [e2]; exact bI
    obtain ⟨h9, e9, r9, f9⟩ := C_clr hB2'.1 hI2 (N := N) (s := m.2.1) (n := m.2.2.length) (by omega) hN
    refine ⟨h9, ?_, RC0_clr hB2' r9 f9, ?_⟩
    · unfold F_X5_fail
      simp (disch := omega) only [L8, lt_d, Z_gsel hg]
      rw [hh1', h12']
      simp (disch := omega) only [Z_le, if_pos]
      rw [e9, ob1_s]
    · rw [f9 3 (by decide), up_n (by omega), h13]
def opFIP (A : AS) (g : Nat) : AS := if lostB (Hr A) (Hp A g).2.1 (Hp A g).1 = true then Sp (opFail A (g, (Hp A g).2.1, (Hp A g).2.2)) (up (Hp A) g bare) else A
theorem lost_ne {A : AS} {T g : Nat} (hI : Inv A T) (hg : g < 2) (h : lostB (Hr A) (Hp A g).2.1 (Hp A g).1 = true) : (Hp A g).2.2 ≠ [] := fun e => by
  have := (hI.2.2.2.2.2.1 g hg).1 e
  rw [this] at h
  cases h
theorem Inv_fip {A : AS} {T g : Nat} (hI : Inv A T) (hg : g < 2) : Inv (opFIP A g) T := by
  unfold opFIP
  by_cases c : lostB (Hr A) (Hp A g).2.1 (Hp A g).1 = true
  · rw [if_pos c]
    have hw := lost_ne hI hg c
    have hok := Inv_m hI (msgs_p hg hw)
    have bI := hI
    obtain ⟨hT, ⟨⟨b0, b0'⟩, ⟨b1, b1'⟩, b2, ⟨b3, b3'⟩, ⟨b4, b4'⟩, ⟨b5, b5'⟩, b6, b7⟩, hRw, hNs, hQu, hPr, hVm⟩ := id hI
    refine Inv_rm (m := (g, (Hp A g).2.1, (Hp A g).2.2)) bI opFail_n opFail_r (opFail_q hQu hok.2.1) (fun g' hg' => ?_) ?_
    · show okPr _ (up (Hp A) g bare g')
      by_cases e : g' = g
      · subst e; rw [up_s]; exact okPr_bare
      · rw [up_n e]; exact hPr g' hg'
    · have e : ∀ g', g' ≠ g → prg (Sp (opFail A (g, (Hp A g).2.1, (Hp A g).2.2)) (up (Hp A) g bare)) g' = prg A g' := fun g' h => by
        unfold prg
        show (if (up (Hp A) g bare g').2.2 = [] then [] else [(g', (up (Hp A) g bare g').2.1, (up (Hp A) g bare g').2.2)]) = _
        rw [up_n h]
      have e2 : prg (Sp (opFail A (g, (Hp A g).2.1, (Hp A g).2.2)) (up (Hp A) g bare)) g = [] := by
        unfold prg
        show (if (up (Hp A) g bare g).2.2 = [] then [] else _) = _
        rw [up_s]
        exact if_pos rfl
      have e3 : Hl (Sp (opFail A (g, (Hp A g).2.1, (Hp A g).2.2)) (up (Hp A) g bare)) = Hl A := opFail_l
      unfold msgs
      rw [e3]
      match g, hg with
      | 0, _ =>
        rw [e2, e 1 (by omega), prg_1 hw]
        exact List.Perm.refl _
      | 1, _ =>
        rw [e2, e 0 (by omega), prg_1 hw]
        exact List.perm_middle
  · rw [if_neg c]; exact hI
theorem C_fip {A : AS} {T : Nat} {h : Nat → HV} (hH : RC A h) (hI : Inv A T) {N g : Nat} (hg : g < 2) (hN : 40 < N) : ∃ h', F_X5_failInProgress N (nI g) h = some h' ∧ RC (opFIP A g) h' := by
  obtain ⟨hC, hP⟩ := hH
  obtain ⟨p1, p2, p3⟩ := (hC.2 g hg).2.1
  have hpl := Inv_pl hI hg
  have hlo := C_lost (N := N) (s := (Hp A g).2.1) (n := (Hp A g).1) hC.1.2.2 (fun k => Inv_b hI k (by decide)) (by omega) hN
  unfold opFIP F_X5_failInProgress
  rw [Z_gsel hg, p1, p2, p3, hlo, ob1_s]
  by_cases c : lostB (Hr A) (Hp A g).2.1 (Hp A g).1 = true
  · rw [if_pos c, if_pos c]
    have hw := lost_ne hI hg c
    have hok := Inv_m hI (msgs_p hg hw)
    obtain ⟨h3, e3, r3, f3⟩ := C_fail hC hI hok hN
    dsimp only at e3
    rw [e3, ob1_s]
    refine ⟨up h3 (1 + g) (F_X4_stopWriting (h3 (1 + g))), rfl, ⟨?_, fun g' hg' => ?_⟩, ?_⟩
    · rw [up_n (by omega)]; exact r3.1
    · by_cases e : g' = g
      · subst e
        rw [up_s]
        exact RG_stop (r3.2 g' hg') rfl (show up (Hp A) g' bare g' = bare from up_s) rfl
      · rw [up_n (by omega)]
        obtain ⟨q1, q2, q3⟩ := r3.2 g' hg'
        refine ⟨q1, ?_, q3⟩
        show RGp (up (Hp A) g bare g') _
        rw [up_n e]
        rw [opFail_p] at q2
        exact q2
    · rw [up_n (by omega), f3]
      show RP (Hl (opFail A _)) _
      rw [opFail_l]
      exact hP
  · rw [if_neg c, if_neg c]
    exact ⟨h, rfl, hC, hP⟩
def fFail (A : AS) (m : Msg) : Option AS := if lostB (Hr A) m.2.1 m.2.2.length = true then some (opFail A m) else none
theorem Inv_failP {A : AS} {T : Nat} {m : Msg} {K M : List Msg} (hI : Inv A T) (e : Hl A = K ++ m :: M) : Inv (Sl (opFail A m) (K ++ M)) T := by
  have hok := Inv_m hI (msgs_l (m := m) (by rw [e]; exact List.mem_append_right _ List.mem_cons_self))
  refine Inv_rm (m := m) hI opFail_n opFail_r (opFail_q hI.2.2.2.2.1 hok.2.1) (fun g hg => ?_) ?_
  · show okPr _ (Hp (opFail A m) g)
    rw [opFail_p]
    exact hI.2.2.2.2.2.1 g hg
  · have e2 : ∀ g, prg (Sl (opFail A m) (K ++ M)) g = prg A g := fun g => by
      unfold prg
      show (if (Hp (opFail A m) g).2.2 = [] then [] else _) = _
      show (if (Hp (opFail A m) g).2.2 = [] then [] else [(g, (Hp (opFail A m) g).2.1, (Hp (opFail A m) g).2.2)]) = _
      rw [opFail_p]
    unfold msgs
    rw [e2, e2, e]
    exact pm_l
theorem C_failPosted {A : AS} {T : Nat} {h : Nat → HV} (hH : RC A h) (hI : Inv A T) {N : Nat} (hN : 40 < N) : ∃ h', F_X5_failPosted N h = some h' ∧ RC (sift fFail (Hl A) [] A) h' ∧ Inv (sift fFail (Hl A) [] A) T := by
  have hL := Inv_l hI
  have h5 := hI.2.1.1.2
  unfold F_X5_failPosted F_X7_startSifting
  simp only [lt_d, lt2_d]
  rw [hH.2.1]
  refine lpN_up (fun i x => ∃ K B, x.1 = nI i ∧ RC0 B x.2 ∧ RPx K i (Hl A) (x.2 3) ∧ Hl B = K ++ (Hl A).drop i ∧ Inv B T ∧ sift fFail ((Hl A).drop i) K B = sift fFail (Hl A) [] A) _ (n := (Hl A).length) (by omega) ⟨[], A, rfl, ?_, ?_, rfl, hI, rfl⟩ (fun i x hi hP => ?_) (fun x hP => ?_)
  · refine ⟨?_, fun g hg => ?_⟩
    · exact hH.1.1
    · show RG A g (up h 3 _ (1 + g))
      rw [up_n (by omega)]
      exact hH.1.2 g hg
  · show RPx [] 0 (Hl A) (up h 3 _ 3)
    rw [up_s]
    exact ⟨sS_1, Nat.le_refl _, fun k hk => absurd hk (Nat.not_lt_zero k), fun k _ hk => hH.2.2 k hk⟩
  · obtain ⟨K, B, e1, hB, hX, hE, hJ, hS⟩ := hP
    obtain ⟨x1, x2⟩ := x
    dsimp only at e1 hB hX
    cases e1
    have hd := gD_drop hi
    have hm : (Hl A).getD i bare ∈ Hl B := by
      rw [hE, hd]
      exact List.mem_append_right _ (List.mem_cons_self)
    have hok := Inv_m hJ (msgs_l hm)
    have h6 := hJ.2.1.1.2
    obtain ⟨a1, a2, a3⟩ := hX.2.2.2 i (Nat.le_refl _) hi
    have e : ∀ r : Nat → Int32, rget 20 r (nI i) = r i := fun r => by rw [Z_rget (by omega) (by decide), if_pos (by omega)]
    have hlo := C_lost (N := N) (s := ((Hl A).getD i bare).2.1) (n := ((Hl A).getD i bare).2.2.length) hB.1.2.2 (fun k => Inv_b hJ k (by decide)) (by have := hok.2.2.1; omega) hN
    by_cases c : lostB (Hr B) ((Hl A).getD i bare).2.1 ((Hl A).getD i bare).2.2.length = true
    · obtain ⟨h9, e9, r9, f9⟩ := C_fail hB hJ hok hN
      refine ⟨(nI (i + 1), h9), ?_, K, Sl (opFail B ((Hl A).getD i bare)) (K ++ (Hl A).drop (i + 1)), rfl, r9, ?_, rfl, ?_, ?_⟩
      · show st_X5_failPosted_10 N (nI (Hl A).length) (nI i) x2 = _
        unfold st_X5_failPosted_10
        rw [e, e, e, a1, a2, a3, hlo, e9]
        simp (disch := omega) only [L1, Z_le, Z_add, c, ↓reduceIte, if_pos, if_neg, ob1_s, lt_d]
      · show RPx K (i + 1) (Hl A) (h9 3)
        rw [f9]
        exact ⟨hX.1, by have := hX.2.1; omega, hX.2.2.1, fun k hk1 hk2 => hX.2.2.2 k (by omega) hk2⟩
      · exact Inv_failP hJ (by rw [hE, hd])
      · rw [← hS, hd]
        show _ = match fFail B ((Hl A).getD i bare) with
          | some B' => sift fFail ((Hl A).drop (i + 1)) K (Sl B' (K ++ (Hl A).drop (i + 1)))
          | none => _
        unfold fFail
        rw [if_pos c]
    · refine ⟨(nI (i + 1), up x2 3 (F_X7_keep (nI i) (x2 3))), ?_, K ++ [(Hl A).getD i bare], B, rfl, ?_, ?_, ?_, hJ, ?_⟩
      · show st_X5_failPosted_10 N (nI (Hl A).length) (nI i) x2 = _
        unfold st_X5_failPosted_10
        rw [e, e, e, a1, a2, a3, hlo]
        simp (disch := omega) only [L1, Z_le, Z_add, c, ↓reduceIte, if_neg, ob1_s, lt_d, Bool.false_eq_true]
      · refine ⟨hB.1, fun g' hg' => ?_⟩
        show RG B g' (up x2 3 _ (1 + g'))
        rw [up_n (by omega)]
        exact hB.2 g' hg'
      · show RPx _ (i + 1) (Hl A) (up x2 3 _ 3)
        rw [up_s]
        exact C_keep hX hi hL
      · rw [hE, hd, List.append_assoc]
        rfl
      · rw [← hS, hd]
        show _ = match fFail B ((Hl A).getD i bare) with
          | some B' => sift fFail ((Hl A).drop (i + 1)) K (Sl B' (K ++ (Hl A).drop (i + 1)))
          | none => sift fFail ((Hl A).drop (i + 1)) (K ++ [(Hl A).getD i bare]) B
        unfold fFail
        rw [if_neg c]
  · obtain ⟨K, B, e1, hB, hX, hE, hJ, hS⟩ := hP
    obtain ⟨x1, x2⟩ := x
    dsimp only at e1 hB hX
    cases e1
    rw [List.drop_length] at hE hS
    rw [List.append_nil] at hE
    refine ⟨x2, ?_, ?_, ?_⟩
    · show st_X5_failPosted_10 N (nI (Hl A).length) (nI (Hl A).length) x2 = _
      unfold st_X5_failPosted_10
      simp (disch := omega) only [Z_le, if_pos]
    · rw [← hS]
      refine ⟨hB, ?_⟩
      show RP (Hl B) (x2 3)
      rw [hE]
      exact ⟨hX.1, hX.2.2.1⟩
    · rw [← hS]
      exact hJ
