/-! ===== writing letters ===== -/
def act (A : AS) : AS := Sn A (up (Hn A) 7 (Hn A 7 - 1))
def twR (R : Nat → Nat → Nat) (k c o l : Nat) : Nat → Nat → Nat := rowS (rowS (rowS R 0 k c) 1 k o) 2 k l
def opTw (A : AS) (k c o l : Nat) : AS := Sc (Sr A (twR (Hr A) k c o l)) (up (Hc A) 0 (Hc A 0 + 1))
def opWr (A : AS) (g : Nat) : AS := if (Hp A g).1 + 1 < (Hp A g).2.2.length then Sp (opTw A ((Hp A g).2.1 + (Hp A g).1) ((Hp A g).2.2.getD (Hp A g).1 0) g 1) (up (Hp A) g ((Hp A g).1 + 1, (Hp A g).2.1, (Hp A g).2.2)) else Sl (Sp (opTw A ((Hp A g).2.1 + (Hp A g).1) ((Hp A g).2.2.getD (Hp A g).1 0) g 1) (up (Hp A) g bare)) (Hl A ++ [(g, (Hp A g).2.1, (Hp A g).2.2)])
def bookR (R : Nat → Nat → Nat) (s : Nat) (w : List Nat) : Nat → Nat → Nat := fun a k => if a = 4 ∧ s ≤ k ∧ k < s + w.length then w.getD (k - s) 0 else R a k
def opBeg (A : AS) (g k : Nat) (w : List Nat) : AS := Sq (Sp (Sr A (bookR (Hr A) k w)) (up (Hp A) g (0, k, w))) (up (Hq A) g ((Hq A g).eraseIdx 0))
noncomputable def wrAll (g : Nat) : Nat → AS → AS
  | 0, A => A
  | n + 1, A => if (Hp A g).2.2 ≠ [] then wrAll g n (act (opWr A g)) else match fStart (Hr A) (Hn A 0) ((Hq A g).getD 0 []).length with
    | none => A
    | some k => wrAll g n (act (opWr (opBeg A g k ((Hq A g).getD 0 [])) g))
theorem pw_ne {L : List Msg} (h : L.Pairwise apt) {a b : Msg} (ha : a ∈ L) (hb : b ∈ L) (hab : a ≠ b) : apt a b := by
  induction L with
  | nil => cases ha
  | cons m L ih =>
    rw [List.pairwise_cons] at h
    rcases List.mem_cons.mp ha with e1 | ha
    · rcases List.mem_cons.mp hb with e2 | hb
      · exact absurd (e1.trans e2.symm) hab
      · rw [e1]; exact h.1 b hb
    · rcases List.mem_cons.mp hb with e2 | hb
      · rw [e2]; exact apt_sy (h.1 a ha)
      · exact ih h.2 ha hb
theorem vM_4 {R R' : Nat → Nat → Nat} {n : Nat} {L : List Msg} (h : vM R n L) (e : ∀ k, R' 4 k = R 4 k) : vM R' n L := by
  obtain ⟨h1, h2, h3⟩ := h
  refine ⟨fun m hm => ?_, fun k hk => h2 k (by rw [← e k]; exact hk), h3⟩
  obtain ⟨q1, q2, q3, q4⟩ := h1 m hm
  exact ⟨q1, q2, q3, fun x hx => (e _).trans (q4 x hx)⟩
theorem twR_ok {R : Nat → Nat → Nat} {n D k c o l : Nat} (h : okRw R n D) (hn : n ≤ 40) (hk : k < n) (hc : 97 ≤ c) (hc2 : c ≤ 122) (ho : o < 2) (hl : l ≤ 99) : okRw (twR R k c o l) n D := by
  intro j
  obtain ⟨h1, h2, h3, h4, h5, h6, h7, h8⟩ := h j
  by_cases e : j = k
  · subst e
    have e0 : twR R j c o l 0 j = c := by unfold twR rowS; rw [if_neg (by omega), if_neg (by omega), if_pos (by omega)]
    have e1 : twR R j c o l 1 j = o := by unfold twR rowS; rw [if_neg (by omega), if_pos (by omega)]
    have e2 : twR R j c o l 2 j = l := by unfold twR rowS; rw [if_pos (by omega)]
    have e3 : twR R j c o l 3 j = R 3 j := by unfold twR rowS; rw [if_neg (by omega), if_neg (by omega), if_neg (by omega)]
    have e4 : twR R j c o l 4 j = R 4 j := by unfold twR rowS; rw [if_neg (by omega), if_neg (by omega), if_neg (by omega)]
    rw [e0, e1, e2, e3, e4]
    exact ⟨fun q => by omega, fun q => by omega, fun _ => hc, hc2, ho, by omega, h7, h8⟩
  · have ee : ∀ a, twR R k c o l a j = R a j := fun a => by unfold twR rowS; rw [if_neg (by omega), if_neg (by omega), if_neg (by omega)]
    rw [ee, ee, ee, ee, ee]
    exact ⟨h1, h2, h3, h4, h5, h6, h7, h8⟩
theorem twR_2n {R : Nat → Nat → Nat} {k c o l j : Nat} (h : j ≠ k) (a : Nat) : twR R k c o l a j = R a j := by unfold twR rowS; rw [if_neg (by omega), if_neg (by omega), if_neg (by omega)]
theorem twR_34 {R : Nat → Nat → Nat} {k c o l : Nat} {a : Nat} (ha : 3 ≤ a) (j : Nat) : twR R k c o l a j = R a j := by unfold twR rowS; rw [if_neg (by omega), if_neg (by omega), if_neg (by omega)]
theorem Inv_act {A : AS} {T : Nat} (hI : Inv A T) : Inv (act A) T := by
  obtain ⟨hT, ⟨q0, q1, q2, q3, q4, q5, q6, q7⟩, hRw, hNs, hQu, hPr, hVm⟩ := hI
  have q7' : Hn A 7 - 1 ≤ 12 := by omega
  exact ⟨hT, ⟨q0, q1, q2, q3, q4, q5, q6, q7'⟩, hRw, hNs, hQu, hPr, hVm⟩
theorem Inv_tw {A B : AS} {T k c o l : Nat} (hI : Inv A T) (hk : k < Hn A 0) (hc : 97 ≤ c) (hc2 : c ≤ 122) (ho : o < 2) (hl : l ≤ 99) (eN : Hn B = Hn A) (eR : Hr B = twR (Hr A) k c o l) (hq : okQu (Hq B)) (hp : ∀ g, g < 2 → okPr (twR (Hr A) k c o l) (Hp B g)) (p : List.Perm (msgs A) (msgs B)) : Inv B T := by
  have bI := hI
  obtain ⟨hT, ⟨⟨b0, b0'⟩, ⟨b1, b1'⟩, b2, ⟨b3, b3'⟩, ⟨b4, b4'⟩, ⟨b5, b5'⟩, b6, b7⟩, hRw, hNs, hQu, hPr, hVm⟩ := id hI
  refine ⟨hT, by rw [eN]; exact bI.2.1, by rw [eN, eR]; exact twR_ok hRw b0' hk hc hc2 ho hl, ?_, hq, fun g hg => by rw [eR]; exact hp g hg, ?_⟩
  · rw [eN, eR]
    refine Nat.le_trans (Nat.le_of_eq (cnt_congr _ (fun k _ => ?_))) hNs
    unfold nstB
    rw [twR_34 (by omega)]
  · rw [eN, eR]
    exact vM_4 (vM_perm hVm p) (fun j => twR_34 (by omega) j)
theorem okPr_bare {R : Nat → Nat → Nat} : okPr R bare := ⟨fun _ => rfl, fun h => absurd rfl h⟩
theorem Inv_wr {A : AS} {T g : Nat} (hI : Inv A T) (hg : g < 2) (hw : (Hp A g).2.2 ≠ []) : Inv (opWr A g) T := by
  have bI := hI
  obtain ⟨hT, ⟨⟨b0, b0'⟩, ⟨b1, b1'⟩, b2, ⟨b3, b3'⟩, ⟨b4, b4'⟩, ⟨b5, b5'⟩, b6, b7⟩, hRw, hNs, hQu, hPr, hVm⟩ := id hI
  obtain ⟨m1, m2, m3, m4⟩ := Inv_m bI (msgs_p hg hw)
  have hp1 := ((hPr g hg).2 hw).1
  have hl := m2.2.2 _ hp1
  have hoth : ∀ g', g' < 2 → g' ≠ g → okPr (twR (Hr A) ((Hp A g).2.1 + (Hp A g).1) ((Hp A g).2.2.getD (Hp A g).1 0) g 1) (Hp A g') := fun g' hg' hne => by
    refine ⟨(hPr g' hg').1, fun h => ⟨((hPr g' hg').2 h).1, fun x hx hx2 => ?_⟩⟩
    have ha : apt _ _ := pw_ne hVm.2.2 (msgs_p hg hw) (msgs_p hg' h) (fun e => hne (congrArg Prod.fst e).symm)
    unfold apt at ha
    dsimp only at ha
    rw [twR_2n (by omega)]
    exact ((hPr g' hg').2 h).2 x hx hx2
  unfold opWr
  by_cases c : (Hp A g).1 + 1 < (Hp A g).2.2.length
  · rw [if_pos c]
    refine Inv_tw bI (k := (Hp A g).2.1 + (Hp A g).1) (c := (Hp A g).2.2.getD (Hp A g).1 0) (o := g) (l := 1) (by dsimp only at m3; omega) hl.1 hl.2 hg (by omega) rfl rfl hQu (fun g' hg' => ?_) ?_
    · show okPr _ (up (Hp A) g _ g')
      by_cases e : g' = g
      · subst e
        rw [up_s]
        refine ⟨fun q => absurd q hw, fun _ => ⟨c, fun x hx hx2 => ?_⟩⟩
        dsimp only at hx hx2 ⊢
        rw [twR_2n (by omega)]
        exact ((hPr g' hg').2 hw).2 x (by omega) hx2
      · rw [up_n e]
        exact hoth g' hg' e
    · have e : ∀ g', prg (Sp (opTw A ((Hp A g).2.1 + (Hp A g).1) ((Hp A g).2.2.getD (Hp A g).1 0) g 1) (up (Hp A) g ((Hp A g).1 + 1, (Hp A g).2.1, (Hp A g).2.2))) g' = prg A g' := fun g' => by
        unfold prg
        show (if (up (Hp A) g _ g').2.2 = [] then [] else [(g', (up (Hp A) g _ g').2.1, (up (Hp A) g _ g').2.2)]) = _
        by_cases e : g' = g
        · subst e; rw [up_s]
        · rw [up_n e]
      unfold msgs
      rw [e, e]
      exact List.Perm.refl _
  · rw [if_neg c]
    refine Inv_tw bI (k := (Hp A g).2.1 + (Hp A g).1) (c := (Hp A g).2.2.getD (Hp A g).1 0) (o := g) (l := 1) (by dsimp only at m3; omega) hl.1 hl.2 hg (by omega) rfl rfl hQu (fun g' hg' => ?_) ?_
    · show okPr _ (up (Hp A) g bare g')
      by_cases e : g' = g
      · subst e; rw [up_s]; exact okPr_bare
      · rw [up_n e]; exact hoth g' hg' e
    · have e : ∀ g', g' ≠ g → prg (Sl (Sp (opTw A ((Hp A g).2.1 + (Hp A g).1) ((Hp A g).2.2.getD (Hp A g).1 0) g 1) (up (Hp A) g bare)) (Hl A ++ [(g, (Hp A g).2.1, (Hp A g).2.2)])) g' = prg A g' := fun g' h => by
        unfold prg
        show (if (up (Hp A) g bare g').2.2 = [] then [] else [(g', (up (Hp A) g bare g').2.1, (up (Hp A) g bare g').2.2)]) = _
        rw [up_n h]
      have e2 : prg (Sl (Sp (opTw A ((Hp A g).2.1 + (Hp A g).1) ((Hp A g).2.2.getD (Hp A g).1 0) g 1) (up (Hp A) g bare)) (Hl A ++ [(g, (Hp A g).2.1, (Hp A g).2.2)])) g = [] := by
        unfold prg
        show (if (up (Hp A) g bare g).2.2 = [] then [] else _) = _
        rw [up_s]
        exact if_pos rfl
      unfold msgs
      match g, hg with
      | 0, _ =>
        rw [e2, e 1 (by omega), prg_1 hw]
        show List.Perm (_ :: (prg A 1 ++ Hl A)) (prg A 1 ++ (Hl A ++ [_]))
        rw [← List.append_assoc]
        exact (List.perm_append_singleton _ _).symm
      | 1, _ =>
        rw [e2, e 0 (by omega), prg_1 hw]
        refine List.Perm.append_left _ ?_
        exact (List.perm_append_singleton _ _).symm
theorem bookR_n {R : Nat → Nat → Nat} {s : Nat} {w : List Nat} {a : Nat} (h : a ≠ 4) (k : Nat) : bookR R s w a k = R a k := if_neg (fun q => h q.1)
theorem bookR_in {R : Nat → Nat → Nat} {s : Nat} {w : List Nat} {x : Nat} (h : x < w.length) : bookR R s w 4 (s + x) = w.getD x 0 := by
  unfold bookR
  rw [if_pos (by omega), Nat.add_sub_cancel_left]
theorem bookR_out {R : Nat → Nat → Nat} {s : Nat} {w : List Nat} {k : Nat} (a : Nat) (h : ¬ (s ≤ k ∧ k < s + w.length)) : bookR R s w a k = R a k := if_neg (fun q => h q.2)
theorem fre {R : Nat → Nat → Nat} {k : Nat} (h : freB R k = true) : R 2 k = 0 ∧ R 4 k = 0 ∧ R 3 k = 0 := by
  unfold freB at h
  exact of_decide_eq_true h
theorem Inv_beg {A : AS} {T g k : Nat} (hI : Inv A T) (hg : g < 2) (hw : (Hp A g).2.2 = []) (hf : fStart (Hr A) (Hn A 0) ((Hq A g).getD 0 []).length = some k) : Inv (opBeg A g k ((Hq A g).getD 0 [])) T ∧ (Hp (opBeg A g k ((Hq A g).getD 0 [])) g).2.2 ≠ [] ∧ 0 < (Hq A g).length := by
  have bI := hI
  obtain ⟨hT, ⟨⟨b0, b0'⟩, ⟨b1, b1'⟩, b2, ⟨b3, b3'⟩, ⟨b4, b4'⟩, ⟨b5, b5'⟩, b6, b7⟩, hRw, hNs, hQu, hPr, hVm⟩ := id hI
  obtain ⟨hL0, f1, f2, f3, f4⟩ := fStart_fit hf
  have hq0 : 0 < (Hq A g).length := by
    by_cases c : 0 < (Hq A g).length
    · exact c
    · rw [gD_no (by omega)] at hL0
      exact absurd hL0 (by decide)
  have hwd := Inv_qw bI hg hq0
  generalize hW : (Hq A g).getD 0 [] = w at *
  have hpg : Hp (opBeg A g k w) g = (0, k, w) := up_s
  have hne : w ≠ [] := fun e => by rw [e] at hL0; exact absurd hL0 (by decide)
  refine ⟨⟨hT, bI.2.1, ?_, ?_, ?_, ?_, ?_⟩, by rw [hpg]; exact hne, hq0⟩
  · intro j
    obtain ⟨h1, h2, h3, h4, h5, h6, h7, h8⟩ := hRw j
    show (_ → bookR (Hr A) k w 2 j = 0 ∧ bookR (Hr A) k w 3 j = 0 ∧ bookR (Hr A) k w 4 j = 0) ∧ (_ → bookR (Hr A) k w 0 j = 0 ∧ bookR (Hr A) k w 1 j = 0) ∧ (0 < bookR (Hr A) k w 2 j → 97 ≤ bookR (Hr A) k w 0 j) ∧ bookR (Hr A) k w 0 j ≤ 122 ∧ bookR (Hr A) k w 1 j < 2 ∧ bookR (Hr A) k w 2 j ≤ 99 + 9 * Hn A 6 ∧ bookR (Hr A) k w 3 j ≤ 30 ∧ bookR (Hr A) k w 4 j ≤ 122
    rw [bookR_n (a := 2) (by decide), bookR_n (a := 3) (by decide), bookR_n (a := 0) (by decide), bookR_n (a := 1) (by decide)]
    refine ⟨fun q => ?_, h2, h3, h4, h5, h6, h7, ?_⟩
    · have hj : Hn A 0 ≤ j := q
      have hz : ¬ (k ≤ j ∧ j < k + w.length) := by omega
      rw [bookR_out 4 hz]
      exact h1 q
    · by_cases c : k ≤ j ∧ j < k + w.length
      · have := bookR_in (R := Hr A) (s := k) (w := w) (x := j - k) (by omega)
        rw [show k + (j - k) = j by omega] at this
        rw [this]
        exact (hwd.2.2 _ (by omega)).2
      · rw [bookR_out 4 c]; exact h8
  · refine Nat.le_trans (Nat.le_of_eq (cnt_congr _ (fun j _ => ?_))) hNs
    show decide (0 < bookR (Hr A) k w 3 j) = decide (0 < Hr A 3 j)
    rw [bookR_n (by decide)]
  · intro g' hg'
    show (up (Hq A) g _ g').length ≤ 8 ∧ ∀ w ∈ up (Hq A) g _ g', okW w
    by_cases e : g' = g
    · subst e
      rw [up_s]
      refine ⟨?_, fun w hw => (hQu g' hg').2 w (List.mem_of_mem_eraseIdx hw)⟩
      rw [List.length_eraseIdx]
      have := (hQu g' hg').1
      split <;> omega
    · rw [up_n e]; exact hQu g' hg'
  · intro g' hg'
    show okPr (bookR (Hr A) k w) (up (Hp A) g _ g')
    by_cases e : g' = g
    · subst e
      rw [up_s]
      refine ⟨fun q => absurd q hne, fun _ => ⟨hL0, fun x _ hx2 => ?_⟩⟩
      dsimp only at hx2 ⊢
      rw [bookR_n (by decide)]
      exact (fre (f2 x hx2)).1
    · rw [up_n e]
      refine ⟨(hPr g' hg').1, fun h => ⟨((hPr g' hg').2 h).1, fun x hx hx2 => ?_⟩⟩
      rw [bookR_n (by decide)]
      exact ((hPr g' hg').2 h).2 x hx hx2
  · have hap : ∀ m' ∈ msgs A, apt (g, k, w) m' := fun m' hm => by
      obtain ⟨q1, q2, q3, q4⟩ := hVm.1 m' hm
      have hb : ∀ j, m'.2.1 ≤ j → j < m'.2.1 + m'.2.2.length → 0 < Hr A 4 j := fun j h1 h2 => by
        have h3 := q4 (j - m'.2.1) (by omega)
        rw [show m'.2.1 + (j - m'.2.1) = j by omega] at h3
        have := (q2.2.2 (j - m'.2.1) (by omega)).1
        omega
      unfold apt
      dsimp only
      by_cases hx : k + w.length < m'.2.1 ∨ m'.2.1 + m'.2.2.length < k
      · exact hx
      · exfalso
        have hl := q2.1
        by_cases h1 : m'.2.1 < k
        · have := hb (k - 1) (by omega) (by omega)
          have := (f3 (by omega)).2
          omega
        · by_cases h2 : m'.2.1 < k + w.length
          · have h3 := hb m'.2.1 (by omega) (by omega)
            have h4 := (fre (f2 (m'.2.1 - k) (by omega))).2.1
            rw [show k + (m'.2.1 - k) = m'.2.1 by omega] at h4
            omega
          · have h3 := hb (k + w.length) (by omega) (by omega)
            have := f4.2
            omega
    have hv : vM (bookR (Hr A) k w) (Hn A 0) ((g, k, w) :: msgs A) := by
      refine ⟨fun m hm => ?_, fun j hj => ?_, List.pairwise_cons.mpr ⟨hap, hVm.2.2⟩⟩
      · rcases List.mem_cons.mp hm with e | hm
        · subst e
          exact ⟨hg, hwd, f1, fun x hx => bookR_in hx⟩
        · obtain ⟨q1, q2, q3, q4⟩ := hVm.1 m hm
          have q5 := hap m hm
          refine ⟨q1, q2, q3, fun x hx => ?_⟩
          rw [← q4 x hx]
          unfold apt at q5
          dsimp only at q5
          exact bookR_out 4 (by omega)
      · by_cases c : k ≤ j ∧ j < k + w.length
        · exact ⟨_, List.mem_cons_self, c⟩
        · rw [bookR_out 4 c] at hj
          obtain ⟨m, hm, hi⟩ := hVm.2.1 j hj
          exact ⟨m, List.mem_cons_of_mem _ hm, hi⟩
    refine vM_perm hv ?_
    have e : ∀ g', g' ≠ g → prg (opBeg A g k w) g' = prg A g' := fun g' h => by
      unfold prg
      show (if (up (Hp A) g _ g').2.2 = [] then [] else [(g', (up (Hp A) g _ g').2.1, (up (Hp A) g _ g').2.2)]) = _
      rw [up_n h]
    have e2 : prg (opBeg A g k w) g = [(g, k, w)] := by
      rw [prg_1 (by rw [hpg]; exact hne), hpg]
    unfold msgs
    match g, hg with
    | 0, _ =>
      rw [e2, e 1 (by omega), prg_0 hw]
      exact List.Perm.refl _
    | 1, _ =>
      rw [e2, e 0 (by omega), prg_0 hw]
      exact (List.perm_middle).symm
