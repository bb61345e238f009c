/-! ===== growing ===== -/
def growR (R : Nat → Nat → Nat) (G : Nat) : Nat → Nat → Nat := fun a k => if a = 2 then (if 0 < R 2 k then R 2 k + G else 0) else if a = 3 then R 3 k - 1 else R a k
def groR (R : Nat → Nat → Nat) (G i : Nat) : Nat → Nat → Nat := fun a k => if k < i then growR R G a k else R a k
def opGrow (A : AS) : AS := Sr A (growR (Hr A) (Hn A 2))
theorem groR_0 {R : Nat → Nat → Nat} {G : Nat} : groR R G 0 = R := by
  funext a k
  exact if_neg (by omega)
theorem groR_ok {R : Nat → Nat → Nat} {n D G i : Nat} (h : okRw R n D) (hG : G ≤ 9) : okRw (groR R G i) n (D + 1) := by
  intro k
  obtain ⟨h1, h2, h3, h4, h5, h6, h7, h8⟩ := h k
  unfold groR
  by_cases c : k < i
  · rw [if_pos c, if_pos c, if_pos c, if_pos c, if_pos c]
    unfold growR
    simp only [↓reduceIte, show (3 : Nat) ≠ 2 by decide, show (4 : Nat) ≠ 2 by decide, show (4 : Nat) ≠ 3 by decide, show (0 : Nat) ≠ 2 by decide, show (0 : Nat) ≠ 3 by decide, show (1 : Nat) ≠ 2 by decide, show (1 : Nat) ≠ 3 by decide]
    refine ⟨fun q => ?_, h2, fun q => ?_, h4, h5, ?_, by omega, h8⟩
    · have := h1 q
      rw [if_neg (by omega)]
      omega
    · by_cases c2 : 0 < R 2 k
      · exact h3 c2
      · rw [if_neg c2] at q; omega
    · split <;> omega
  · rw [if_neg c, if_neg c, if_neg c, if_neg c, if_neg c]
    exact ⟨h1, h2, h3, h4, h5, by omega, h7, h8⟩
theorem groR_n {R : Nat → Nat → Nat} {n D G : Nat} (h : okRw R n D) {a k : Nat} : groR R G n a k = growR R G a k := by
  unfold groR
  by_cases c : k < n
  · rw [if_pos c]
  · rw [if_neg c]
    obtain ⟨h2, h3, h4⟩ := (h k).1 (by omega)
    unfold growR
    by_cases c2 : a = 2
    · rw [if_pos c2, if_neg (by omega), c2, h2]
    · rw [if_neg c2]
      by_cases c3 : a = 3
      · rw [if_pos c3, c3]; omega
      · rw [if_neg c3]
theorem groR_s2 {R : Nat → Nat → Nat} {G i : Nat} : groR R G i 2 i = R 2 i ∧ groR R G i 3 i = R 3 i := ⟨if_neg (by omega), if_neg (by omega)⟩
theorem groR_step {R : Nat → Nat → Nat} {G i a k : Nat} : groR R G (i + 1) a k = if k = i ∧ a = 2 then (if 0 < R 2 k then R 2 k + G else 0) else if k = i ∧ a = 3 then R 3 k - 1 else groR R G i a k := by
  by_cases c : k = i
  · subst c
    have e1 : groR R G (k + 1) a k = growR R G a k := if_pos (by omega)
    have e2 : groR R G k a k = R a k := if_neg (by omega)
    rw [e1, e2]
    by_cases c2 : a = 2
    · rw [if_pos (show k = k ∧ a = 2 from ⟨rfl, c2⟩)]
      exact if_pos c2
    · rw [if_neg (show ¬ (k = k ∧ a = 2) from fun q => c2 q.2)]
      by_cases c3 : a = 3
      · rw [if_pos (show k = k ∧ a = 3 from ⟨rfl, c3⟩)]
        exact (if_neg c2).trans (if_pos c3)
      · rw [if_neg (show ¬ (k = k ∧ a = 3) from fun q => c3 q.2)]
        exact (if_neg c2).trans (if_neg c3)
  · rw [if_neg (show ¬ (k = i ∧ a = 2) from fun q => c q.1), if_neg (show ¬ (k = i ∧ a = 3) from fun q => c q.1)]
    by_cases c2 : k < i
    · exact (if_pos (show k < i + 1 by omega)).trans (if_pos c2).symm
    · exact (if_neg (show ¬ k < i + 1 by omega)).trans (if_neg c2).symm
theorem C_grow {A : AS} {T : Nat} {h : Nat → HV} (hH : RC A h) (hI : Inv A T) {N : Nat} (hN : 40 < N) : ∃ h', F_X5_grow N h = some h' ∧ RC (opGrow A) h' := by
  have bI := hI
  obtain ⟨hT, ⟨⟨b0, b0'⟩, ⟨b1, b1'⟩, b2, ⟨b3, b3'⟩, ⟨b4, b4'⟩, ⟨b5, b5'⟩, b6, b7⟩, hRw, hNs, hQu, hPr, hVm⟩ := id hI
  unfold F_X5_grow
  have key := lpN_up (f := fun z => st_X5_grow_2 N z.1 z.2) (fun i (x : Int32 × (Nat → HV)) => x.1 = nI i ∧ RH (Sr A (groR (Hr A) (Hn A 2) i)) (x.2 0) ∧ ∀ j, j ≠ 0 → x.2 j = h j) (fun r => RH (opGrow A) (r 0) ∧ ∀ j, j ≠ 0 → r j = h j) (n := Hn A 0) (N := N) (x0 := (0, h)) (by omega) ⟨rfl, by rw [groR_0]; exact hH.1.1, fun _ _ => rfl⟩ (fun i x hi hP => ?_) (fun x hP => ?_)
  · obtain ⟨h', e', r'⟩ := key
    refine ⟨h', e', ⟨r'.1, fun g hg => ?_⟩, ?_⟩
    · rw [r'.2 _ (by omega)]; exact hH.1.2 g hg
    · rw [r'.2 _ (by omega)]; exact hH.2
  · obtain ⟨x1, x2⟩ := x
    obtain ⟨e1, ⟨hn, hc, hr⟩, hf⟩ := hP
    dsimp only at e1 hn hc hr hf
    cases e1
    show ∃ y, st_X5_grow_2 N (nI i) x2 = _ ∧ _
    have q2 := Inv_b bI i (a := 2) (by decide)
    have q3 := Inv_b bI i (a := 3) (by decide)
    have g2 : rget 40 ((x2 0).2 2) (nI i) = nI (Hr A 2 i) := (RHr_get hr (by decide) (by omega)).trans (congrArg nI groR_s2.1)
    have g3 : rget 40 ((x2 0).2 3) (nI i) = nI (Hr A 3 i) := (RHr_get hr (by decide) (by omega)).trans (congrArg nI groR_s2.2)
    have n0 : (x2 0).1 0 = nI (Hn A 0) := hn 0 (by decide)
    have n2 : (x2 0).1 2 = nI (Hn A 2) := hn 2 (by decide)
    by_cases c2 : Hr A 2 i ≤ 0
    · by_cases c3 : Hr A 3 i ≤ 0
      · refine ⟨(nI (i + 1), x2), ?_, rfl, ⟨hn, hc, RHr_eq hr (fun a k ha hk => ?_)⟩, hf⟩
        · unfold st_X5_grow_2
          simp (disch := omega) only [L0, L1, Z_add, Z_le, n0, g2, g3, if_pos, if_neg]
        · rw [show Hr (Sr A (groR (Hr A) (Hn A 2) (i + 1))) a k = groR (Hr A) (Hn A 2) (i + 1) a k from rfl, groR_step]
          by_cases q : k = i ∧ a = 2
          · rw [if_pos q, q.1, q.2, if_neg (by omega)]
            show groR (Hr A) (Hn A 2) i 2 i = 0
            rw [groR_s2.1]; omega
          · rw [if_neg q]
            by_cases q' : k = i ∧ a = 3
            · rw [if_pos q', q'.1, q'.2]
              show groR (Hr A) (Hn A 2) i 3 i = _
              rw [groR_s2.2]; omega
            · rw [if_neg q']; rfl
      · refine ⟨(nI (i + 1), up x2 0 (sA (x2 0) 3 (rset 40 ((x2 0).2 3) (nI i) (nI (Hr A 3 i - 1))))), ?_, rfl, ?_, fun j hj => (up_n hj).trans (hf j hj)⟩
        · unfold st_X5_grow_2
          simp (disch := omega) only [L0, L1, Z_add, Z_sub, Z_le, n0, g2, g3, if_pos, if_neg, lt_d]
        · show RH _ (up x2 0 _ 0)
          rw [up_s]
          refine ⟨RHn_1 hn rfl, RHc_1 hc rfl, RHr_eq (RHr_set hr _ (by omega)) (fun a k ha hk => ?_)⟩
          show rowS (groR (Hr A) (Hn A 2) i) 3 i (Hr A 3 i - 1) a k = groR (Hr A) (Hn A 2) (i + 1) a k
          rw [groR_step]
          unfold rowS
          by_cases q : k = i ∧ a = 2
          · rw [if_neg (by omega), if_pos q, q.1, q.2, if_neg (by omega), groR_s2.1]; omega
          · rw [if_neg q]
            by_cases q' : k = i ∧ a = 3
            · rw [if_pos q', if_pos (by omega), q'.1]
            · rw [if_neg q', if_neg (by omega)]
    · by_cases c3 : Hr A 3 i ≤ 0
      · refine ⟨(nI (i + 1), up x2 0 (sA (x2 0) 2 (rset 40 ((x2 0).2 2) (nI i) (nI (Hr A 2 i + Hn A 2))))), ?_, rfl, ?_, fun j hj => (up_n hj).trans (hf j hj)⟩
        · unfold st_X5_grow_2
          have e32 : ∀ r, (sA (x2 0) 2 r).2 3 = (x2 0).2 3 := fun r => sA_2n (by decide)
          simp (disch := omega) only [L0, L1, Z_add, Z_sub, Z_le, n0, n2, g2, up_s, e32, g3, if_pos, if_neg, lt_d]
        · show RH _ (up x2 0 _ 0)
          rw [up_s]
          refine ⟨RHn_1 hn rfl, RHc_1 hc rfl, RHr_eq (RHr_set hr _ (by omega)) (fun a k ha hk => ?_)⟩
          show rowS (groR (Hr A) (Hn A 2) i) 2 i (Hr A 2 i + Hn A 2) a k = groR (Hr A) (Hn A 2) (i + 1) a k
          rw [groR_step]
          unfold rowS
          by_cases q : k = i ∧ a = 2
          · rw [if_pos (by omega), if_pos q, q.1, if_pos (by omega)]
          · rw [if_neg q, if_neg (by omega)]
            by_cases q' : k = i ∧ a = 3
            · rw [if_pos q', q'.1, q'.2, groR_s2.2]; omega
            · rw [if_neg q']
      · refine ⟨(nI (i + 1), up x2 0 (sA (sA (x2 0) 2 (rset 40 ((x2 0).2 2) (nI i) (nI (Hr A 2 i + Hn A 2)))) 3 (rset 40 ((sA (x2 0) 2 (rset 40 ((x2 0).2 2) (nI i) (nI (Hr A 2 i + Hn A 2)))).2 3) (nI i) (nI (Hr A 3 i - 1))))), ?_, rfl, ?_, fun j hj => (up_n hj).trans (hf j hj)⟩
        · unfold st_X5_grow_2
          have e32 : ∀ r, (sA (x2 0) 2 r).2 3 = (x2 0).2 3 := fun r => sA_2n (by decide)
          simp (disch := omega) only [L0, L1, Z_add, Z_sub, Z_le, n0, n2, g2, up_s, up_up, e32, g3, if_pos, if_neg, lt_d]
        · show RH _ (up x2 0 _ 0)
          rw [up_s]
          refine ⟨RHn_1 (RHn_1 hn rfl) rfl, RHc_1 (RHc_1 hc rfl) rfl, RHr_eq (RHr_set (RHr_set hr _ (by omega)) _ (by omega)) (fun a k ha hk => ?_)⟩
          show rowS (rowS (groR (Hr A) (Hn A 2) i) 2 i (Hr A 2 i + Hn A 2)) 3 i (Hr A 3 i - 1) a k = groR (Hr A) (Hn A 2) (i + 1) a k
          rw [groR_step]
          unfold rowS
          by_cases q : k = i ∧ a = 2
          · rw [if_neg (by omega), if_pos (by omega), if_pos q, q.1, if_pos (by omega)]
          · rw [if_neg q]
            by_cases q' : k = i ∧ a = 3
            · rw [if_pos q', if_pos (by omega), q'.1]
            · rw [if_neg q', if_neg (by omega), if_neg (by omega)]
  · obtain ⟨x1, x2⟩ := x
    obtain ⟨e1, ⟨hn, hc, hr⟩, hf⟩ := hP
    dsimp only at e1 hn hc hr hf
    cases e1
    have n0 : (x2 0).1 0 = nI (Hn A 0) := hn 0 (by decide)
    refine ⟨x2, ?_, ⟨hn, hc, RHr_eq hr (fun a k _ _ => groR_n hRw)⟩, hf⟩
    show st_X5_grow_2 N (nI (Hn A 0)) x2 = _
    unfold st_X5_grow_2
    simp (disch := omega) only [Z_le, n0, if_pos]
theorem Z_dec {v : Nat} (h : v < 2 ^ 31) : (if (0 : Int32) < nI v - 1 then nI v - 1 else 0) = nI (v - 1) := by
  by_cases c : v = 0
  · subst c; decide
  · rw [L1, Z_sub (by omega)]
    by_cases c2 : v = 1
    · subst c2; decide
    · rw [if_pos (by rw [L0, Z_lt (by decide) (by omega)]; omega)]
