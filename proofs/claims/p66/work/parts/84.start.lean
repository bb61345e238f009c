/-! ===== the start slot: the program's scan ===== -/
def PF (R : Nat → Nat → Nat) (n L i : Nat) (x : Int32 × Int32) : Prop := x.2 = nI i ∧ ∃ s, x.1 = nI s ∧ s ≤ i + 1 ∧ i ≤ s + L ∧ (i = s + L → ¬ opn R i) ∧ (∀ j, s ≤ j → j < i → freB R j = true) ∧ (∀ k, k < s → ¬ fit R n L k) ∧ (s ≤ i → 0 < s → opn R (s - 1))
theorem C_findStart {A : AS} {T : Nat} {h : Nat → HV} (hH : RH A (h 0)) (hI : Inv A T) {N L : Nat} (hN : 40 < N) (hL : L < 2 ^ 20) : F_X5_findStart N (nI L) h = some (oI (fStart (Hr A) (Hn A 0) L)) := by
  obtain ⟨hT, ⟨⟨b0, b0'⟩, ⟨b1, b1'⟩, b2, ⟨b3, b3'⟩, ⟨b4, b4'⟩, ⟨b5, b5'⟩, b6, b7⟩, hRw, hNs, hQu, hPr, hVm⟩ := id hI
  unfold F_X5_findStart
  obtain ⟨N', rfl⟩ : ∃ k, N = k + 1 := ⟨N - 1, by omega⟩
  by_cases hL0 : L = 0
  · subst hL0
    unfold fStart
    rw [if_pos rfl]
    refine lpN_r ?_
    show st_X5_findStart_4 _ _ _ _ _ = _
    unfold st_X5_findStart_4
    exact if_pos (by decide)
  have key : ∃ r, lpN (N' + 1) (fun z => st_X5_findStart_4 (N' + 1) (nI L) z.1 z.2 h) (0, 0) = some r ∧ r = oI (fStart (Hr A) (Hn A 0) L) := by
    refine lpN_upx (PF (Hr A) (Hn A 0) L) _ (n := Hn A 0) (by omega) ⟨rfl, 0, rfl, by omega, by omega, by omega, fun j _ h2 => absurd h2 (by omega), fun k hk => absurd hk (by omega), fun _ h2 => absurd h2 (by omega)⟩ (fun i x hi hP => ?_) (fun x hP => ?_)
    · obtain ⟨e2, s, e1, p1, p2, p3, p4, p5, p6⟩ := hP
      obtain ⟨x1, x2⟩ := x
      cases e1
      cases e2
      show (∃ y, st_X5_findStart_4 _ (nI L) (nI s) (nI i) h = _ ∧ _) ∨ (∃ r, st_X5_findStart_4 _ (nI L) (nI s) (nI i) h = _ ∧ _)
      have q2 := Inv_b hI i (a := 2) (by decide)
      have q3 := Inv_b hI i (a := 3) (by decide)
      have q4 := Inv_b hI i (a := 4) (by decide)
      have q5 := Inv_b hI (i + 1) (a := 2) (by decide)
      have q6 := Inv_b hI (i + 1) (a := 4) (by decide)
      have e : st_X5_findStart_4 (N' + 1) (nI L) (nI s) (nI i) h = if 0 < Hr A 2 i ∨ 0 < Hr A 4 i then some (.inl (nI (i + 2), nI (i + 1))) else if 0 < Hr A 3 i then some (.inl (nI (i + 1), nI (i + 1))) else if i + 1 - s < L then some (.inl (nI s, nI (i + 1))) else if Hr A 2 (i + 1) = 0 ∧ Hr A 4 (i + 1) = 0 then some (.inr (nI s)) else some (.inl (nI s, nI (i + 1))) := by
        unfold st_X5_findStart_4
        rw [hH.1 0 (by decide), C_row hH.2.2 hI (by decide) (by omega), C_row hH.2.2 hI (by decide) (by omega), C_row hH.2.2 hI (by decide) (by omega), C_rowp hH.2.2 hI (by decide) (by omega), C_rowp hH.2.2 hI (by decide) (by omega)]
        simp (disch := omega) only [L0, L1, L2, Z_dist, Z_add, Z_le, Z_lt, Z_eq, if_pos, if_neg]
        by_cases c1 : 0 < Hr A 2 i
        · simp [c1]
        · by_cases c2 : 0 < Hr A 4 i
          · simp (disch := omega) only [c1, c2, if_pos, if_neg, false_or, ↓reduceIte]
          · by_cases c3 : 0 < Hr A 3 i
            · simp (disch := omega) only [c1, c2, c3, if_pos, if_neg, false_or, ↓reduceIte]
            · simp (disch := omega) only [c1, c2, c3, if_pos, if_neg, false_or, ↓reduceIte]
              split
              · rfl
              · by_cases c4 : Hr A 2 (i + 1) = 0
                · by_cases c5 : Hr A 4 (i + 1) = 0
                  · simp [c4, c5]
                  · simp [c4, c5]
                · simp [c4]
      rw [e]
      by_cases c1 : 0 < Hr A 2 i ∨ 0 < Hr A 4 i
      · rw [if_pos c1]
        refine Or.inl ⟨_, rfl, rfl, i + 2, rfl, by omega, by omega, by omega, fun j h1 h2 => absurd h2 (by omega), fun k hk hf => ?_, fun h1 => absurd h1 (by omega)⟩
        by_cases k1 : k < s
        · exact p5 k k1 hf
        · obtain ⟨f1, f2, f3, f4⟩ := hf
          by_cases k2 : k = i + 1
          · have := f3 (by omega)
            rw [k2] at this
            unfold opn at this
            simp only [Nat.add_sub_cancel] at this
            omega
          · by_cases k3 : k + L ≤ i
            · have k4 : k + L = i := by omega
              rw [k4] at f4
              unfold opn at f4
              omega
            · have := f2 (i - k) (by omega)
              rw [show k + (i - k) = i by omega] at this
              unfold freB at this
              rw [decide_eq_true_eq] at this
              omega
      · rw [if_neg c1]
        have o1 : opn (Hr A) i := ⟨by omega, by omega⟩
        have o2 : i ≠ s + L := fun q => p3 q o1
        by_cases c3 : 0 < Hr A 3 i
        · rw [if_pos c3]
          refine Or.inl ⟨_, rfl, rfl, i + 1, rfl, by omega, by omega, by omega, fun j h1 h2 => absurd h2 (by omega), fun k hk hf => ?_, fun _ _ => ?_⟩
          · by_cases k1 : k < s
            · exact p5 k k1 hf
            · obtain ⟨f1, f2, f3, f4⟩ := hf
              have := f2 (i - k) (by omega)
              rw [show k + (i - k) = i by omega] at this
              unfold freB at this
              rw [decide_eq_true_eq] at this
              omega
          · rw [Nat.add_sub_cancel]; exact o1
        · rw [if_neg c3]
          have o3 : freB (Hr A) i = true := by
            unfold freB
            rw [decide_eq_true_eq]
            omega
          have o4 : ∀ j, s ≤ j → j < i + 1 → freB (Hr A) j = true := fun j h1 h2 => by
            by_cases h3 : j = i
            · rw [h3]; exact o3
            · exact p4 j h1 (by omega)
          have o5 : s ≤ i + 1 → 0 < s → opn (Hr A) (s - 1) := fun h1 h2 => by
            by_cases h3 : s ≤ i
            · exact p6 h3 h2
            · rw [show s - 1 = i by omega]; exact o1
          by_cases c4 : i + 1 - s < L
          · rw [if_pos c4]
            exact Or.inl ⟨_, rfl, rfl, s, rfl, by omega, by omega, by omega, o4, p5, o5⟩
          · rw [if_neg c4]
            by_cases c5 : Hr A 2 (i + 1) = 0 ∧ Hr A 4 (i + 1) = 0
            · rw [if_pos c5]
              refine Or.inr ⟨_, rfl, ?_⟩
              have hf : fit (Hr A) (Hn A 0) L s := ⟨by omega, fun j hj => o4 _ (by omega) (by omega), o5 p1, by rw [show s + L = i + 1 by omega]; exact c5⟩
              unfold fStart
              rw [if_neg hL0, fstF_is (k := s) (by omega) (by omega) (by rw [fitB_t]; exact hf) (fun j _ hj => fitB_f (p5 j hj))]
              rfl
            · rw [if_neg c5]
              exact Or.inl ⟨_, rfl, rfl, s, rfl, by omega, by omega, fun q => by rw [show i + 1 = i + 1 from rfl]; exact c5, o4, p5, o5⟩
    · obtain ⟨e2, s, e1, p1, p2, p3, p4, p5, p6⟩ := hP
      obtain ⟨x1, x2⟩ := x
      cases e1
      cases e2
      refine ⟨-1, ?_, ?_⟩
      · show st_X5_findStart_4 _ (nI L) (nI s) (nI (Hn A 0)) h = _
        unfold st_X5_findStart_4
        rw [hH.1 0 (by decide)]
        simp (disch := omega) only [L0, Z_le, if_pos, if_neg]
      · unfold fStart
        rw [if_neg hL0, fstF_no (fun j _ hj => fitB_f (fun hf => ?_))]
        · rfl
        · by_cases k1 : j < s
          · exact p5 j k1 hf
          · have f1 := hf.1
            have k2 : Hn A 0 = s + L := by omega
            refine p3 k2 ?_
            have := Inv_s hI (Nat.le_refl (Hn A 0))
            exact ⟨this.1, this.2.2⟩
  obtain ⟨r, e, rfl⟩ := key
  exact e
