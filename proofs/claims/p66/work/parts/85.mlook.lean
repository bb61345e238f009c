/-! ===== looking at the hedge: the other side ===== -/
theorem ob1_s {α γ : Type} {x : α} {f : α → Option γ} : ob1 (some x) f = f x := rfl
theorem ob_s {α β γ : Type} {x : α} {y : β} {f : α → β → Option γ} : ob (some (x, y)) f = f x y := rfl
theorem lt_d {α β : Type} {x : α} {f : α → β} : lt x f = f x := rfl
theorem lt2_d {α β γ : Type} {x : α} {y : β} {f : α → β → γ} : lt2 (x, y) f = f x y := rfl
theorem Z_ge0 {x : Int32} (h : x < 0) (a : Nat) (ha : a < 2 ^ 31) : ¬ nI a ≤ x := by
  intro h2
  rw [Int32.le_iff_toInt_le, nI_toInt ha] at h2
  rw [Int32.lt_iff_toInt_lt] at h
  have h3 : (0 : Int32).toInt = 0 := by decide
  omega
theorem Z_up {x : Int32} {n : Nat} (hn : n < 2 ^ 31) (h0 : 0 < n) (h : nI n ≤ x) : ¬ x ≤ nI (n - 1) := by
  intro h2
  rw [Int32.le_iff_toInt_le, nI_toInt (by omega)] at h2
  rw [Int32.le_iff_toInt_le, nI_toInt hn] at h
  omega
theorem mLet_0 {R : Nat → Nat → Nat} {k : Nat} : mLet R 0 k = if 0 < R 2 k then R 0 k else 0 := rfl
theorem mLet_1 {R : Nat → Nat → Nat} {k : Nat} : mLet R 1 k = if 0 < R 2 k then R 1 k else 0 := rfl
theorem mLet_2 {R : Nat → Nat → Nat} {k : Nat} : mLet R 2 k = R 2 k := rfl
theorem mLet_3 {R : Nat → Nat → Nat} {k : Nat} : mLet R 3 k = if 0 < R 2 k ∧ 0 < R 4 k then 1 else 0 := rfl
theorem mLet_4 {R : Nat → Nat → Nat} {k : Nat} : mLet R 4 k = R 3 k := rfl
theorem bk_in {A : AS} {T : Nat} (hI : Inv A T) {k : Nat} : 0 < Hr A 4 k ↔ ((∃ i, i < (Hl A).length ∧ inM ((Hl A).getD i bare) k) ∨ ∃ g, g < 2 ∧ (Hp A g).2.1 ≤ k ∧ k < (Hp A g).2.1 + (Hp A g).2.2.length) := by
  have bI := hI
  obtain ⟨hT, ⟨⟨b0, b0'⟩, ⟨b1, b1'⟩, b2, ⟨b3, b3'⟩, ⟨b4, b4'⟩, ⟨b5, b5'⟩, b6, b7⟩, hRw, hNs, hQu, hPr, hVm⟩ := id hI
  constructor
  · intro h
    obtain ⟨m, hm, hi⟩ := hVm.2.1 k h
    unfold msgs at hm
    rw [List.mem_append, List.mem_append] at hm
    have hp : ∀ g, g < 2 → m ∈ prg A g → ∃ g, g < 2 ∧ (Hp A g).2.1 ≤ k ∧ k < (Hp A g).2.1 + (Hp A g).2.2.length := fun g hg hm => by
      by_cases c : (Hp A g).2.2 = []
      · rw [prg_0 c] at hm; cases hm
      · rw [prg_1 c, List.mem_singleton] at hm
        subst hm
        exact ⟨g, hg, hi⟩
    rcases hm with hm | hm | hm
    · exact Or.inr (hp 0 (by decide) hm)
    · exact Or.inr (hp 1 (by decide) hm)
    · obtain ⟨i, hi2, e⟩ := gD_of (d := bare) hm
      exact Or.inl ⟨i, hi2, by rw [e]; exact hi⟩
  · have key : ∀ m, m ∈ msgs A → inM m k → 0 < Hr A 4 k := fun m hm hi => by
      obtain ⟨_, hw, _, h4⟩ := hVm.1 m hm
      obtain ⟨i1, i2⟩ := hi
      have h5 := h4 (k - m.2.1) (by omega)
      have h6 := (hw.2.2 (k - m.2.1) (by omega)).1
      rw [show m.2.1 + (k - m.2.1) = k by omega] at h5
      omega
    rintro (⟨i, hi, h⟩ | ⟨g, hg, h1, h2⟩)
    · exact key _ (msgs_l (gD_mem hi)) h
    · have hne : (Hp A g).2.2 ≠ [] := fun e => by rw [e] at h2; simp at h2; omega
      exact key _ (msgs_p hg hne) ⟨h1, h2⟩
