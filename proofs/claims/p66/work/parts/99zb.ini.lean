/-! ===== the other machine's first text ===== -/
def PM (B : Nat → Nat) (n p : Nat) (A : AS) (t0 t : HV) : Prop := p ≤ n ∧ MB B n t ∧ t.1 12 = nI p ∧ t.1 15 = 0 ∧ t.1 16 = -1 ∧ RM A (t.2 0) ∧ fm t0 t
theorem PM_O {B : Nat → Nat} {n p e : Nat} {A : AS} {t0 t t' : HV} (h : PM B n p A t0 t) (hm : MO e t t') (he : e ≤ n) : PM B n e A t0 t' := by
  obtain ⟨h1, m1, m2, m3, m4, m5, m6⟩ := h
  obtain ⟨f, e12, e15, e16⟩ := hm
  exact ⟨he, MB_f m1 f, e12, e15, e16.trans m4, by rw [f.1]; exact m5, fm_t m6 (fr_fm f)⟩
theorem PM_tok {B : Nat → Nat} {n p : Nat} {A : AS} {t0 t : HV} (h : PM B n p A t0 t) (hk1 : tK B n p = 1) : PM B n (tE B n p) A t0 (sS (nxT B n p t) 12 (((nxT B n p t).1 13) + ((nxT B n p t).1 14))) := by
  obtain ⟨h1, m1, m2, m3, m4, m5, m6⟩ := h
  have he := tE_le (B := B) h1
  refine ⟨he.2, MB_f (MB_f m1 nx_f) (fr_s fr_r (by decide) (by decide)), ?_, ?_, ?_, m5, fm_S (fm_t m6 (fr_fm nx_f)) (by omega)⟩
  · rw [sS_1, nx_13, nx_14, wlN_1 hk1, Z_add]
    congr 1
    omega
  · rw [sS_1n (by decide), nx_o (by omega)]; exact m3
  · rw [sS_1n (by decide), nx_o (by omega)]; exact m4
def nores (A : AS) : Prop := (∀ g, g < 2 → Hp A g = bare) ∧ Hl A = []
/-- the first line -/
def QM (B : Nat → Nat) (n p : Nat) (t0 t : HV) : Prop := p ≤ n ∧ MB B n t ∧ t.1 12 = nI p ∧ t.1 15 = 0 ∧ t.1 16 = -1 ∧ fm t0 t
theorem lp_6 {X R : Type} {f : X → Option (X ⊕ R)} {x0 x1 x2 x3 x4 x5 x6 : X} {r : R} {N : Nat} (h0 : f x0 = some (.inl x1)) (h1 : f x1 = some (.inl x2)) (h2 : f x2 = some (.inl x3)) (h3 : f x3 = some (.inl x4)) (h4 : f x4 = some (.inl x5)) (h5 : f x5 = some (.inl x6)) (h6 : f x6 = some (.inr r)) (hN : 6 < N) : lpN N f x0 = some r := by
  obtain ⟨M, rfl⟩ : ∃ M, N = M + 1 + 1 + 1 + 1 + 1 + 1 + 1 := ⟨N - 7, by omega⟩
  rw [lpN_l h0, lpN_l h1, lpN_l h2, lpN_l h3, lpN_l h4, lpN_l h5, lpN_r h6]
