/-! ===== the operations ===== -/
def tT (t : HV) (s : Nat → Int32) : HV := sA (sS t 6 0) 2 (va_cpy s ((sS t 6 0).2 2) 0 0 760)
theorem C_goBy {A : AS} {T : Nat} {S : SS} (hC : RC A (S 0)) (hI : Inv A T) {N n : Nat} (hn : n ≤ 60) (hT2 : T + n < 2 ^ 20) (hN : 400 < N) (R : Type) (f : Int32 × SS → Option ((Int32 × SS) ⊕ R)) (hf : ∀ i x h', i < n → F_X5_endOneDay N (x 0) = some h' → f (nI i, x) = some (.inl (nI (i + 1), up x 0 h'))) (g : SS → R) (hg : ∀ x, f (nI n, x) = some (.inr (g x))) : ∃ S', lpN N f (0, S) = some (g S') ∧ RC (days n A) (S' 0) ∧ ∀ j, j ≠ 0 → S' j = S j := by
  have key := lpN_up (f := f) (fun i (x : Int32 × SS) => x.1 = nI i ∧ RC (days i A) (x.2 0) ∧ ∀ j, j ≠ 0 → x.2 j = S j) (fun r => ∃ S', r = g S' ∧ RC (days n A) (S' 0) ∧ ∀ j, j ≠ 0 → S' j = S j) (n := n) (N := N) (x0 := (0, S)) (by omega) ⟨rfl, hC, fun _ _ => rfl⟩ (fun i x hi hP => ?_) (fun x hP => ?_)
  · obtain ⟨r, e, S', rfl, h⟩ := key
    exact ⟨S', e, h⟩
  · obtain ⟨x1, x2⟩ := x
    obtain ⟨e1, r1, f1⟩ := hP
    dsimp only at e1 r1 f1
    cases e1
    obtain ⟨h2, e2, r2, i2⟩ := C_day r1 (Inv_days hI i (by omega)) (by omega) (N := N) (by omega)
    refine ⟨(nI (i + 1), up x2 0 h2), hf i x2 h2 hi e2, rfl, ?_, fun j hj => ?_⟩
    · show RC _ (up x2 0 h2 0)
      rw [up_s]
      exact r2
    · show up x2 0 h2 j = _
      rw [up_n hj]
      exact f1 j hj
  · obtain ⟨x1, x2⟩ := x
    obtain ⟨e1, r1, f1⟩ := hP
    dsimp only at e1 r1 f1
    cases e1
    exact ⟨_, hg x2, x2, rfl, r1, f1⟩
