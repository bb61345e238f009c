/-! ===== vops: the operations keep the balances ===== -/
theorem Jt_e {A B : AS} (h : Jt A) (e0 : Hn B 0 = Hn A 0) (e2 : ∀ j, 0 < Hr B 2 j ↔ 0 < Hr A 2 j) (ec : ∀ i, i < 3 → Hc B i = Hc A i) : Jt B := by
  unfold Jt tw at *
  rw [ec 0 (by decide), ec 1 (by decide), ec 2 (by decide), e0, tw_same e2]
  exact h
theorem Jt_tw {A : AS} {k c o l : Nat} (h : Jt A) (hk : k < Hn A 0) (h0 : Hr A 2 k = 0) (hl : 0 < l) : Jt (opTw A k c o l) := by
  have e : tw (opTw A k c o l) = tw A + 1 := tw_add (R := Hr A) (R' := twR (Hr A) k c o l) (fun j hj => twR_2n hj 2) hk h0 (by rw [show twR (Hr A) k c o l 2 k = l from rowS_at]; exact hl)
  unfold Jt at *
  rw [e, show Hc (opTw A k c o l) = up (Hc A) 0 (Hc A 0 + 1) from rfl, up_s, up_n (show (1 : Nat) ≠ 0 by decide), up_n (show (2 : Nat) ≠ 0 by decide), ← nI_add]
  have hg : ∀ a b c n : Int32, a - ((b + c) + n) = 0 → (a + 1) - ((b + c) + (n + 1)) = 0 := fun a b c n h => by grind
  exact hg _ _ _ _ h
theorem Jt_clr {A : AS} {s m : Nat} (h : Jt A) (hs : s + m ≤ Hn A 0) : Jt (opClr A s m) := by
  have e : tw (opClr A s m) + cntT (Hr A) s m = tw A := tw_clr (R := Hr A) m hs
  unfold Jt at *
  rw [show Hc (opClr A s m) = up (Hc A) 2 (Hc A 2 + nI (cntT (Hr A) s m)) from rfl, up_s, up_n (show (0 : Nat) ≠ 2 by decide), up_n (show (1 : Nat) ≠ 2 by decide)]
  rw [← e, ← nI_add] at h
  have hg : ∀ a b c n x : Int32, a - ((b + c) + (n + x)) = 0 → a - ((b + (c + x)) + n) = 0 := fun a b c n x h => by grind
  exact hg _ _ _ _ _ h
theorem Jt_pru {A : AS} (h : Jt A) : Jt (opPrune A) := by
  have e : tw (opPrune A) + cnt (pruB (Hr A) (Hn A 3)) (Hn A 0) = tw A := tw_pru (R := Hr A) (L := Hn A 3) (n := Hn A 0) (Hn A 0) (Nat.le_refl _)
  unfold Jt at *
  rw [show Hc (opPrune A) = up (Hc A) 1 (Hc A 1 + nI (cnt (pruB (Hr A) (Hn A 3)) (Hn A 0))) from rfl, up_s, up_n (show (0 : Nat) ≠ 1 by decide), up_n (show (2 : Nat) ≠ 1 by decide)]
  rw [← e, ← nI_add] at h
  have hg : ∀ a b c n x : Int32, a - ((b + c) + (n + x)) = 0 → a - (((b + x) + c) + n) = 0 := fun a b c n x h => by grind
  exact hg _ _ _ _ _ h
theorem Jt_rem {A : AS} {k : Nat} (h : Jt A) (hk : k < Hn A 0) (h0 : 0 < Hr A 2 k) : Jt (opRem A k) := by
  have e : tw (opRem A k) + 1 = tw A := tw_sub (R := Hr A) (R' := rowS (Hr A) 2 k 0) (fun j hj => rowS_k hj 2) hk h0 rowS_at
  unfold Jt at *
  rw [show Hc (opRem A k) = up (Hc A) 2 (Hc A 2 + 1) from rfl, up_s, up_n (show (0 : Nat) ≠ 2 by decide), up_n (show (1 : Nat) ≠ 2 by decide)]
  rw [← e, ← nI_add] at h
  have hg : ∀ a b c n : Int32, a - ((b + c) + (n + 1)) = 0 → a - ((b + (c + 1)) + n) = 0 := fun a b c n h => by grind
  exact hg _ _ _ _ h
/-- messages: what is not counted otherwise stays -/
theorem Jm_e {A B : AS} {g : Nat} (h : Jm A g) (e1 : (Hq B g).length + cntM g (msgs B) = (Hq A g).length + cntM g (msgs A)) (ec : ∀ i, 10 ≤ i → Hc B i = Hc A i) : Jm B g := by
  unfold Jm at *
  rw [ec _ (by omega), ec _ (by omega), ec _ (by omega), e1]
  exact h
theorem cntM_perm {g : Nat} {K L : List Msg} (h : List.Perm K L) : cntM g K = cntM g L := by
  induction h with
  | nil => rfl
  | cons x _ ih => show _ + _ = _ + _; rw [ih]
  | swap x y l => show _ + (_ + _) = _ + (_ + _); omega
  | trans _ _ ih1 ih2 => exact ih1.trans ih2
theorem gdW_e {R R' : Nat → Nat → Nat} {g s n : Nat} (h : gdW R g s n) (e : ∀ x, x < n → R' 0 (s + x) = R 0 (s + x) ∧ R' 1 (s + x) = R 1 (s + x) ∧ R' 4 (s + x) = R 4 (s + x)) : gdW R' g s n := fun x hx => by
  obtain ⟨e0, e1, e4⟩ := e x hx
  rw [e0, e1, e4]
  exact h x hx
theorem lvW_e {R R' : Nat → Nat → Nat} {s n : Nat} (h : lvW R s n) (e : ∀ x, x < n → 0 < R 2 (s + x) → 0 < R' 2 (s + x)) : lvW R' s n := fun x hx => e x hx (h x hx)
theorem lost_lv {R : Nat → Nat → Nat} {s n : Nat} (h : ¬ lostB R s n = true) : lvW R s n := by
  intro x hx
  have h1 : fstF (fun x => decide (R 2 x = 0)) n s = none := by
    unfold lostB at h
    cases e : fstF (fun x => decide (R 2 x = 0)) n s with
    | none => rfl
    | some q => rw [e] at h; exact absurd rfl h
  have := fstF_none h1 (s + x) (by omega) (by omega)
  simp only [decide_eq_false_iff_not] at this
  omega
