/-! ===== world: what each id holds, by a state; lookups and writes ===== -/
abbrev HV : Type := (Nat → Int32) × (Nat → Nat → Int32)
abbrev OM : Type := (Nat → Nat → HV) × HV × CT
def up {α : Type} (f : Nat → α) (k : Nat) (v : α) : Nat → α := fun j => if j = k then v else f j
theorem up_s {α : Type} {f : Nat → α} {k : Nat} {v : α} : up f k v k = v := if_pos rfl
theorem up_n {α : Type} {f : Nat → α} {k j : Nat} {v : α} (h : j ≠ k) : up f k v j = f j := if_neg h
theorem up_up {α : Type} {f : Nat → α} {k : Nat} {v u : α} : up (up f k v) k u = up f k u := by
  funext j
  unfold up
  split <;> rfl
theorem up_id {α : Type} {f : Nat → α} {k : Nat} : up f k (f k) = f := by
  funext j
  unfold up
  split
  · subst j; rfl
  · rfl
def rlen (p a : Nat) : Nat := match p with
  | 0 => 40
  | 1 => (match a with | 0 => 96 | _ => 8)
  | 2 => (match a with | 0 => 96 | _ => 8)
  | 3 => 20
  | 4 => 800
  | 5 => 30
  | 6 => 40
  | 9 => 5
  | 10 => 3
  | _ => 2
/-- the command forms, written as numbers: 0 is null, n + 1 the n-th constant -/
def dForm (w : WP) (x : Int32) : Option Nat := if x = 0 then none else some (wAd w (13, (x - 1).toNatClampNeg, 0, 0))
def cB (w : WP) (k j p a : Nat) (g τ : HV) (o : CT) : va_E := match k with
  | 0 => .inr (2, [.int (g.1 0), .int (g.1 1), .int (g.1 2), .int (g.1 3), .int (g.1 4), .int (g.1 5), .int (g.1 6), .int (g.1 7), .ref (wAd w (3, j, 0, 0)), .ref (wAd w (3, j, 0, 1)), .ref (wAd w (3, j, 0, 2)), .ref (wAd w (3, j, 0, 3)), .ref (wAd w (3, j, 0, 4)), .ref (wAd w (1, j, 1, 0)), .ref (wAd w (1, j, 2, 0)), .ref (wAd w (2, j, 3, 0)), .int (g.1 16), .int (g.1 17), .int (g.1 18)])
  | 1 => .inr (1, [.ref (wAd w (3, j, p, 0)), .ref (wAd w (3, j, p, 1)), .int (g.1 2), .int (g.1 3), .int (g.1 4), .int (g.1 5), .int (g.1 6), .int (g.1 7), .int (g.1 8), .int (g.1 9)])
  | 2 => .inr (4, [.ref (wAd w (3, j, p, 0)), .ref (wAd w (3, j, p, 1)), .ref (wAd w (3, j, p, 2)), .int (g.1 3)])
  | 3 => .inr (5, [.ref (wAd w (4, j, p, a))])
  | 4 => .inl (wI w, rlen p a, .inl (g.2 a))
  | 5 => .inr (6, [.ref (wAd w (3, j, p, 0)), .int (g.1 1), .int (g.1 2), .int (g.1 3), .int (g.1 4), .int (g.1 5), .int (g.1 6), .int (g.1 7), .int (g.1 8)])
  | 6 => .inr (0, [.ref (wAd w (10, j, p, 0)), .ref (wAd w (3, j, p, 1)), .ref (wAd w (3, j, p, 2)), .ref (wAd w (3, j, p, 3)), .int (g.1 4)])
  | 7 => .inr (7, [.ref (wAd w (0, 0, 0, 0)), .ref (wAd w (0, 1, 0, 0)), .ref (wAd w (0, 2, 0, 0)), .int (g.1 3), .ref (wAd w (8, 11, 7, 0)), .ref (wAd w (5, 11, 4, 0)), .ref (wAd w (6, 11, 5, 0)), .ref (wAd w (3, 11, 6, 0)), .int (g.1 8)])
  | 8 => .inr (3, [.ref (wAd w (9, j, p, 0)), .int (g.1 1), .int (g.1 2)])
  | 9 => .inl (wHs w, 8, .inr (.inr (.inr (.inr (fun q => some (wAd w (0, 3 + q, 0, 0)))))))
  | 10 => .inl (wFs w, 30, .inr (.inr (.inr (.inr (fun q => dForm w (g.2 0 q))))))
  | n => o (n, j, p, a)
def cA (w : WP) (Ω : OM) : CT := fun i => cB w i.1 i.2.1 i.2.2.1 i.2.2.2 (Ω.1 i.2.1 i.2.2.1) Ω.2.1 Ω.2.2
def okR (j p a : Nat) : Prop := (j ≤ 10 ∧ ((p = 0 ∧ a < 5) ∨ ((p = 1 ∨ p = 2) ∧ a < 2) ∨ (p = 3 ∧ a < 3))) ∨ (j = 11 ∧ ((p = 4 ∧ a = 0) ∨ (p = 5 ∧ 1 ≤ a ∧ a ≤ 3) ∨ (p = 6 ∧ a = 0)))
def okC (i : ID) : Prop := match i.1 with
  | 0 => i.2.1 ≤ 10 ∧ i.2.2.1 = 0 ∧ i.2.2.2 = 0
  | 1 => i.2.1 ≤ 10 ∧ (i.2.2.1 = 1 ∨ i.2.2.1 = 2) ∧ i.2.2.2 = 0
  | 2 => i.2.1 ≤ 10 ∧ i.2.2.1 = 3 ∧ i.2.2.2 = 0
  | 3 => okR i.2.1 i.2.2.1 i.2.2.2
  | 4 => okR i.2.1 i.2.2.1 i.2.2.2
  | 5 => i.2.1 = 11 ∧ i.2.2.1 = 4 ∧ i.2.2.2 = 0
  | 6 => i.2.1 = 11 ∧ i.2.2.1 = 5 ∧ i.2.2.2 = 0
  | 7 => i.2.1 = 11 ∧ i.2.2.1 = 6 ∧ i.2.2.2 = 0
  | 8 => i.2.1 = 11 ∧ i.2.2.1 = 7 ∧ i.2.2.2 = 0
  | 9 => i.2.1 = 11 ∧ i.2.2.1 = 7 ∧ i.2.2.2 = 0
  | 10 => i.2.1 = 11 ∧ i.2.2.1 = 5 ∧ i.2.2.2 = 0
  | _ => False
/-- things that come and go -/
def okM (i : ID) : Prop := 30 ≤ i.1
/-- rows that live while the first words are laid, and the law's answer -/
def okT (i : ID) : Prop := match i.1 with
  | 3 => i.2.1 = 20 ∧ 9 ≤ i.2.2.1 ∧ i.2.2.2 = 0
  | 4 => i.2.1 = 20 ∧ 9 ≤ i.2.2.1 ∧ i.2.2.2 = 0
  | _ => False
def okX (i : ID) : Prop := okC i ∨ okM i ∨ okT i
/-- the world of the class is there; of the model -/
def gW (w : WP) : Prop := (∀ i, wOk w i → okX i) ∧ (∀ i, okC i → wFr w i) ∧ gD w
theorem gW.fr {w : WP} (h : gW w) {i : ID} (hi : okC i) : wFr w i := h.2.1 i hi
theorem gW.ok {w : WP} (h : gW w) {i : ID} (hi : okC i) : wOk w i := h.2.2.2.1 i (h.2.1 i hi)
def sP (Ω : OM) (j p : Nat) (g : HV) : OM := (up Ω.1 j (up (Ω.1 j) p g), Ω.2)
def sH (Ω : OM) (j : Nat) (h : Nat → HV) : OM := (up Ω.1 j h, Ω.2)
def sM (Ω : OM) (τ : HV) : OM := (Ω.1, τ, Ω.2.2)
def sO (Ω : OM) (o : CT) : OM := (Ω.1, Ω.2.1, o)
def sS (g : HV) (f : Nat) (v : Int32) : HV := (up g.1 f v, g.2)
def sA (g : HV) (a : Nat) (r : Nat → Int32) : HV := (g.1, up g.2 a r)
theorem sP_g {Ω : OM} {j p : Nat} {g : HV} : (sP Ω j p g).1 j p = g := by simp only [sP, up_s]
theorem sH_g {Ω : OM} {j : Nat} {h : Nat → HV} : (sH Ω j h).1 j = h := by simp only [sH, up_s]
theorem sP_P {Ω : OM} {j p : Nat} {g g' : HV} : sP (sP Ω j p g) j p g' = sP Ω j p g' := by simp only [sP, up_s, up_up]
theorem sP_H {Ω : OM} {j p : Nat} {h : Nat → HV} {g' : HV} : sP (sH Ω j h) j p g' = sH Ω j (up h p g') := by simp only [sP, sH, up_s, up_up]
theorem sH_H {Ω : OM} {j : Nat} {h h' : Nat → HV} : sH (sH Ω j h) j h' = sH Ω j h' := by simp only [sH, up_up]
theorem sP_i {Ω : OM} {j p : Nat} {g : HV} (e : Ω.1 j p = g) : sP Ω j p g = Ω := by
  subst e
  simp only [sP, up_id]
theorem sH_i {Ω : OM} {j : Nat} {h : Nat → HV} (e : Ω.1 j = h) : sH Ω j h = Ω := by
  subst e
  simp only [sH, up_id]
theorem sM_i {Ω : OM} {τ : HV} (e : Ω.2.1 = τ) : sM Ω τ = Ω := by
  subst e
  rfl
theorem cB_S {w : WP} {k j p a : Nat} {g τ : HV} {o : CT} {s : Nat → Int32} (hk : k = 3 ∨ k = 4 ∨ 9 ≤ k) : cB w k j p a (s, g.2) τ o = cB w k j p a g τ o := by
  rcases hk with rfl | rfl | hk
  · rfl
  · rfl
  · match k, hk with
    | 9, _ => rfl
    | 10, _ => rfl
    | n + 11, _ => rfl
theorem cB_A4 {w : WP} {j p a b : Nat} {g τ : HV} {o : CT} {f : Nat → Int32} (hk : a ≠ b) : cB w 4 j p a (g.1, up g.2 b f) τ o = cB w 4 j p a g τ o := by
  simp only [cB, up_n hk]
theorem cB_A10 {w : WP} {j p a b : Nat} {g τ : HV} {o : CT} {f : Nat → Int32} (hk : b ≠ 0) : cB w 10 j p a (g.1, up g.2 b f) τ o = cB w 10 j p a g τ o := by
  simp only [cB, up_n hk.symm]
theorem cB_A0 {w : WP} {k j p a : Nat} {g τ : HV} {o : CT} {r : Nat → Nat → Int32} (h4 : k ≠ 4) (h10 : k ≠ 10) : cB w k j p a (g.1, r) τ o = cB w k j p a g τ o := by
  unfold cB
  split <;> first | rfl | exact absurd rfl h4 | exact absurd rfl h10
theorem cB_A {w : WP} {k j p a b : Nat} {g τ : HV} {o : CT} {f : Nat → Int32} (hk : (k = 4 → a ≠ b) ∧ (k = 10 → b ≠ 0)) : cB w k j p a (g.1, up g.2 b f) τ o = cB w k j p a g τ o := by
  by_cases h4 : k = 4
  · subst h4
    exact cB_A4 (hk.1 rfl)
  · by_cases h10 : k = 10
    · subst h10
      exact cB_A10 (hk.2 rfl)
    · exact cB_A0 h4 h10
theorem cA_far {w : WP} {Ω : OM} {j p : Nat} {g : HV} {q : ID} (h : ¬ (q.2.1 = j ∧ q.2.2.1 = p)) : cA w (sP Ω j p g) q = cA w Ω q := by
  unfold cA sP
  have e : up Ω.1 j (up (Ω.1 j) p g) q.2.1 q.2.2.1 = Ω.1 q.2.1 q.2.2.1 := by
    by_cases h1 : q.2.1 = j
    · rw [h1, up_s, up_n (fun h2 => h ⟨h1, h2⟩)]
    · rw [up_n h1]
  simp only [e]
/-- kinds whose cells are the numbers of a part -/
def isOb (k : Nat) : Prop := k = 0 ∨ k = 1 ∨ k = 2 ∨ k = 5 ∨ k = 6 ∨ k = 7 ∨ k = 8
theorem ob_one {k k' j p a : Nat} (hk : isOb k) (hi : okX (k, j, p, 0)) (hk' : ¬ (k' = 3 ∨ k' = 4 ∨ 9 ≤ k')) (hq : okX (k', j, p, a)) : k' = k ∧ a = 0 := by
  have h1 : k' = 0 ∨ k' = 1 ∨ k' = 2 ∨ k' = 5 ∨ k' = 6 ∨ k' = 7 ∨ k' = 8 := by omega
  rcases hk with rfl | rfl | rfl | rfl | rfl | rfl | rfl <;> rcases h1 with rfl | rfl | rfl | rfl | rfl | rfl | rfl <;> simp only [okX, okC, okM, okT, or_false] at hi hq <;> omega
theorem putS {w : WP} {Ω : OM} {k j p : Nat} {s : Nat → Int32} (hk : isOb k) (hi : okX (k, j, p, 0)) (q : ID) (hq : okX q) : upE (cA w Ω) (k, j, p, 0) (cB w k j p 0 (s, (Ω.1 j p).2) Ω.2.1 Ω.2.2) q = cA w (sP Ω j p (s, (Ω.1 j p).2)) q := by
  obtain ⟨k', j', p', a'⟩ := q
  unfold upE
  split
  · rename_i h
    cases h
    show _ = cB w k j p 0 ((sP Ω j p (s, (Ω.1 j p).2)).1 j p) Ω.2.1 Ω.2.2
    rw [sP_g]
  · rename_i h
    by_cases hf : j' = j ∧ p' = p
    · obtain ⟨rfl, rfl⟩ := hf
      by_cases h3 : k' = 3 ∨ k' = 4 ∨ 9 ≤ k'
      · show _ = cB w k' j' p' a' ((sP Ω j' p' (s, (Ω.1 j' p').2)).1 j' p') Ω.2.1 Ω.2.2
        rw [sP_g, cB_S h3]
        rfl
      · obtain ⟨rfl, rfl⟩ := ob_one hk hi h3 hq
        exact absurd rfl h
    · exact (cA_far hf).symm
theorem putA {w : WP} {Ω : OM} {j p a : Nat} {f : Nat → Int32} (hi : okX (4, j, p, a)) (q : ID) (hq : okX q) : upE (cA w Ω) (4, j, p, a) (.inl (wI w, rlen p a, .inl f)) q = cA w (sP Ω j p (sA (Ω.1 j p) a f)) q := by
  obtain ⟨k', j', p', a'⟩ := q
  unfold upE
  split
  · rename_i h
    cases h
    show _ = cB w 4 j p a ((sP Ω j p (sA (Ω.1 j p) a f)).1 j p) Ω.2.1 Ω.2.2
    rw [sP_g]
    show _ = (Sum.inl (wI w, rlen p a, Sum.inl (up (Ω.1 j p).2 a f a)) : va_E)
    rw [up_s]
  · rename_i h
    by_cases hf : j' = j ∧ p' = p
    · obtain ⟨rfl, rfl⟩ := hf
      show _ = cB w k' j' p' a' ((sP Ω j' p' (sA (Ω.1 j' p') a f)).1 j' p') Ω.2.1 Ω.2.2
      rw [sP_g]
      unfold sA
      rw [cB_A ⟨fun hk ha => h (by rw [hk, ha]), fun hk ha => ?_⟩]
      · rfl
      · subst hk
        subst ha
        simp only [okX, okC, okM, okT, okR, or_false, false_or] at hi hq
        omega
    · exact (cA_far hf).symm
theorem putF {w : WP} {Ω : OM} {f : Nat → Int32} (q : ID) (hq : okX q) : upE (cA w Ω) (10, 11, 5, 0) (.inl (wFs w, 30, .inr (.inr (.inr (.inr (fun q => dForm w (f q))))))) q = cA w (sP Ω 11 5 (sA (Ω.1 11 5) 0 f)) q := by
  obtain ⟨k', j', p', a'⟩ := q
  unfold upE
  split
  · rename_i h
    cases h
    show _ = cB w 10 11 5 0 ((sP Ω 11 5 (sA (Ω.1 11 5) 0 f)).1 11 5) Ω.2.1 Ω.2.2
    rw [sP_g]
    show _ = (Sum.inl (wFs w, 30, Sum.inr (Sum.inr (Sum.inr (Sum.inr (fun q => dForm w (up (Ω.1 11 5).2 0 f 0 q)))))) : va_E)
    rw [up_s]
  · rename_i h
    by_cases hf : j' = 11 ∧ p' = 5
    · obtain ⟨rfl, rfl⟩ := hf
      show _ = cB w k' 11 5 a' ((sP Ω 11 5 (sA (Ω.1 11 5) 0 f)).1 11 5) Ω.2.1 Ω.2.2
      rw [sP_g]
      unfold sA
      by_cases h4 : (k' = 4 → a' ≠ 0) ∧ (k' = 10 → (0 : Nat) ≠ 0)
      · rw [cB_A h4]
        rfl
      · exfalso
        by_cases hk : k' = 10
        · subst hk
          simp only [okX, okC, okM, okT, or_false] at hq
          exact h (by rw [show a' = 0 by omega])
        · refine h4 ⟨fun hk ha => ?_, fun h => absurd h hk⟩
          subst hk
          subst ha
          simp only [okX, okC, okM, okT, okR, or_false, false_or] at hq
          omega
    · exact (cA_far hf).symm

