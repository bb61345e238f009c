/-! ===== a message's slots are cleared: the other side ===== -/
def zer (s : Nat → Int32) (p n : Nat) : Nat → Int32 := fun j => if p ≤ j ∧ j < p + n then nI 0 else s j
theorem zer_0 {s : Nat → Int32} {p : Nat} : zer s p 0 = s := by
  funext j
  exact if_neg (by omega)
theorem zer_s {s : Nat → Int32} {p n : Nat} : upd (zer s p n) (p + n) (nI 0) = zer s p (n + 1) := by
  funext j
  unfold upd zer
  by_cases c : j = p + n
  · rw [if_pos c, if_pos (by omega)]
  · rw [if_neg c]
    by_cases c2 : p ≤ j ∧ j < p + n
    · rw [if_pos c2, if_pos (by omega)]
    · rw [if_neg c2, if_neg (by omega)]
theorem mLet_no {R : Nat → Nat → Nat} {a k : Nat} (h : R 2 k = 0) (ha : a < 5) : mLet R a k = if a = 4 then R 3 k else 0 := by
  match a, ha with
  | 0, _ => rw [mLet_0, if_neg (by omega), if_neg (by decide)]
  | 1, _ => rw [mLet_1, if_neg (by omega), if_neg (by decide)]
  | 2, _ => rw [mLet_2, h, if_neg (by decide)]
  | 3, _ => rw [mLet_3, if_neg (by omega), if_neg (by decide)]
  | 4, _ => rw [mLet_4, if_pos rfl]
theorem mLet_eq {R R' : Nat → Nat → Nat} {a k : Nat} (h : ∀ b, b < 5 → R b k = R' b k) (ha : a < 5) : mLet R a k = mLet R' a k := by
  have h0 := h 0 (by decide)
  have h1 := h 1 (by decide)
  have h2 := h 2 (by decide)
  have h3 := h 3 (by decide)
  have h4 := h 4 (by decide)
  unfold mLet
  rw [h0, h1, h2, h3, h4]
theorem RMr_eq {R R' : Nat → Nat → Nat} {s : Nat → Int32} (h : RMr R s) (e : ∀ a k, a < 5 → k < 40 → mLet R a k = mLet R' a k) : RMr R' s := fun a k ha hk => by rw [← e a k ha hk]; exact h a k ha hk
theorem clrR_in {R : Nat → Nat → Nat} {s n k : Nat} (h : s ≤ k) (h2 : k < s + n) : clrR R s n 2 k = 0 := if_pos ⟨Or.inl rfl, h, h2⟩
theorem clrR_out {R : Nat → Nat → Nat} {s n k a : Nat} (h : ¬ (s ≤ k ∧ k < s + n)) : clrR R s n a k = R a k := if_neg (fun q => h q.2)
theorem clrR_3 {R : Nat → Nat → Nat} {s n k : Nat} : clrR R s n 3 k = R 3 k := if_neg (by omega)
/-- the twig of slot j goes -/
theorem RMr_goes {R R' : Nat → Nat → Nat} {s : Nat → Int32} (h : RMr R s) {j : Nat} (h2 : R' 2 j = 0) (h3 : R' 3 j = R 3 j) (e : ∀ a k, a < 5 → k ≠ j → R a k = R' a k) : RMr R' (zer s (22 + 5 * j) 4) := by
  intro a k ha hk
  unfold zer
  by_cases c : k = j
  · subst c
    rw [mLet_no h2 ha]
    by_cases c2 : a = 4
    · subst c2
      rw [if_neg (by omega), if_pos rfl, h 4 k (by decide) hk, mLet_4, h3]
    · rw [if_pos (by omega), if_neg c2]
  · rw [if_neg (by omega), h a k ha hk, mLet_eq (fun b hb => e b k hb c) ha]
/-- clearing more slots than hold twigs -/
theorem clr_more {R : Nat → Nat → Nat} {s m n : Nat} (hmn : m ≤ n) (h : ∀ k, s + m ≤ k → k < s + n → R 2 k = 0) : (∀ a k, a < 5 → mLet (clrR R s m) a k = mLet (clrR R s n) a k) ∧ cntT R s n = cntT R s m := by
  refine ⟨fun a k ha => ?_, ?_⟩
  · by_cases q : s + m ≤ k ∧ k < s + n
    · rw [mLet_no (R := clrR R s m) (by rw [clrR_out (by omega)]; exact h k q.1 q.2) ha, mLet_no (R := clrR R s n) (clrR_in (by omega) (by omega)) ha, clrR_3, clrR_3]
    · refine mLet_eq (fun b hb => ?_) ha
      unfold clrR
      by_cases q2 : (b = 2 ∨ b = 4) ∧ s ≤ k ∧ k < s + m
      · rw [if_pos q2, if_pos (by omega)]
      · rw [if_neg q2, if_neg (by omega)]
  · obtain ⟨d, rfl⟩ : ∃ d, n = m + d := ⟨n - m, by omega⟩
    clear hmn
    induction d with
    | zero => rfl
    | succ d ih =>
      rw [show m + (d + 1) = m + d + 1 by omega, cntT_s, ih (fun k h1 h2 => h k h1 (by omega)), if_neg (by have := h (s + (m + d)) (by omega) (by omega); omega), Nat.add_zero]
