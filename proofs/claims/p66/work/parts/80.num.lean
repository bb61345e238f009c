/-! ===== num: numbers and loops of the printed functions ===== -/
theorem L0 : (0 : Int32) = nI 0 := rfl
theorem L1 : (1 : Int32) = nI 1 := rfl
theorem L2 : (2 : Int32) = nI 2 := rfl
theorem L3 : (3 : Int32) = nI 3 := rfl
theorem L4 : (4 : Int32) = nI 4 := rfl
theorem L5 : (5 : Int32) = nI 5 := rfl
theorem L6 : (6 : Int32) = nI 6 := rfl
theorem L7 : (7 : Int32) = nI 7 := rfl
theorem L8 : (8 : Int32) = nI 8 := rfl
theorem L9 : (9 : Int32) = nI 9 := rfl
theorem L10 : (10 : Int32) = nI 10 := rfl
theorem L11 : (11 : Int32) = nI 11 := rfl
theorem L12 : (12 : Int32) = nI 12 := rfl
theorem L13 : (13 : Int32) = nI 13 := rfl
theorem L14 : (14 : Int32) = nI 14 := rfl
theorem L15 : (15 : Int32) = nI 15 := rfl
theorem L16 : (16 : Int32) = nI 16 := rfl
theorem L17 : (17 : Int32) = nI 17 := rfl
theorem L18 : (18 : Int32) = nI 18 := rfl
theorem L19 : (19 : Int32) = nI 19 := rfl
theorem L20 : (20 : Int32) = nI 20 := rfl
theorem L22 : (22 : Int32) = nI 22 := rfl
theorem L24 : (24 : Int32) = nI 24 := rfl
theorem L26 : (26 : Int32) = nI 26 := rfl
theorem L30 : (30 : Int32) = nI 30 := rfl
theorem L32 : (32 : Int32) = nI 32 := rfl
theorem L39 : (39 : Int32) = nI 39 := rfl
theorem L40 : (40 : Int32) = nI 40 := rfl
theorem L42 : (42 : Int32) = nI 42 := rfl
theorem L46 : (46 : Int32) = nI 46 := rfl
theorem L48 : (48 : Int32) = nI 48 := rfl
theorem L57 : (57 : Int32) = nI 57 := rfl
theorem L59 : (59 : Int32) = nI 59 := rfl
theorem L60 : (60 : Int32) = nI 60 := rfl
theorem L61 : (61 : Int32) = nI 61 := rfl
theorem L65 : (65 : Int32) = nI 65 := rfl
theorem L97 : (97 : Int32) = nI 97 := rfl
theorem L99 : (99 : Int32) = nI 99 := rfl
theorem L122 : (122 : Int32) = nI 122 := rfl
theorem L222 : (222 : Int32) = nI 222 := rfl
theorem L255 : (255 : Int32) = nI 255 := rfl
theorem L430 : (430 : Int32) = nI 430 := rfl
theorem L460 : (460 : Int32) = nI 460 := rfl
theorem L480 : (480 : Int32) = nI 480 := rfl
theorem L760 : (760 : Int32) = nI 760 := rfl
theorem L800 : (800 : Int32) = nI 800 := rfl
theorem L5320 : (5320 : Int32) = nI 5320 := rfl
theorem L6080 : (6080 : Int32) = nI 6080 := rfl
theorem Z_le {a b : Nat} (ha : a < 2 ^ 31) (hb : b < 2 ^ 31) : (nI a ≤ nI b) = (a ≤ b) := propext (nI_leI ha hb)
theorem Z_lt {a b : Nat} (ha : a < 2 ^ 31) (hb : b < 2 ^ 31) : (nI a < nI b) = (a < b) := propext (nI_ltI ha hb)
theorem Z_eq {a b : Nat} (ha : a < 2 ^ 31) (hb : b < 2 ^ 31) : (nI a = nI b) = (a = b) := propext (nI_eq ha hb)
theorem Z_add (a b : Nat) : nI a + nI b = nI (a + b) := nI_add a b
theorem Z_mul (a b : Nat) : nI a * nI b = nI (a * b) := pk_mul a b
theorem Z_sub {a b : Nat} (h : b ≤ a) : nI a - nI b = nI (a - b) := pk_sub h
theorem Z_div {a d : Nat} (ha : a < 2 ^ 31) (h0 : 0 < d) (hd : d < 2 ^ 31) : nI a / nI d = nI (a / d) := pk_div ha h0 hd
theorem Z_rem {a d : Nat} (ha : a < 2 ^ 31) (h0 : 0 < d) (hd : d < 2 ^ 31) : nI a - nI a / nI d * nI d = nI (a % d) := pk_rem ha h0 hd
theorem Z_m1 {a : Nat} (h : a < 2 ^ 31) : (nI a = -1) = False := propext ⟨fun e => by
  have := congrArg Int32.toInt e
  rw [nI_toInt h] at this
  have h2 : (-1 : Int32).toInt = -1 := by decide
  omega, False.elim⟩
theorem Z_m1' {a : Nat} (h : a < 2 ^ 31) : ((-1 : Int32) = nI a) = False := propext ⟨fun e => by
  exact (Z_m1 h).mp e.symm, False.elim⟩
theorem Z_0m1 : nI 0 - nI 1 = -1 := by decide
theorem Z_lm1 {a : Nat} (h : a < 2 ^ 31) : (nI a ≤ -1) = False := propext ⟨fun e => by
  rw [Int32.le_iff_toInt_le, nI_toInt h] at e
  have h2 : (-1 : Int32).toInt = -1 := by decide
  omega, False.elim⟩
theorem Z_m1l {a : Nat} (h : a < 2 ^ 31) : ((-1 : Int32) < nI a) = True := propext ⟨fun _ => trivial, fun _ => by
  rw [Int32.lt_iff_toInt_lt, nI_toInt h]
  have h2 : (-1 : Int32).toInt = -1 := by decide
  omega⟩
theorem Z_vpb {k n : Nat} (h : k < 2 ^ 31) : (vpb (nI k) n = true) = (k < n) := by
  unfold vpb
  rw [nI_clamp h]
  have h0 : ¬ nI k < 0 := nI_pos h
  simp [h0]
theorem Z_rget {n k : Nat} {f : Nat → Int32} (h : k < 2 ^ 31) (hn : n < 2 ^ 31) : rget n f (nI k) = if k < n then f k else nI 0 := by
  unfold rget
  rw [if_neg (nI_pos h), nI_clamp h]
  by_cases h2 : k < n
  · rw [if_neg (by rw [Z_le hn h]; omega), if_pos h2]
  · rw [if_pos (by rw [Z_le hn h]; omega), if_neg h2]
    rfl
theorem Z_rgetm {n : Nat} {f : Nat → Int32} : rget n f (-1) = nI 0 := by
  unfold rget
  rw [if_pos (by decide)]
  rfl
theorem Z_rset {n k : Nat} {f : Nat → Int32} {v : Int32} (h : k < 2 ^ 31) (hn : n < 2 ^ 31) : rset n f (nI k) v = if k < n then upd f k v else f := by
  unfold rset
  rw [if_neg (nI_pos h), nI_clamp h]
  by_cases h2 : k < n
  · rw [if_neg (by rw [Z_le hn h]; omega), if_pos h2]
  · rw [if_pos (by rw [Z_le hn h]; omega), if_neg h2]
theorem Z_rcpy {n2 n a b c : Nat} {f2 f : Nat → Int32} (h2 : n2 < 2 ^ 31) (h : n < 2 ^ 31) (ha : a + c ≤ n2) (hb : b + c ≤ n) : rcpy n2 f2 n f (nI a) (nI b) (nI c) = va_cpy f2 f a b c := by
  unfold rcpy
  rw [if_neg (nI_pos (by omega)), if_neg (nI_pos (by omega)), Z_sub (by omega), if_neg (by rw [Z_lt (by omega) (by omega)]; omega), if_neg (nI_pos (by omega)), Z_sub (by omega), if_neg (by rw [Z_lt (by omega) (by omega)]; omega), nI_clamp (by omega), nI_clamp (by omega), nI_clamp (by omega)]
theorem Z_gsel {g : Nat} (h : g < 2) : gsel (nI g) = 1 + g := by
  match g, h with
  | 0, _ => rfl
  | 1, _ => rfl
theorem Z_cmp {x y : Int32} : lg_cmp x.toInt64 y.toInt64 = if y < x then 1 else if x = y then 0 else -1 := by
  have e1 : x.toInt64 > y.toInt64 ↔ y < x := by
    show y.toInt64 < x.toInt64 ↔ _
    rw [Int64.lt_iff_toInt_lt, Int32.lt_iff_toInt_lt, Int32.toInt_toInt64, Int32.toInt_toInt64]
  have e2 : x.toInt64 = y.toInt64 ↔ x = y := by rw [← Int64.toInt_inj, ← Int32.toInt_inj, Int32.toInt_toInt64, Int32.toInt_toInt64]
  unfold lg_cmp
  simp only [e1, e2]
theorem Z_l (n : Nat) (x : Int64) (h : (nI n).toInt64 = x) : x = (nI n).toInt64 := h.symm
theorem T0 : (0 : Int64) = (nI 0).toInt64 := by decide
theorem T1 : (1 : Int64) = (nI 1).toInt64 := by decide
theorem T7 : (7 : Int64) = (nI 7).toInt64 := by decide
theorem T12 : (12 : Int64) = (nI 12).toInt64 := by decide
theorem T30 : (30 : Int64) = (nI 30).toInt64 := by decide
theorem T48 : (48 : Int64) = (nI 48).toInt64 := by decide
theorem T57 : (57 : Int64) = (nI 57).toInt64 := by decide
theorem T60 : (60 : Int64) = (nI 60).toInt64 := by decide
theorem T97 : (97 : Int64) = (nI 97).toInt64 := by decide
theorem T99 : (99 : Int64) = (nI 99).toInt64 := by decide
theorem T122 : (122 : Int64) = (nI 122).toInt64 := by decide
/-! loops -/
theorem lpN_run {X R : Type} {f : X → Option (X ⊕ R)} {x : Nat → X} : ∀ (n N : Nat), (∀ i, i < n → f (x i) = some (.inl (x (i + 1)))) → lpN (n + N) f (x 0) = lpN N f (x n) := by
  intro n
  induction n with
  | zero => intro N _; rw [Nat.zero_add]
  | succ n ih =>
    intro N h
    rw [show n + 1 + N = n + (N + 1) by omega, ih (N + 1) (fun i hi => h i (by omega))]
    show (match f (x n) with
      | some (.inl y) => lpN N f y
      | some (.inr r) => some r
      | none => none) = _
    rw [h n (by omega)]
theorem lpN_l {X R : Type} {f : X → Option (X ⊕ R)} {x y : X} {N : Nat} (h : f x = some (.inl y)) : lpN (N + 1) f x = lpN N f y := by
  show (match f x with
    | some (.inl y) => lpN N f y
    | some (.inr r) => some r
    | none => none) = _
  rw [h]
theorem lpN_r {X R : Type} {f : X → Option (X ⊕ R)} {x : X} {r : R} {N : Nat} (h : f x = some (.inr r)) : lpN (N + 1) f x = some r := by
  show (match f x with
    | some (.inl y) => lpN N f y
    | some (.inr r) => some r
    | none => none) = _
  rw [h]
/-- n turns and the end -/
theorem lpN_for {X R : Type} {f : X → Option (X ⊕ R)} {x : Nat → X} {r : R} {n N : Nat} (hN : n < N) (h : ∀ i, i < n → f (x i) = some (.inl (x (i + 1)))) (he : f (x n) = some (.inr r)) : lpN N f (x 0) = some r := by
  obtain ⟨k, rfl⟩ : ∃ k, N = n + (k + 1) := ⟨N - n - 1, by omega⟩
  rw [lpN_run n (k + 1) h, lpN_r he]
/-- a loop with an invariant and a measure that falls -/
theorem lpN_inv {X R : Type} {f : X → Option (X ⊕ R)} (P : Nat → X → Prop) (Q : R → Prop) (hs : ∀ n x, P n x → (∃ y m, m < n ∧ f x = some (.inl y) ∧ P m y) ∨ ∃ r, f x = some (.inr r) ∧ Q r) : ∀ n N x, P n x → n < N → ∃ r, lpN N f x = some r ∧ Q r := by
  intro n
  induction n using Nat.strongRecOn with
  | ind n ih =>
    intro N x hP hN
    obtain ⟨N', rfl⟩ : ∃ k, N = k + 1 := ⟨N - 1, by omega⟩
    rcases hs n x hP with ⟨y, m, hm, e, hy⟩ | ⟨r, e, hr⟩
    · obtain ⟨r, e2, hr⟩ := ih m hm N' y hy (by omega)
      exact ⟨r, by rw [lpN_l e]; exact e2, hr⟩
    · exact ⟨r, lpN_r e, hr⟩
/-- a loop of n turns, with what holds before each -/
theorem lpN_up {X R : Type} {f : X → Option (X ⊕ R)} (P : Nat → X → Prop) (Q : R → Prop) {n N : Nat} {x0 : X} (hN : n < N) (h0 : P 0 x0) (hs : ∀ i x, i < n → P i x → ∃ y, f x = some (.inl y) ∧ P (i + 1) y) (he : ∀ x, P n x → ∃ r, f x = some (.inr r) ∧ Q r) : ∃ r, lpN N f x0 = some r ∧ Q r := by
  refine lpN_inv (fun m x => ∃ i, i ≤ n ∧ m = n - i ∧ P i x) Q ?_ n N x0 ⟨0, Nat.zero_le _, by omega, h0⟩ hN
  rintro m x ⟨i, hi, rfl, hP⟩
  by_cases c : i < n
  · obtain ⟨y, e, hy⟩ := hs i x c hP
    exact Or.inl ⟨y, n - (i + 1), by omega, e, i + 1, by omega, rfl, hy⟩
  · have e : i = n := by omega
    subst e
    exact Or.inr (he x hP)
/-- how many below n -/
def cnt (p : Nat → Bool) : Nat → Nat
  | 0 => 0
  | n + 1 => cnt p n + if p n = true then 1 else 0
theorem cnt_le (p : Nat → Bool) : ∀ n, cnt p n ≤ n
  | 0 => Nat.le_refl 0
  | n + 1 => by
    have := cnt_le p n
    unfold cnt
    split <;> omega
theorem cnt_congr {p q : Nat → Bool} : ∀ n, (∀ k, k < n → p k = q k) → cnt p n = cnt q n
  | 0, _ => rfl
  | n + 1, h => by
    unfold cnt
    rw [cnt_congr n (fun k hk => h k (by omega)), h n (by omega)]
theorem lp_cnt {f : Int32 × Int32 → Option ((Int32 × Int32) ⊕ Int32)} (p : Nat → Bool) {n N : Nat} (hN : n < N) (hs : ∀ i c, i < n → c ≤ i → f (nI c, nI i) = some (.inl (nI (c + if p i = true then 1 else 0), nI (i + 1)))) (he : ∀ c, c ≤ n → f (nI c, nI n) = some (.inr (nI c))) : lpN N f (0, 0) = some (nI (cnt p n)) :=
  lpN_for (x := fun i => (nI (cnt p i), nI i)) hN (fun i hi => hs i _ hi (cnt_le p i)) (he _ (cnt_le p n))
/-- the first of n from i on -/
def fstF (p : Nat → Bool) : Nat → Nat → Option Nat
  | 0, _ => none
  | n + 1, i => if p i = true then some i else fstF p n (i + 1)
theorem fstF_some {p : Nat → Bool} {k : Nat} : ∀ {n i : Nat}, fstF p n i = some k → i ≤ k ∧ k < i + n ∧ p k = true ∧ ∀ j, i ≤ j → j < k → p j = false := by
  intro n
  induction n with
  | zero => intro i h; cases h
  | succ n ih =>
    intro i h
    unfold fstF at h
    by_cases c : p i = true
    · rw [if_pos c] at h
      cases h
      exact ⟨Nat.le_refl _, by omega, c, fun j h1 h2 => by omega⟩
    · rw [if_neg c] at h
      obtain ⟨h1, h2, h3, h4⟩ := ih h
      refine ⟨by omega, by omega, h3, fun j h5 h6 => ?_⟩
      by_cases c2 : j = i
      · subst c2
        simpa using c
      · exact h4 j (by omega) h6
theorem fstF_none {p : Nat → Bool} : ∀ {n i : Nat}, fstF p n i = none → ∀ j, i ≤ j → j < i + n → p j = false := by
  intro n
  induction n with
  | zero => intro i _ j h1 h2; omega
  | succ n ih =>
    intro i h j h1 h2
    unfold fstF at h
    by_cases c : p i = true
    · rw [if_pos c] at h; cases h
    · rw [if_neg c] at h
      by_cases c2 : j = i
      · subst c2
        simpa using c
      · exact ih h j (by omega) (by omega)
theorem fstF_is {p : Nat → Bool} {k : Nat} {n i : Nat} (h1 : i ≤ k) (h2 : k < i + n) (h3 : p k = true) (h4 : ∀ j, i ≤ j → j < k → p j = false) : fstF p n i = some k := by
  cases e : fstF p n i with
  | none => exact absurd (fstF_none e k h1 h2) (by rw [h3]; decide)
  | some j =>
    obtain ⟨a1, a2, a3, a4⟩ := fstF_some e
    congr 1
    rcases Nat.lt_trichotomy j k with h | h | h
    · have := h4 j a1 h
      rw [a3] at this
      cases this
    · exact h
    · have := a4 k h1 h
      rw [h3] at this
      cases this
theorem fstF_no {p : Nat → Bool} {n i : Nat} (h : ∀ j, i ≤ j → j < i + n → p j = false) : fstF p n i = none := by
  cases e : fstF p n i with
  | none => rfl
  | some j =>
    obtain ⟨a1, a2, a3, a4⟩ := fstF_some e
    have := h j a1 a2
    rw [a3] at this
    cases this
theorem fstF_congr {p q : Nat → Bool} : ∀ {n i : Nat}, (∀ j, i ≤ j → j < i + n → p j = q j) → fstF p n i = fstF q n i := by
  intro n
  induction n with
  | zero => intro i _; rfl
  | succ n ih =>
    intro i h
    unfold fstF
    rw [h i (Nat.le_refl _) (by omega), ih (fun j h1 h2 => h j (by omega) (by omega))]
/-- a loop that ends at the first of n -/
theorem lp_fst {X R : Type} {f : X → Option (X ⊕ R)} {p : Nat → Bool} {x : Nat → X} {r : Nat → R} {r0 : R} : ∀ {n i N : Nat}, n < N → (∀ j, i ≤ j → j < i + n → p j = true → f (x j) = some (.inr (r j))) → (∀ j, i ≤ j → j < i + n → p j = false → f (x j) = some (.inl (x (j + 1)))) → f (x (i + n)) = some (.inr r0) → lpN N f (x i) = some (match fstF p n i with
    | some k => r k
    | none => r0) := by
  intro n
  induction n with
  | zero =>
    intro i N hN _ _ he
    obtain ⟨N', rfl⟩ : ∃ k, N = k + 1 := ⟨N - 1, by omega⟩
    exact lpN_r he
  | succ n ih =>
    intro i N hN h1 h2 he
    obtain ⟨N', rfl⟩ : ∃ k, N = k + 1 := ⟨N - 1, by omega⟩
    unfold fstF
    cases c : p i with
    | true =>
      rw [lpN_r (h1 i (Nat.le_refl _) (by omega) c)]
      simp
    | false =>
      rw [lpN_l (h2 i (Nat.le_refl _) (by omega) c), ih (by omega) (fun j a b => h1 j (by omega) (by omega)) (fun j a b => h2 j (by omega) (by omega)) (by rw [show i + 1 + n = i + (n + 1) by omega]; exact he)]
      simp
/-! copies -/
theorem cpy_0 {f g : Nat → Int32} {a b : Nat} : va_cpy f g a b 0 = g := by
  funext k
  exact if_neg (by omega)
theorem cpy_s {f g : Nat → Int32} {a b n : Nat} : upd (va_cpy f g a b n) (b + n) (f (a + n)) = va_cpy f g a b (n + 1) := by
  funext k
  unfold upd va_cpy
  by_cases h : k = b + n
  · rw [if_pos h, if_pos (by omega), h]
    congr 1
    omega
  · rw [if_neg h]
    by_cases h2 : b ≤ k ∧ k < b + n
    · rw [if_pos h2, if_pos (by omega)]
    · rw [if_neg h2, if_neg (by omega)]
theorem upd_self {f : Nat → Int32} {k : Nat} : upd f k (f k) = f := by
  funext j
  unfold upd
  split
  · rename_i h; rw [h]
  · rfl
theorem sA_2n {g : HV} {a b : Nat} {r : Nat → Int32} (h : b ≠ a) : (sA g a r).2 b = g.2 b := if_neg h
theorem sA_1 {g : HV} {a : Nat} {r : Nat → Int32} : (sA g a r).1 = g.1 := rfl
theorem sS_2 {g : HV} {f : Nat} {v : Int32} : (sS g f v).2 = g.2 := rfl
theorem sS_1 {g : HV} {f : Nat} {v : Int32} : (sS g f v).1 f = v := if_pos rfl
theorem sS_1n {g : HV} {f k : Nat} {v : Int32} (h : k ≠ f) : (sS g f v).1 k = g.1 k := if_neg h
theorem sA_id {g : HV} {a : Nat} {r : Nat → Int32} (h : g.2 a = r) : sA g a r = g := by
  subst h
  unfold sA
  rw [up_id]
/-- the number of lots of a row of 760 cells read from a to b (in the same cells: forward, or apart) -/
theorem lp_cpy {R : Type} {f : Int32 × HV → Option ((Int32 × HV) ⊕ R)} {c d from_ to n j0 : Nat} {t : HV} {r : R} {N : Nat} (hN : n < N) (ho : c = d → to ≤ from_ ∨ from_ + n ≤ to)
    (hs : ∀ i t', i < n → t' = sA t d (va_cpy (t.2 c) (t.2 d) from_ to i) → f (nI (j0 + i), t') = some (.inl (nI (j0 + i + 1), sA t' d (upd (t'.2 d) (to + i) (t'.2 c (from_ + i))))))
    (he : ∀ t', t' = sA t d (va_cpy (t.2 c) (t.2 d) from_ to n) → f (nI (j0 + n), t') = some (.inr r)) : lpN N f (nI j0, t) = some r := by
  have h := lpN_for (f := f) (r := r) (x := fun i => (nI (j0 + i), sA t d (va_cpy (t.2 c) (t.2 d) from_ to i))) hN (fun i hi => ?_) (he _ rfl)
  · simp only [cpy_0, sA_id, Nat.add_zero] at h
    exact h
  · rw [hs i _ hi rfl, sA_sA, sA2s]
    congr 4
    rw [← cpy_s]
    congr 1
    by_cases hcd : c = d
    · subst hcd
      rw [sA2s]
      refine pk_cpy_out ?_
      rcases ho rfl with h | h <;> omega
    · rw [sA_2n hcd]
