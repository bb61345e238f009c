/-! ===== tokens ===== -/
def isL (b : Nat) : Bool := decide (97 ≤ b ∧ b ≤ 122)
def isD (b : Nat) : Bool := decide (48 ≤ b ∧ b ≤ 57)
theorem isL_t {b : Nat} : (isL b = true) = (97 ≤ b ∧ b ≤ 122) := decide_eq_true_eq
theorem isD_t {b : Nat} : (isD b = true) = (48 ≤ b ∧ b ≤ 57) := decide_eq_true_eq
def isSp (b : Nat) : Bool := decide (b = 32)
theorem isSp_t {b : Nat} : (isSp b = true) = (b = 32) := decide_eq_true_eq
/-- where a run of such bytes ends -/
def runE (q : Nat → Bool) (n p : Nat) : Nat := match fstF (fun k => !q k) (n - p) p with
  | some k => k
  | none => n
theorem runE_sp {q : Nat → Bool} {n p : Nat} (hp : p ≤ n) : p ≤ runE q n p ∧ runE q n p ≤ n ∧ (∀ k, p ≤ k → k < runE q n p → q k = true) ∧ (runE q n p < n → q (runE q n p) = false) := by
  unfold runE
  cases h : fstF (fun k => !q k) (n - p) p with
  | none =>
    refine ⟨hp, Nat.le_refl _, fun k h1 h2 => ?_, fun h2 => absurd h2 (Nat.lt_irrefl n)⟩
    have h3 := fstF_none h k h1 (by show k < p + (n - p); have : k < n := h2; omega)
    simpa using h3
  | some k =>
    obtain ⟨h1, h2, h3, h4⟩ := fstF_some h
    refine ⟨h1, by show k ≤ n; omega, fun j q1 q2 => ?_, fun _ => by simpa using h3⟩
    have := h4 j q1 q2
    simpa using this
theorem runE_is {q : Nat → Bool} {n p k : Nat} (h1 : p ≤ k) (h2 : k ≤ n) (h3 : ∀ j, p ≤ j → j < k → q j = true) (h4 : k < n → q k = false) : runE q n p = k := by
  obtain ⟨a1, a2, a3, a4⟩ := runE_sp (q := q) (n := n) (p := p) (by omega)
  rcases Nat.lt_trichotomy (runE q n p) k with h | h | h
  · have e1 := h3 _ a1 h
    rw [a4 (by omega)] at e1
    cases e1
  · exact h
  · have e1 := a3 k h1 h
    rw [h4 (by omega)] at e1
    cases e1
def tS (B : Nat → Nat) (n p : Nat) : Nat := runE (fun k => isSp (B k)) n p
def tK (B : Nat → Nat) (n p : Nat) : Nat := if n ≤ tS B n p then 0 else if isL (B (tS B n p)) = true then 1 else if isD (B (tS B n p)) = true then 2 else if B (tS B n p) = 59 then 3 else 4
def tE (B : Nat → Nat) (n p : Nat) : Nat := if n ≤ tS B n p then n else if isL (B (tS B n p)) = true then runE (fun k => isL (B k)) n (tS B n p) else if isD (B (tS B n p)) = true then runE (fun k => isD (B k)) n (tS B n p) else tS B n p + 1
theorem tS_le {B : Nat → Nat} {n p : Nat} (hp : p ≤ n) : p ≤ tS B n p ∧ tS B n p ≤ n := ⟨(runE_sp hp).1, (runE_sp hp).2.1⟩
theorem tE_le {B : Nat → Nat} {n p : Nat} (hp : p ≤ n) : tS B n p ≤ tE B n p ∧ tE B n p ≤ n := by
  have h := tS_le (B := B) hp
  unfold tE
  split
  · omega
  · split
    · exact ⟨(runE_sp h.2).1, (runE_sp h.2).2.1⟩
    · split
      · exact ⟨(runE_sp h.2).1, (runE_sp h.2).2.1⟩
      · omega
theorem tK_0 {B : Nat → Nat} {n p : Nat} : tK B n p = 0 ↔ n ≤ tS B n p := by
  unfold tK
  split
  · simp [*]
  · rename_i h
    constructor
    · intro q
      split at q
      · cases q
      · split at q
        · cases q
        · split at q <;> cases q
    · intro q; exact absurd q h
theorem tK_1 {B : Nat → Nat} {n p : Nat} : tK B n p = 1 ↔ tS B n p < n ∧ isL (B (tS B n p)) = true := by
  unfold tK
  constructor
  · intro q
    split at q
    · cases q
    · split at q
      · exact ⟨by omega, by assumption⟩
      · split at q
        · cases q
        · split at q <;> cases q
  · rintro ⟨q1, q2⟩
    rw [if_neg (by omega), if_pos q2]
theorem tK_2 {B : Nat → Nat} {n p : Nat} : tK B n p = 2 ↔ tS B n p < n ∧ isD (B (tS B n p)) = true := by
  unfold tK
  constructor
  · intro q
    split at q
    · cases q
    · split at q
      · cases q
      · split at q
        · exact ⟨by omega, by assumption⟩
        · split at q <;> cases q
  · rintro ⟨q1, q2⟩
    have q3 : ¬ isL (B (tS B n p)) = true := by rw [isL_t]; rw [isD_t] at q2; omega
    rw [if_neg (by omega), if_neg q3, if_pos q2]
theorem tK_3 {B : Nat → Nat} {n p : Nat} : tK B n p = 3 ↔ tS B n p < n ∧ B (tS B n p) = 59 := by
  unfold tK
  constructor
  · intro q
    split at q
    · cases q
    · split at q
      · cases q
      · split at q
        · cases q
        · split at q
          · exact ⟨by omega, by assumption⟩
          · cases q
  · rintro ⟨q1, q2⟩
    have q3 : ¬ isL (B (tS B n p)) = true := by rw [isL_t, q2]; omega
    have q4 : ¬ isD (B (tS B n p)) = true := by rw [isD_t, q2]; omega
    rw [if_neg (by omega), if_neg q3, if_neg q4, if_pos q2]
theorem tK_lt {B : Nat → Nat} {n p : Nat} : tK B n p < 5 := by
  unfold tK
  split
  · decide
  · split
    · decide
    · split
      · decide
      · split <;> decide
theorem tE_gt {B : Nat → Nat} {n p : Nat} (hp : p ≤ n) (h : tS B n p < n) : tS B n p < tE B n p := by
  have h2 := tS_le (B := B) hp
  unfold tE
  rw [if_neg (by omega)]
  split
  · rename_i hl
    obtain ⟨a1, a2, a3, a4⟩ := runE_sp (q := fun k => isL (B k)) (n := n) (p := tS B n p) h2.2
    by_cases c : tS B n p = runE (fun k => isL (B k)) n (tS B n p)
    · rw [← c] at a4
      have := a4 h
      rw [hl] at this
      cases this
    · omega
  · split
    · rename_i hl
      obtain ⟨a1, a2, a3, a4⟩ := runE_sp (q := fun k => isD (B k)) (n := n) (p := tS B n p) h2.2
      by_cases c : tS B n p = runE (fun k => isD (B k)) n (tS B n p)
      · rw [← c] at a4
        have := a4 h
        rw [hl] at this
        cases this
      · omega
    · omega
/-! the program's reader: bytes B up to n, at p -/
def CB (B : Nat → Nat) (n : Nat) (g : HV) : Prop := n ≤ 800 ∧ (∀ k, k < n → B k < 256 ∧ g.2 0 k = nI (B k)) ∧ g.1 1 = nI n
theorem CB_e {B : Nat → Nat} {n : Nat} {g g' : HV} (h : CB B n g) (e2 : g'.2 = g.2) (e1 : g'.1 1 = g.1 1) : CB B n g' := ⟨h.1, by rw [e2]; exact h.2.1, e1.trans h.2.2⟩
theorem CB_get {B : Nat → Nat} {n k : Nat} {g : HV} (h : CB B n g) (hk : k < n) : rget 800 (g.2 0) (nI k) = nI (B k) := by
  have := h.1
  rw [Z_rget (by omega) (by decide), if_pos (by omega)]
  exact (h.2.1 k hk).2
theorem Z_isL {b : Nat} (h : b < 256) : F_X10_isLetter (nI b) = isL b := by
  unfold F_X10_isLetter
  rw [L97, L122]
  by_cases c : b < 97
  · rw [if_pos (by rw [Z_lt (by omega) (by omega)]; exact c)]
    exact (decide_eq_false (by omega)).symm
  · rw [if_neg (by rw [Z_lt (by omega) (by omega)]; exact c)]
    by_cases c2 : 122 < b
    · rw [if_pos (by rw [Z_lt (by omega) (by omega)]; exact c2)]
      exact (decide_eq_false (by omega)).symm
    · rw [if_neg (by rw [Z_lt (by omega) (by omega)]; exact c2)]
      exact (decide_eq_true (by omega)).symm
theorem Z_isD {b : Nat} (h : b < 256) : F_X10_isDigit (nI b) = isD b := by
  unfold F_X10_isDigit
  rw [L48, L57]
  by_cases c : b < 48
  · rw [if_pos (by rw [Z_lt (by omega) (by omega)]; exact c)]
    exact (decide_eq_false (by omega)).symm
  · rw [if_neg (by rw [Z_lt (by omega) (by omega)]; exact c)]
    by_cases c2 : 57 < b
    · rw [if_pos (by rw [Z_lt (by omega) (by omega)]; exact c2)]
      exact (decide_eq_false (by omega)).symm
    · rw [if_neg (by rw [Z_lt (by omega) (by omega)]; exact c2)]
      exact (decide_eq_true (by omega)).symm
/-- what a token leaves -/
def CK (B : Nat → Nat) (n p : Nat) (g g' : HV) : Prop := g'.2 = g.2 ∧ g'.1 1 = g.1 1 ∧ g'.1 2 = nI (tE B n p) ∧ g'.1 3 = nI (tK B n p) ∧ g'.1 4 = nI (tS B n p) ∧ g'.1 5 = nI (tE B n p - tS B n p) ∧ ∀ i, 6 ≤ i → g'.1 i = g.1 i
theorem C_run91 {B : Nat → Nat} {n s N : Nat} {g : HV} (h : CB B n g) (hs : s ≤ n) (h2 : g.1 2 = nI s) (h4 : g.1 4 = nI s) (hN : 900 < N) : ∃ g', lpN N (fun z => st_X9_readToken_91 N z) g = some g' ∧ g'.2 = g.2 ∧ g'.1 2 = nI (runE (fun k => isL (B k)) n s) ∧ g'.1 5 = nI (runE (fun k => isL (B k)) n s - s) ∧ ∀ i, i ≠ 2 → i ≠ 5 → g'.1 i = g.1 i := by
  have h800 := h.1
  refine lpN_upx (f := fun z => st_X9_readToken_91 N z) (fun i (x : HV) => x.2 = g.2 ∧ x.1 2 = nI (s + i) ∧ (∀ j, j ≠ 2 → x.1 j = g.1 j) ∧ ∀ j, s ≤ j → j < s + i → isL (B j) = true) _ (n := n - s) (N := N) (by omega) ⟨rfl, h2, fun _ _ => rfl, fun j a b => absurd b (by omega)⟩ (fun i x hi hP => ?_) (fun x hP => ?_)
  · obtain ⟨e2, ep, eo, hl⟩ := hP
    have hB : CB B n x := CB_e h e2 (eo 1 (by decide))
    have hb := (h.2.1 (s + i) (by omega)).1
    show (∃ y, st_X9_readToken_91 N x = _ ∧ _) ∨ ∃ r, st_X9_readToken_91 N x = _ ∧ _
    unfold st_X9_readToken_91
    rw [hB.2.2, ep, if_neg (by rw [Z_le (by omega) (by omega)]; omega), CB_get hB (by omega), Z_isL hb]
    cases c : isL (B (s + i)) with
    | true =>
      rw [if_pos rfl, lt_d, L1, Z_add]
      exact Or.inl ⟨_, rfl, by rw [sS_2]; exact e2, by rw [sS_1]; rfl, fun j hj => by rw [sS_1n hj]; exact eo j hj, fun j a b => by
        by_cases e : j = s + i
        · rw [e]; exact c
        · exact hl j a (by omega)⟩
    | false =>
      have er : runE (fun k => isL (B k)) n s = s + i := runE_is (by omega) (by omega) hl (fun _ => c)
      rw [if_neg Bool.false_ne_true, lt_d, eo 4 (by decide), h4, Z_sub (by omega), er]
      exact Or.inr ⟨_, rfl, by rw [sS_2]; exact e2, by rw [sS_1n (by decide)]; exact ep, sS_1, fun j a b => by rw [sS_1n b]; exact eo j a⟩
  · obtain ⟨e2, ep, eo, hl⟩ := hP
    have er : runE (fun k => isL (B k)) n s = s + (n - s) := runE_is (by omega) (by omega) hl (fun q => absurd q (by omega))
    show ∃ r, st_X9_readToken_91 N x = _ ∧ _
    unfold st_X9_readToken_91
    rw [eo 1 (by decide), h.2.2, ep, if_pos (by rw [Z_le (by omega) (by omega)]; omega), lt_d, eo 4 (by decide), h4, Z_sub (by omega), er]
    exact ⟨_, rfl, by rw [sS_2]; exact e2, by rw [sS_1n (by decide)]; exact ep, sS_1, fun j a b => by rw [sS_1n b]; exact eo j a⟩
theorem C_run144 {B : Nat → Nat} {n s N : Nat} {g : HV} (h : CB B n g) (hs : s ≤ n) (h2 : g.1 2 = nI s) (h4 : g.1 4 = nI s) (hN : 900 < N) : ∃ g', lpN N (fun z => st_X9_readToken_144 N z) g = some g' ∧ g'.2 = g.2 ∧ g'.1 2 = nI (runE (fun k => isD (B k)) n s) ∧ g'.1 5 = nI (runE (fun k => isD (B k)) n s - s) ∧ ∀ i, i ≠ 2 → i ≠ 5 → g'.1 i = g.1 i := by
  have h800 := h.1
  refine lpN_upx (f := fun z => st_X9_readToken_144 N z) (fun i (x : HV) => x.2 = g.2 ∧ x.1 2 = nI (s + i) ∧ (∀ j, j ≠ 2 → x.1 j = g.1 j) ∧ ∀ j, s ≤ j → j < s + i → isD (B j) = true) _ (n := n - s) (N := N) (by omega) ⟨rfl, h2, fun _ _ => rfl, fun j a b => absurd b (by omega)⟩ (fun i x hi hP => ?_) (fun x hP => ?_)
  · obtain ⟨e2, ep, eo, hl⟩ := hP
    have hB : CB B n x := CB_e h e2 (eo 1 (by decide))
    have hb := (h.2.1 (s + i) (by omega)).1
    show (∃ y, st_X9_readToken_144 N x = _ ∧ _) ∨ ∃ r, st_X9_readToken_144 N x = _ ∧ _
    unfold st_X9_readToken_144
    rw [hB.2.2, ep, if_neg (by rw [Z_le (by omega) (by omega)]; omega), CB_get hB (by omega), Z_isD hb]
    cases c : isD (B (s + i)) with
    | true =>
      rw [if_pos rfl, lt_d, L1, Z_add]
      exact Or.inl ⟨_, rfl, by rw [sS_2]; exact e2, by rw [sS_1]; rfl, fun j hj => by rw [sS_1n hj]; exact eo j hj, fun j a b => by
        by_cases e : j = s + i
        · rw [e]; exact c
        · exact hl j a (by omega)⟩
    | false =>
      have er : runE (fun k => isD (B k)) n s = s + i := runE_is (by omega) (by omega) hl (fun _ => c)
      rw [if_neg Bool.false_ne_true, lt_d, eo 4 (by decide), h4, Z_sub (by omega), er]
      exact Or.inr ⟨_, rfl, by rw [sS_2]; exact e2, by rw [sS_1n (by decide)]; exact ep, sS_1, fun j a b => by rw [sS_1n b]; exact eo j a⟩
  · obtain ⟨e2, ep, eo, hl⟩ := hP
    have er : runE (fun k => isD (B k)) n s = s + (n - s) := runE_is (by omega) (by omega) hl (fun q => absurd q (by omega))
    show ∃ r, st_X9_readToken_144 N x = _ ∧ _
    unfold st_X9_readToken_144
    rw [eo 1 (by decide), h.2.2, ep, if_pos (by rw [Z_le (by omega) (by omega)]; omega), lt_d, eo 4 (by decide), h4, Z_sub (by omega), er]
    exact ⟨_, rfl, by rw [sS_2]; exact e2, by rw [sS_1n (by decide)]; exact ep, sS_1, fun j a b => by rw [sS_1n b]; exact eo j a⟩
/-- behind the spaces -/
def rtTail (N : Nat) (g : HV) : Option (HV ⊕ HV) := (lt (sS g 4 (g.1 2)) fun g1 => (if (g1.1 2) < (g1.1 1) then (if (F_X10_isLetter (rget 800 (g1.2 0) (g1.1 2))) = true then (lt (sS g1 3 1) fun g12 => (ob1 (lpN N (fun z => st_X9_readToken_91 N z) (g12)) fun q9 => some (.inr q9))) else (if (F_X10_isDigit (rget 800 (g1.2 0) (g1.1 2))) = true then (lt (sS g1 3 2) fun g8 => (ob1 (lpN N (fun z => st_X9_readToken_144 N z) (g8)) fun q9 => some (.inr q9))) else (if (rget 800 (g1.2 0) (g1.1 2)) = 59 then (lt (sS g1 3 3) fun g5 => (lt (sS g5 2 ((g5.1 2) + 1)) fun g6 => (lt (sS g6 5 ((g6.1 2) - (g6.1 4))) fun g7 => some (.inr g7)))) else (lt (sS g1 3 4) fun g2 => (lt (sS g2 2 ((g2.1 2) + 1)) fun g3 => (lt (sS g3 5 ((g3.1 2) - (g3.1 4))) fun g4 => some (.inr g4))))))) else (lt (sS g1 3 0) fun g16 => (lt (sS g16 5 ((g16.1 2) - (g16.1 4))) fun g17 => some (.inr g17)))))
theorem rt_eq {N : Nat} {g : HV} : st_X9_readToken_0 N g = (if (g.1 1) ≤ (g.1 2) then rtTail N g else (if (rget 800 (g.2 0) (g.1 2)) = 32 then (lt (sS g 2 ((g.1 2) + 1)) fun g29 => some (.inl g29)) else rtTail N g)) := rfl
theorem C_rtTail {B : Nat → Nat} {n p N : Nat} {g g0 : HV} (h : CB B n g) (hp : p ≤ n) (h2 : g.1 2 = nI (tS B n p)) (e2 : g.2 = g0.2) (eo : ∀ i, i ≠ 2 → g.1 i = g0.1 i) (hN : 900 < N) : ∃ g', rtTail N g = some (.inr g') ∧ CK B n p g0 g' := by
  have h800 := h.1
  have hs := tS_le (B := B) hp
  have b1 : (sS g 4 (nI (tS B n p))).1 1 = nI n := by rw [sS_1n (by decide)]; exact h.2.2
  have b2 : (sS g 4 (nI (tS B n p))).1 2 = nI (tS B n p) := by rw [sS_1n (by decide)]; exact h2
  have b4 : (sS g 4 (nI (tS B n p))).1 4 = nI (tS B n p) := sS_1
  unfold rtTail
  rw [h2, lt_d, b1, b2]
  by_cases c : tS B n p < n
  · have hb := (h.2.1 _ c).1
    have hB : CB B n (sS g 4 (nI (tS B n p))) := CB_e h sS_2 (sS_1n (by decide))
    rw [if_pos (by rw [Z_lt (by omega) (by omega)]; exact c), CB_get hB c, Z_isL hb, Z_isD hb]
    cases cl : isL (B (tS B n p)) with
    | true =>
      have hk : tK B n p = 1 := tK_1.mpr ⟨c, cl⟩
      have he : tE B n p = runE (fun k => isL (B k)) n (tS B n p) := by unfold tE; rw [if_neg (by omega), if_pos cl]
      rw [if_pos rfl, lt_d]
      obtain ⟨g', f1, f2, f3, f4, f5⟩ := C_run91 (B := B) (n := n) (s := tS B n p) (N := N) (g := sS (sS g 4 (nI (tS B n p))) 3 1) (CB_e hB sS_2 (sS_1n (by decide))) hs.2 (by rw [sS_1n (by decide)]; exact b2) (by rw [sS_1n (by decide)]; exact b4) hN
      rw [f1, ob1_s]
      refine ⟨g', rfl, ?_, ?_, by rw [f3, he], ?_, ?_, by rw [f4, he], fun i hi => ?_⟩
      · rw [f2, sS_2, sS_2]; exact e2
      · rw [f5 1 (by decide) (by decide), sS_1n (by decide), sS_1n (by decide)]; exact eo 1 (by decide)
      · rw [f5 3 (by decide) (by decide), sS_1, hk]; rfl
      · rw [f5 4 (by decide) (by decide), sS_1n (by decide), sS_1]
      · rw [f5 i (by omega) (by omega), sS_1n (by omega), sS_1n (by omega)]; exact eo i (by omega)
    | false =>
      rw [if_neg Bool.false_ne_true]
      cases cd : isD (B (tS B n p)) with
      | true =>
        have hk : tK B n p = 2 := tK_2.mpr ⟨c, cd⟩
        have he : tE B n p = runE (fun k => isD (B k)) n (tS B n p) := by unfold tE; rw [if_neg (by omega), if_neg (by rw [cl]; exact Bool.false_ne_true), if_pos cd]
        rw [if_pos rfl, lt_d]
        obtain ⟨g', f1, f2, f3, f4, f5⟩ := C_run144 (B := B) (n := n) (s := tS B n p) (N := N) (g := sS (sS g 4 (nI (tS B n p))) 3 2) (CB_e hB sS_2 (sS_1n (by decide))) hs.2 (by rw [sS_1n (by decide)]; exact b2) (by rw [sS_1n (by decide)]; exact b4) hN
        rw [f1, ob1_s]
        refine ⟨g', rfl, ?_, ?_, by rw [f3, he], ?_, ?_, by rw [f4, he], fun i hi => ?_⟩
        · rw [f2, sS_2, sS_2]; exact e2
        · rw [f5 1 (by decide) (by decide), sS_1n (by decide), sS_1n (by decide)]; exact eo 1 (by decide)
        · rw [f5 3 (by decide) (by decide), sS_1, hk]; rfl
        · rw [f5 4 (by decide) (by decide), sS_1n (by decide), sS_1]
        · rw [f5 i (by omega) (by omega), sS_1n (by omega), sS_1n (by omega)]; exact eo i (by omega)
      | false =>
        have he : tE B n p = tS B n p + 1 := by unfold tE; rw [if_neg (by omega), if_neg (by rw [cl]; exact Bool.false_ne_true), if_neg (by rw [cd]; exact Bool.false_ne_true)]
        have fin : ∀ k : Int32, k = nI (tK B n p) → (lt (sS (sS g 4 (nI (tS B n p))) 3 k) fun g5 => (lt (sS g5 2 ((g5.1 2) + 1)) fun g6 => (lt (sS g6 5 ((g6.1 2) - (g6.1 4))) fun g7 => (some (.inr g7) : Option (HV ⊕ HV))))) = some (.inr (sS (sS (sS (sS g 4 (nI (tS B n p))) 3 k) 2 (nI (tS B n p + 1))) 5 (nI (tS B n p + 1 - tS B n p)))) ∧ CK B n p g0 (sS (sS (sS (sS g 4 (nI (tS B n p))) 3 k) 2 (nI (tS B n p + 1))) 5 (nI (tS B n p + 1 - tS B n p))) := fun k hk => by
          have z2 : (sS (sS g 4 (nI (tS B n p))) 3 k).1 2 = nI (tS B n p) := by rw [sS_1n (by decide)]; exact b2
          have z4 : ∀ v, (sS (sS (sS g 4 (nI (tS B n p))) 3 k) 2 v).1 4 = nI (tS B n p) := fun v => by rw [sS_1n (by decide), sS_1n (by decide), sS_1]
          refine ⟨?_, ?_, ?_, ?_, ?_, ?_, ?_, fun i hi => ?_⟩
          · rw [lt_d, lt_d, lt_d, z2, L1, Z_add, sS_1, z4, Z_sub (by omega)]
          · rw [sS_2, sS_2, sS_2, sS_2]; exact e2
          · rw [sS_1n (by decide), sS_1n (by decide), sS_1n (by decide), sS_1n (by decide)]; exact eo 1 (by decide)
          · rw [sS_1n (by decide), sS_1, he]
          · rw [sS_1n (by decide), sS_1n (by decide), sS_1, hk]
          · rw [sS_1n (by decide), z4]
          · rw [sS_1, he]
          · rw [sS_1n (by omega), sS_1n (by omega), sS_1n (by omega), sS_1n (by omega)]; exact eo i (by omega)
        rw [if_neg Bool.false_ne_true]
        by_cases c59 : B (tS B n p) = 59
        · rw [if_pos (by rw [c59]; rfl)]
          exact ⟨_, fin 3 (by rw [tK_3.mpr ⟨c, c59⟩]; rfl)⟩
        · rw [if_neg (by rw [show (59 : Int32) = nI 59 from rfl, Z_eq (by omega) (by omega)]; exact c59)]
          refine ⟨_, fin 4 ?_⟩
          unfold tK
          rw [if_neg (by omega), if_neg (by rw [cl]; exact Bool.false_ne_true), if_neg (by rw [cd]; exact Bool.false_ne_true), if_neg c59]
          rfl
  · have hk : tK B n p = 0 := tK_0.mpr (by omega)
    have he : tE B n p = n := by unfold tE; rw [if_pos (by omega)]
    have hsn : tS B n p = n := by omega
    have z2 : ∀ v, (sS (sS g 4 (nI (tS B n p))) 3 v).1 2 = nI (tS B n p) := fun v => by rw [sS_1n (by decide)]; exact b2
    have z4 : ∀ v, (sS (sS g 4 (nI (tS B n p))) 3 v).1 4 = nI (tS B n p) := fun v => by rw [sS_1n (by decide), sS_1]
    rw [if_neg (by rw [Z_lt (by omega) (by omega)]; exact c), lt_d, lt_d, z2, z4, Z_sub (by omega)]
    refine ⟨_, rfl, ?_, ?_, ?_, ?_, ?_, ?_, fun i hi => ?_⟩
    · rw [sS_2, sS_2, sS_2]; exact e2
    · rw [sS_1n (by decide), sS_1n (by decide), sS_1n (by decide)]; exact eo 1 (by decide)
    · rw [sS_1n (by decide), z2, he, hsn]
    · rw [sS_1n (by decide), sS_1, hk]; rfl
    · rw [sS_1n (by decide), z4]
    · rw [sS_1, he, hsn]
    · rw [sS_1n (by omega), sS_1n (by omega), sS_1n (by omega)]; exact eo i (by omega)
theorem C_tok {B : Nat → Nat} {n p N : Nat} {g : HV} (h : CB B n g) (hp : p ≤ n) (h2 : g.1 2 = nI p) (hN : 900 < N) : ∃ g', F_X9_readToken N g = some g' ∧ CK B n p g g' := by
  have h800 := h.1
  unfold F_X9_readToken
  refine lpN_upx (f := fun z => st_X9_readToken_0 N z) (fun i (x : HV) => x.2 = g.2 ∧ x.1 2 = nI (p + i) ∧ (∀ j, j ≠ 2 → x.1 j = g.1 j) ∧ ∀ j, p ≤ j → j < p + i → isSp (B j) = true) _ (n := n - p) (N := N) (by omega) ⟨rfl, h2, fun _ _ => rfl, fun j a b => absurd b (by omega)⟩ (fun i x hi hP => ?_) (fun x hP => ?_)
  · obtain ⟨e2, ep, eo, hl⟩ := hP
    have hB : CB B n x := CB_e h e2 (eo 1 (by decide))
    have hb := (h.2.1 (p + i) (by omega)).1
    show (∃ y, st_X9_readToken_0 N x = _ ∧ _) ∨ ∃ r, st_X9_readToken_0 N x = _ ∧ _
    rw [rt_eq, hB.2.2, ep, if_neg (by rw [Z_le (by omega) (by omega)]; omega), CB_get hB (by omega)]
    by_cases c : B (p + i) = 32
    · rw [if_pos (by rw [c]; rfl), lt_d, L1, Z_add]
      exact Or.inl ⟨_, rfl, by rw [sS_2]; exact e2, by rw [sS_1]; rfl, fun j hj => by rw [sS_1n hj]; exact eo j hj, fun j a b => by
        by_cases e : j = p + i
        · rw [e, isSp_t]; exact c
        · exact hl j a (by omega)⟩
    · have er : tS B n p = p + i := runE_is (by omega) (by omega) hl (fun _ => decide_eq_false c)
      rw [if_neg (by rw [L32, Z_eq (by omega) (by omega)]; exact c)]
      obtain ⟨g', f1, f2⟩ := C_rtTail hB hp (by rw [ep, er]) e2 eo hN
      exact Or.inr ⟨g', f1, f2⟩
  · obtain ⟨e2, ep, eo, hl⟩ := hP
    have hB : CB B n x := CB_e h e2 (eo 1 (by decide))
    have er : tS B n p = p + (n - p) := runE_is (by omega) (by omega) hl (fun q => absurd q (by omega))
    show ∃ r, st_X9_readToken_0 N x = _ ∧ _
    rw [rt_eq, hB.2.2, ep, if_pos (by rw [Z_le (by omega) (by omega)]; omega)]
    obtain ⟨g', f1, f2⟩ := C_rtTail hB hp (by rw [ep, er]) e2 eo hN
    exact ⟨g', f1, f2⟩
