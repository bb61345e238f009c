/-! ===== looking at the hedge: the program's side ===== -/
theorem lpN_upx {X R : Type} {f : X → Option (X ⊕ R)} (P : Nat → X → Prop) (Q : R → Prop) {n N : Nat} {x0 : X} (hN : n < N) (h0 : P 0 x0) (hs : ∀ i x, i < n → P i x → (∃ y, f x = some (.inl y) ∧ P (i + 1) y) ∨ ∃ r, f x = some (.inr r) ∧ Q r) (he : ∀ x, P n x → ∃ r, f x = some (.inr r) ∧ Q r) : ∃ r, lpN N f x0 = some r ∧ Q r := by
  refine lpN_inv (fun m x => ∃ i, i ≤ n ∧ m = n - i ∧ P i x) Q ?_ n N x0 ⟨0, Nat.zero_le _, by omega, h0⟩ hN
  rintro m x ⟨i, hi, rfl, hP⟩
  by_cases c : i < n
  · rcases hs i x c hP with ⟨y, e, hy⟩ | h
    · exact Or.inl ⟨y, n - (i + 1), by omega, e, i + 1, by omega, rfl, hy⟩
    · exact Or.inr h
  · have e : i = n := by omega
    subst e
    exact Or.inr (he x hP)
theorem Z_dist {i s : Nat} (h : s ≤ i + 1) : nI i - nI s + nI 1 = nI (i + 1 - s) := by
  have e : nI (i + 1) - nI s = nI (i + 1 - s) := pk_sub h
  rw [← e, ← Z_add]
  grind
def oI (o : Option Nat) : Int32 := match o with
  | some k => nI k
  | none => -1
abbrev grd (R : Nat → Nat → Nat) (k : Nat) : Prop := (0 < k ∧ 0 < R 3 (k - 1)) ∨ 0 < R 3 k ∨ 0 < R 3 (k + 1)
def freB (R : Nat → Nat → Nat) (k : Nat) : Bool := decide (R 2 k = 0 ∧ R 4 k = 0 ∧ R 3 k = 0)
abbrev opn (R : Nat → Nat → Nat) (k : Nat) : Prop := R 2 k = 0 ∧ R 4 k = 0
def fit (R : Nat → Nat → Nat) (n L k : Nat) : Prop := k + L ≤ n ∧ (∀ j, j < L → freB R (k + j) = true) ∧ (0 < k → opn R (k - 1)) ∧ opn R (k + L)
noncomputable def fitB (R : Nat → Nat → Nat) (n L k : Nat) : Bool := @decide (fit R n L k) (Classical.propDecidable _)
theorem fitB_t {R : Nat → Nat → Nat} {n L k : Nat} : (fitB R n L k = true) = fit R n L k := by
  exact @decide_eq_true_eq _ (Classical.propDecidable _)
theorem fitB_f {R : Nat → Nat → Nat} {n L k : Nat} (h : ¬ fit R n L k) : fitB R n L k = false := by
  cases e : fitB R n L k with
  | false => rfl
  | true => rw [fitB_t] at e; exact absurd e h
noncomputable def fStart (R : Nat → Nat → Nat) (n L : Nat) : Option Nat := if L = 0 then none else fstF (fitB R n L) n 0
theorem fStart_fit {R : Nat → Nat → Nat} {n L k : Nat} (h : fStart R n L = some k) : 0 < L ∧ fit R n L k := by
  unfold fStart at h
  by_cases c : L = 0
  · rw [if_pos c] at h; cases h
  · rw [if_neg c] at h
    have h3 := (fstF_some h).2.2.1
    rw [fitB_t] at h3
    exact ⟨by omega, h3⟩
theorem C_hasTwig {A : AS} {T : Nat} {h : Nat → HV} (hH : RH A (h 0)) (hI : Inv A T) {k : Nat} (hk : k < 2 ^ 31) : (F_X5_hasTwig (nI k) h = true) = (0 < Hr A 2 k) := by
  have b := Inv_b hI k (a := 2) (by decide)
  unfold F_X5_hasTwig
  rw [C_row hH.2.2 hI (by decide) hk]
  simp (disch := omega) only [Z_le, Z_lt, Z_eq, Z_add, Z_mul, Z_m1, L0, L1, L2, L3, L4, L5, L6, L7, L8, L9, L10, L11, L12, L13, L14, L15, L16, L17, L18, L19, L20, L22, L24, L26, L30, L32, L39, L40, L42, L46, L48, L57, L59, L60, L61, L65, L97, L99, L122, L222, L255, L430, L460, L480, L760, L800, L5320, L6080]
  by_cases c : Hr A 2 k ≤ 0
  · rw [if_pos c]; simp; omega
  · rw [if_neg c]; simp; omega
theorem C_isBooked {A : AS} {T : Nat} {h : Nat → HV} (hH : RH A (h 0)) (hI : Inv A T) {k : Nat} (hk : k < 2 ^ 31) : (F_X5_isBooked (nI k) h = true) = (0 < Hr A 4 k) := by
  have b := Inv_b hI k (a := 4) (by decide)
  unfold F_X5_isBooked
  rw [C_row hH.2.2 hI (by decide) hk]
  simp (disch := omega) only [Z_le, Z_lt, Z_eq, Z_add, Z_mul, Z_m1, L0, L1, L2, L3, L4, L5, L6, L7, L8, L9, L10, L11, L12, L13, L14, L15, L16, L17, L18, L19, L20, L22, L24, L26, L30, L32, L39, L40, L42, L46, L48, L57, L59, L60, L61, L65, L97, L99, L122, L222, L255, L430, L460, L480, L760, L800, L5320, L6080]
  by_cases c : Hr A 4 k ≤ 0
  · rw [if_pos c]; simp; omega
  · rw [if_neg c]; simp; omega
theorem C_isGuarded {A : AS} {T : Nat} {h : Nat → HV} (hH : RH A (h 0)) (hI : Inv A T) {k : Nat} (hk : k < 2 ^ 30) : (F_X5_isGuarded (nI k) h = true) = grd (Hr A) k := by
  have b := Inv_b hI k (a := 3) (by decide)
  have b1 := Inv_b hI (k - 1) (a := 3) (by decide)
  have b2 := Inv_b hI (k + 1) (a := 3) (by decide)
  unfold F_X5_isGuarded
  rw [C_row hH.2.2 hI (by decide) (by omega), C_rowm hH.2.2 hI (by decide) (by omega), C_rowp hH.2.2 hI (by decide) (by omega)]
  unfold grd
  by_cases c : k = 0
  · rw [if_pos c]
    simp (disch := omega) only [Z_le, Z_lt, Z_eq, Z_add, Z_mul, Z_m1, L0, L1, L2, L3, L4, L5, L6, L7, L8, L9, L10, L11, L12, L13, L14, L15, L16, L17, L18, L19, L20, L22, L24, L26, L30, L32, L39, L40, L42, L46, L48, L57, L59, L60, L61, L65, L97, L99, L122, L222, L255, L430, L460, L480, L760, L800, L5320, L6080]
    by_cases c1 : 0 < Hr A 3 k
    · first | (simp [c1]; done) | (simp [c1]; omega)
    · by_cases c2 : Hr A 3 (k + 1) ≤ 0
      · first | (simp [c1, c2, c]; done) | (simp [c1, c2, c]; omega)
      · first | (simp [c1, c2, c]; done) | (simp [c1, c2, c]; omega)
  · rw [if_neg c]
    simp (disch := omega) only [Z_le, Z_lt, Z_eq, Z_add, Z_mul, Z_m1, L0, L1, L2, L3, L4, L5, L6, L7, L8, L9, L10, L11, L12, L13, L14, L15, L16, L17, L18, L19, L20, L22, L24, L26, L30, L32, L39, L40, L42, L46, L48, L57, L59, L60, L61, L65, L97, L99, L122, L222, L255, L430, L460, L480, L760, L800, L5320, L6080]
    by_cases c0 : 0 < Hr A 3 (k - 1)
    · first | (simp [c0]; done) | (simp [c0]; omega)
    · by_cases c1 : 0 < Hr A 3 k
      · first | (simp [c0, c1]; done) | (simp [c0, c1]; omega)
      · by_cases c2 : Hr A 3 (k + 1) ≤ 0
        · first | (simp [c0, c1, c2]; done) | (simp [c0, c1, c2]; omega)
        · first | (simp [c0, c1, c2]; done) | (simp [c0, c1, c2]; omega)
theorem C_active {A : AS} {T : Nat} {h : Nat → HV} (hH : RH A (h 0)) (hI : Inv A T) : F_X5_active h = nI (Hn A 6 % 2) := by
  obtain ⟨hT, ⟨⟨b0, b0'⟩, ⟨b1, b1'⟩, b2, ⟨b3, b3'⟩, ⟨b4, b4'⟩, ⟨b5, b5'⟩, b6, b7⟩, hRw, hNs, hQu, hPr, hVm⟩ := id hI
  unfold F_X5_active
  rw [hH.1 6 (by decide)]
  exact pk_andN (by omega) 1 rfl
theorem C_hasSlot {A : AS} {T : Nat} {h : Nat → HV} (hH : RH A (h 0)) (hI : Inv A T) (x : Int32) : (F_X5_hasSlot x h = false ∧ (x < 0 ∨ nI (Hn A 0) ≤ x)) ∨ (F_X5_hasSlot x h = true ∧ ∃ k, k < Hn A 0 ∧ x = nI k) := by
  obtain ⟨hT, ⟨⟨b0, b0'⟩, ⟨b1, b1'⟩, b2, ⟨b3, b3'⟩, ⟨b4, b4'⟩, ⟨b5, b5'⟩, b6, b7⟩, hRw, hNs, hQu, hPr, hVm⟩ := id hI
  unfold F_X5_hasSlot
  rw [hH.1 0 (by decide)]
  rcases pk_ix x (n := Hn A 0) (by omega) with c | c | ⟨k, hk, rfl⟩
  · rw [if_pos c]; exact Or.inl ⟨rfl, Or.inl c⟩
  · refine Or.inl ⟨?_, Or.inr c⟩
    rw [if_pos c]; split <;> rfl
  · refine Or.inr ⟨?_, k, hk, rfl⟩
    rw [if_neg (nI_pos (by omega)), if_neg]
    rw [Z_le (by omega) (by omega)]
    omega
theorem twgB_t {R : Nat → Nat → Nat} {i : Nat} : (twgB R i = true) = (0 < R 2 i) := decide_eq_true_eq
theorem nstB_t {R : Nat → Nat → Nat} {i : Nat} : (nstB R i = true) = (0 < R 3 i) := decide_eq_true_eq
theorem C_countTwigs {A : AS} {T : Nat} {h : Nat → HV} (hH : RH A (h 0)) (hI : Inv A T) {N : Nat} (hN : 40 < N) : F_X5_countTwigs N h = some (nI (cnt (twgB (Hr A)) (Hn A 0))) := by
  obtain ⟨hT, ⟨⟨b0, b0'⟩, ⟨b1, b1'⟩, b2, ⟨b3, b3'⟩, ⟨b4, b4'⟩, ⟨b5, b5'⟩, b6, b7⟩, hRw, hNs, hQu, hPr, hVm⟩ := id hI
  unfold F_X5_countTwigs
  refine lp_cnt (twgB (Hr A)) (by omega) (fun i c hi hc => ?_) (fun c hc => ?_)
  · show st_X5_countTwigs_4 N (nI c) (nI i) h = _
    have b := Inv_b hI i (a := 2) (by decide)
    unfold st_X5_countTwigs_4
    rw [hH.1 0 (by decide), C_row hH.2.2 hI (by decide) (by omega)]
    simp (disch := omega) only [Z_le, Z_lt, Z_eq, Z_add, Z_mul, Z_m1, L0, L1, L2, L3, L4, L5, L6, L7, L8, L9, L10, L11, L12, L13, L14, L15, L16, L17, L18, L19, L20, L22, L24, L26, L30, L32, L39, L40, L42, L46, L48, L57, L59, L60, L61, L65, L97, L99, L122, L222, L255, L430, L460, L480, L760, L800, L5320, L6080, if_pos, if_neg]
    by_cases c : Hr A 2 i ≤ 0
    · rw [if_pos c, if_neg (by rw [twgB_t]; omega)]
      rfl
    · rw [if_neg c, if_pos (by rw [twgB_t]; omega)]
  · show st_X5_countTwigs_4 N (nI c) (nI (Hn A 0)) h = _
    unfold st_X5_countTwigs_4
    rw [hH.1 0 (by decide)]
    simp (disch := omega) only [Z_le, Z_lt, Z_eq, Z_add, Z_mul, Z_m1, L0, L1, L2, L3, L4, L5, L6, L7, L8, L9, L10, L11, L12, L13, L14, L15, L16, L17, L18, L19, L20, L22, L24, L26, L30, L32, L39, L40, L42, L46, L48, L57, L59, L60, L61, L65, L97, L99, L122, L222, L255, L430, L460, L480, L760, L800, L5320, L6080, if_pos, if_neg]
theorem C_countNests {A : AS} {T : Nat} {h : Nat → HV} (hH : RH A (h 0)) (hI : Inv A T) {N : Nat} (hN : 40 < N) : F_X5_countNests N h = some (nI (cnt (nstB (Hr A)) (Hn A 0))) := by
  obtain ⟨hT, ⟨⟨b0, b0'⟩, ⟨b1, b1'⟩, b2, ⟨b3, b3'⟩, ⟨b4, b4'⟩, ⟨b5, b5'⟩, b6, b7⟩, hRw, hNs, hQu, hPr, hVm⟩ := id hI
  unfold F_X5_countNests
  refine lp_cnt (nstB (Hr A)) (by omega) (fun i c hi hc => ?_) (fun c hc => ?_)
  · show st_X5_countNests_4 N (nI c) (nI i) h = _
    have b := Inv_b hI i (a := 3) (by decide)
    unfold st_X5_countNests_4
    rw [hH.1 0 (by decide), C_row hH.2.2 hI (by decide) (by omega)]
    simp (disch := omega) only [Z_le, Z_lt, Z_eq, Z_add, Z_mul, Z_m1, L0, L1, L2, L3, L4, L5, L6, L7, L8, L9, L10, L11, L12, L13, L14, L15, L16, L17, L18, L19, L20, L22, L24, L26, L30, L32, L39, L40, L42, L46, L48, L57, L59, L60, L61, L65, L97, L99, L122, L222, L255, L430, L460, L480, L760, L800, L5320, L6080, if_pos, if_neg]
    by_cases c : Hr A 3 i ≤ 0
    · rw [if_pos c, if_neg (by rw [nstB_t]; omega)]
      rfl
    · rw [if_neg c, if_pos (by rw [nstB_t]; omega)]
  · show st_X5_countNests_4 N (nI c) (nI (Hn A 0)) h = _
    unfold st_X5_countNests_4
    rw [hH.1 0 (by decide)]
    simp (disch := omega) only [Z_le, Z_lt, Z_eq, Z_add, Z_mul, Z_m1, L0, L1, L2, L3, L4, L5, L6, L7, L8, L9, L10, L11, L12, L13, L14, L15, L16, L17, L18, L19, L20, L22, L24, L26, L30, L32, L39, L40, L42, L46, L48, L57, L59, L60, L61, L65, L97, L99, L122, L222, L255, L430, L460, L480, L760, L800, L5320, L6080, if_pos, if_neg]
