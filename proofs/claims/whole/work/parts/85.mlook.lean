/-! ===== looking at the hedge: the other side ===== -/
theorem ob1_s {α γ : Type} {x : α} {f : α → Option γ} : ob1 (some x) f = f x := rfl
theorem ob_s {α β γ : Type} {x : α} {y : β} {f : α → β → Option γ} : ob (some (x, y)) f = f x y := rfl
theorem lt_d {α β : Type} {x : α} {f : α → β} : lt x f = f x := rfl
theorem lt2_d {α β γ : Type} {x : α} {y : β} {f : α → β → γ} : lt2 (x, y) f = f x y := rfl
theorem Z_inB {x a b : Int32} : F_X11_in x.toInt64 a.toInt64 b.toInt64 = decide (a ≤ x ∧ x ≤ b) := by
  rw [Bool.eq_iff_iff, Z_in, decide_eq_true_eq]
theorem Z_ge0 {x : Int32} (h : x < 0) (a : Nat) (ha : a < 2 ^ 31) : ¬ nI a ≤ x := by
  intro h2
  rw [Int32.le_iff_toInt_le, nI_toInt ha] at h2
  rw [Int32.lt_iff_toInt_lt] at h
  have h3 : (0 : Int32).toInt = 0 := by decide
  omega
theorem Z_up {x : Int32} {n : Nat} (hn : n < 2 ^ 31) (h0 : 0 < n) (h : nI n ≤ x) : ¬ x ≤ nI (n - 1) := by
  intro h2
  rw [Int32.le_iff_toInt_le, nI_toInt (by omega)] at h2
  rw [Int32.le_iff_toInt_le, nI_toInt hn] at h
  omega
theorem M_of {t : HV} {s : Nat → Int32} {k a : Nat} (h : 22 + 5 * k + a < 760) : F_X11_of (nI k) (nI a) (sA t 0 s) = some (s (22 + 5 * k + a)) := by
  unfold F_X11_of
  simp (disch := omega) only [L0, L1, L2, L3, L4, L5, L6, L7, L8, L9, L10, L11, L12, L13, L14, L15, L16, L17, L18, L19, L20, L22, L24, L26, L30, L32, L39, L40, L42, L46, L48, L57, L59, L60, L61, L65, L97, L99, L122, L222, L255, L430, L460, L480, L760, L800, L5320, L6080, Z_vpb, Z_ag0, Z_aw0, Z_le, Z_lt, Z_eq, Z_add, Z_mul, if_pos, if_neg, ob1_s, ob_s, lt_d, lt2_d]
theorem M_ofR {R : Nat → Nat → Nat} {t : HV} {s : Nat → Int32} (hR : RMr R s) {k a : Nat} (ha : a < 5) (hk : k < 40) : F_X11_of (nI k) (nI a) (sA t 0 s) = some (nI (mLet R a k)) := by
  rw [M_of (by omega), hR a k ha hk]
theorem mLet_0 {R : Nat → Nat → Nat} {k : Nat} : mLet R 0 k = if 0 < R 2 k then R 0 k else 0 := rfl
theorem mLet_1 {R : Nat → Nat → Nat} {k : Nat} : mLet R 1 k = if 0 < R 2 k then R 1 k else 0 := rfl
theorem mLet_2 {R : Nat → Nat → Nat} {k : Nat} : mLet R 2 k = R 2 k := rfl
theorem mLet_3 {R : Nat → Nat → Nat} {k : Nat} : mLet R 3 k = if 0 < R 2 k ∧ 0 < R 4 k then 1 else 0 := rfl
theorem mLet_4 {R : Nat → Nat → Nat} {k : Nat} : mLet R 4 k = R 3 k := rfl
theorem M_hasTwig {R : Nat → Nat → Nat} {n D : Nat} {t : HV} {s : Nat → Int32} (hR : RMr R s) (hO : okRw R n D) {k : Nat} (hk : k < 40) : F_X11_hasTwig (nI k) (sA t 0 s) = some (decide (0 < R 2 k)) := by
  have b := (hO k).2.2.2.1
  have c97 := (hO k).2.2.1
  unfold F_X11_hasTwig
  rw [L0, M_ofR hR (by decide) hk, ob1_s, mLet_0]
  by_cases c : 0 < R 2 k
  · have := c97 c
    rw [if_pos c]
    simp (disch := omega) only [L0, L1, L2, L3, L4, L5, L6, L7, L8, L9, L10, L11, L12, L13, L14, L15, L16, L17, L18, L19, L20, L22, L24, L26, L30, L32, L39, L40, L42, L46, L48, L57, L59, L60, L61, L65, L97, L99, L122, L222, L255, L430, L460, L480, L760, L800, L5320, L6080, Z_vpb, Z_ag0, Z_aw0, Z_le, Z_lt, Z_eq, Z_add, Z_mul, if_pos, if_neg, ob1_s, ob_s, lt_d, lt2_d]
    simp [c]
  · rw [if_neg c]
    simp (disch := omega) only [L0, L1, L2, L3, L4, L5, L6, L7, L8, L9, L10, L11, L12, L13, L14, L15, L16, L17, L18, L19, L20, L22, L24, L26, L30, L32, L39, L40, L42, L46, L48, L57, L59, L60, L61, L65, L97, L99, L122, L222, L255, L430, L460, L480, L760, L800, L5320, L6080, Z_vpb, Z_ag0, Z_aw0, Z_le, Z_lt, Z_eq, Z_add, Z_mul, if_pos, if_neg, ob1_s, ob_s, lt_d, lt2_d]
    simp [c]
theorem M_isSlot {A : AS} {T : Nat} {t : HV} {s : Nat → Int32} (hf : RMf (Hn A) s) (hI : Inv A T) {k : Nat} (hk : k < 2 ^ 31) : F_X11_isSlot (nI k) (sA t 0 s) = some (decide (k < Hn A 0)) := by
  obtain ⟨hT, ⟨⟨b0, b0'⟩, ⟨b1, b1'⟩, b2, ⟨b3, b3'⟩, ⟨b4, b4'⟩, ⟨b5, b5'⟩, b6, b7⟩, hRw, hNs, hQu, hPr, hVm⟩ := id hI
  unfold F_X11_isSlot
  simp (disch := omega) only [L0, L1, L2, L3, L4, L5, L6, L7, L8, L9, L10, L11, L12, L13, L14, L15, L16, L17, L18, L19, L20, L22, L24, L26, L30, L32, L39, L40, L42, L46, L48, L57, L59, L60, L61, L65, L97, L99, L122, L222, L255, L430, L460, L480, L760, L800, L5320, L6080, Z_vpb, Z_ag0, Z_aw0, Z_le, Z_lt, Z_eq, Z_add, Z_mul, if_pos, if_neg, ob1_s, ob_s, lt_d, lt2_d]
  rw [hf 0 (by decide), Z_sub (by omega), T0, Z_inB]
  congr 1
  rw [Bool.eq_iff_iff, decide_eq_true_eq, decide_eq_true_eq, Z_le (by omega) (by omega), Z_le (by omega) (by omega)]
  omega
theorem M_isSlotN {A : AS} {T : Nat} {t : HV} {s : Nat → Int32} (hf : RMf (Hn A) s) (hI : Inv A T) {x : Int32} (hx : x < 0 ∨ nI (Hn A 0) ≤ x) : F_X11_isSlot x (sA t 0 s) = some false := by
  obtain ⟨hT, ⟨⟨b0, b0'⟩, ⟨b1, b1'⟩, b2, ⟨b3, b3'⟩, ⟨b4, b4'⟩, ⟨b5, b5'⟩, b6, b7⟩, hRw, hNs, hQu, hPr, hVm⟩ := id hI
  unfold F_X11_isSlot
  simp (disch := omega) only [L0, L1, L2, L3, L4, L5, L6, L7, L8, L9, L10, L11, L12, L13, L14, L15, L16, L17, L18, L19, L20, L22, L24, L26, L30, L32, L39, L40, L42, L46, L48, L57, L59, L60, L61, L65, L97, L99, L122, L222, L255, L430, L460, L480, L760, L800, L5320, L6080, Z_vpb, Z_ag0, Z_aw0, Z_le, Z_lt, Z_eq, Z_add, Z_mul, if_pos, if_neg, ob1_s, ob_s, lt_d, lt2_d]
  rw [hf 0 (by decide), Z_sub (by omega), T0, Z_inB]
  congr 1
  rw [decide_eq_false_iff_not]
  rintro ⟨h1, h2⟩
  rcases hx with h | h
  · exact Z_ge0 h 0 (by omega) h1
  · exact Z_up (by omega) (by omega) h h2
theorem M_hasNest {A : AS} {T : Nat} {t : HV} {s : Nat → Int32} (hf : RMf (Hn A) s) (hR : RMr (Hr A) s) (hI : Inv A T) {k : Nat} (hk : k < 2 ^ 31) : F_X11_hasNest (nI k) (sA t 0 s) = some (decide (0 < Hr A 3 k)) := by
  have bI := hI
  obtain ⟨hT, ⟨⟨b0, b0'⟩, ⟨b1, b1'⟩, b2, ⟨b3, b3'⟩, ⟨b4, b4'⟩, ⟨b5, b5'⟩, b6, b7⟩, hRw, hNs, hQu, hPr, hVm⟩ := id hI
  have b := Inv_b hI k (a := 3) (by decide)
  unfold F_X11_hasNest
  rw [M_isSlot hf bI hk, ob1_s]
  by_cases c : k < Hn A 0
  · rw [if_pos (by simpa using c), L4, M_ofR hR (by decide) (by omega), ob1_s, mLet_4]
    simp (disch := omega) only [L0, L1, L2, L3, L4, L5, L6, L7, L8, L9, L10, L11, L12, L13, L14, L15, L16, L17, L18, L19, L20, L22, L24, L26, L30, L32, L39, L40, L42, L46, L48, L57, L59, L60, L61, L65, L97, L99, L122, L222, L255, L430, L460, L480, L760, L800, L5320, L6080, Z_vpb, Z_ag0, Z_aw0, Z_le, Z_lt, Z_eq, Z_add, Z_mul, if_pos, if_neg, ob1_s, ob_s, lt_d, lt2_d]
    by_cases c2 : Hr A 3 k ≤ 0
    · rw [if_pos c2]; simp; omega
    · rw [if_neg c2]; simp; omega
  · rw [if_neg (by simpa using c), (Inv_s bI (by omega)).2.1]
    rfl
theorem M_hasNestm {A : AS} {T : Nat} {t : HV} {s : Nat → Int32} (hf : RMf (Hn A) s) (hR : RMr (Hr A) s) (hI : Inv A T) {k : Nat} (hk : k < 2 ^ 31) : F_X11_hasNest (nI k - 1) (sA t 0 s) = some (decide (0 < k ∧ 0 < Hr A 3 (k - 1))) := by
  by_cases c : k = 0
  · subst c
    unfold F_X11_hasNest
    rw [show nI 0 - 1 = -1 by decide, M_isSlotN hf hI (Or.inl (by decide)), ob1_s]
    rfl
  · rw [L1, Z_sub (by omega), M_hasNest hf hR hI (by omega)]
    congr 1
    rw [Bool.eq_iff_iff, decide_eq_true_eq, decide_eq_true_eq]
    omega
theorem M_isSafe {A : AS} {T : Nat} {t : HV} {s : Nat → Int32} (hf : RMf (Hn A) s) (hR : RMr (Hr A) s) (hI : Inv A T) {k : Nat} (hk : k < 2 ^ 30) : F_X11_isSafe (nI k) (sA t 0 s) = some (decide (grd (Hr A) k)) := by
  unfold F_X11_isSafe
  rw [M_hasNest hf hR hI (by omega), M_hasNestm hf hR hI (by omega), L1, Z_add, M_hasNest hf hR hI (by omega)]
  simp only [ob1_s, decide_eq_true_eq]
  unfold grd
  by_cases c1 : 0 < Hr A 3 k
  · simp [c1]
  · by_cases c2 : 0 < k ∧ 0 < Hr A 3 (k - 1)
    · simp [c2]
    · by_cases c3 : 0 < Hr A 3 (k + 1)
      · simp [c1, c3]
      · first | (simp [c1, c3, c2]; done) | (simp [c1, c3, c2]; omega)
theorem M_reserves {t : HV} {s : Nat → Int32} {p k n st : Nat} (hp : p + 13 < 760) (hk : k < 2 ^ 20) (h1 : s p = nI n) (h2 : 0 < n → s (p + 13) = nI st) (hn : n < 2 ^ 20) (hs : st < 2 ^ 20) : F_X11_reserves (nI p) (nI k) (sA t 0 s) = some (decide (st ≤ k ∧ k < st + n)) := by
  unfold F_X11_reserves
  simp (disch := omega) only [L0, L1, L2, L3, L4, L5, L6, L7, L8, L9, L10, L11, L12, L13, L14, L15, L16, L17, L18, L19, L20, L22, L24, L26, L30, L32, L39, L40, L42, L46, L48, L57, L59, L60, L61, L65, L97, L99, L122, L222, L255, L430, L460, L480, L760, L800, L5320, L6080, Z_vpb, Z_ag0, Z_aw0, Z_le, Z_lt, Z_eq, Z_add, Z_mul, if_pos, if_neg, ob1_s, ob_s, lt_d, lt2_d, h1]
  by_cases c : n ≤ 0
  · rw [if_pos c]
    congr 1
    rw [eq_comm, decide_eq_false_iff_not]
    omega
  · rw [if_neg c, h2 (by omega), Z_add, Z_sub (by omega), Z_inB]
    simp (disch := omega) only [L0, L1, L2, L3, L4, L5, L6, L7, L8, L9, L10, L11, L12, L13, L14, L15, L16, L17, L18, L19, L20, L22, L24, L26, L30, L32, L39, L40, L42, L46, L48, L57, L59, L60, L61, L65, L97, L99, L122, L222, L255, L430, L460, L480, L760, L800, L5320, L6080, Z_vpb, Z_ag0, Z_aw0, Z_le, Z_lt, Z_eq, Z_add, Z_mul, if_pos, if_neg, ob1_s, ob_s, lt_d, lt2_d, decide_eq_true_eq]
    by_cases c2 : st ≤ k ∧ k ≤ st + n - 1
    · rw [if_pos c2]
      congr 1
      rw [eq_comm, decide_eq_true_eq]
      omega
    · rw [if_neg c2]
      congr 1
      rw [eq_comm, decide_eq_false_iff_not]
      omega
theorem M_resL {A : AS} {T : Nat} {t : HV} {s : Nat → Int32} (hM : RM A s) (hI : Inv A T) {k i : Nat} (hk : k < 2 ^ 20) (hi : i < (Hl A).length) : F_X11_reserves (nI (460 + 15 * i)) (nI k) (sA t 0 s) = some (decide (((Hl A).getD i bare).2.1 ≤ k ∧ k < ((Hl A).getD i bare).2.1 + ((Hl A).getD i bare).2.2.length)) := by
  obtain ⟨_, _, _, _, _, _, hl⟩ := hM
  have h1 := hl i hi
  have h2 := RMl_ok hI i hi
  have h3 := Inv_lk hI hi
  have h4 := h3.2.2.1
  have h5 := hI.2.1.1.2
  exact M_reserves (by omega) hk h1.1.1 (fun _ => h1.2.1) (by omega) (by omega)
theorem M_resP {A : AS} {T : Nat} {t : HV} {s : Nat → Int32} (hM : RM A s) (hI : Inv A T) {k g : Nat} (hk : k < 2 ^ 20) (hg : g < 2) : F_X11_reserves (nI (430 + 15 * g)) (nI k) (sA t 0 s) = some (decide ((Hp A g).2.1 ≤ k ∧ k < (Hp A g).2.1 + (Hp A g).2.2.length)) := by
  obtain ⟨_, _, _, _, _, hp, _⟩ := hM
  have h1 := hp g hg
  have h2 := Inv_pl hI hg
  refine M_reserves (by omega) hk h1.1 (fun h => ?_) (by omega) (by omega)
  exact (h1.2 (fun e => by rw [e] at h; exact absurd h (by decide))).2.1
theorem bk_in {A : AS} {T : Nat} (hI : Inv A T) {k : Nat} : 0 < Hr A 4 k ↔ ((∃ i, i < (Hl A).length ∧ inM ((Hl A).getD i bare) k) ∨ ∃ g, g < 2 ∧ (Hp A g).2.1 ≤ k ∧ k < (Hp A g).2.1 + (Hp A g).2.2.length) := by
  have bI := hI
  obtain ⟨hT, ⟨⟨b0, b0'⟩, ⟨b1, b1'⟩, b2, ⟨b3, b3'⟩, ⟨b4, b4'⟩, ⟨b5, b5'⟩, b6, b7⟩, hRw, hNs, hQu, hPr, hVm⟩ := id hI
  constructor
  · intro h
    obtain ⟨m, hm, hi⟩ := hVm.2.1 k h
    unfold msgs at hm
    rw [List.mem_append, List.mem_append] at hm
    have hp : ∀ g, g < 2 → m ∈ prg A g → ∃ g, g < 2 ∧ (Hp A g).2.1 ≤ k ∧ k < (Hp A g).2.1 + (Hp A g).2.2.length := fun g hg hm => by
      by_cases c : (Hp A g).2.2 = []
      · rw [prg_0 c] at hm; cases hm
      · rw [prg_1 c, List.mem_singleton] at hm
        subst hm
        exact ⟨g, hg, hi⟩
    rcases hm with hm | hm | hm
    · exact Or.inr (hp 0 (by decide) hm)
    · exact Or.inr (hp 1 (by decide) hm)
    · obtain ⟨i, hi2, e⟩ := gD_of (d := bare) hm
      exact Or.inl ⟨i, hi2, by rw [e]; exact hi⟩
  · have key : ∀ m, m ∈ msgs A → inM m k → 0 < Hr A 4 k := fun m hm hi => by
      obtain ⟨_, hw, _, h4⟩ := hVm.1 m hm
      obtain ⟨i1, i2⟩ := hi
      have h5 := h4 (k - m.2.1) (by omega)
      have h6 := (hw.2.2 (k - m.2.1) (by omega)).1
      rw [show m.2.1 + (k - m.2.1) = k by omega] at h5
      omega
    rintro (⟨i, hi, h⟩ | ⟨g, hg, h1, h2⟩)
    · exact key _ (msgs_l (gD_mem hi)) h
    · have hne : (Hp A g).2.2 ≠ [] := fun e => by rw [e] at h2; simp at h2; omega
      exact key _ (msgs_p hg hne) ⟨h1, h2⟩
theorem M_isReservedAt {A : AS} {T : Nat} {t : HV} {s : Nat → Int32} (hM : RM A s) (hI : Inv A T) {k N : Nat} (hk : k < 2 ^ 20) (hN : 40 < N) : F_X11_isReservedAt N (nI k) (sA t 0 s) = some (decide (0 < Hr A 4 k)) := by
  have hl20 := Inv_l hI
  have hkk := hM.2.2.1.1
  unfold F_X11_isReservedAt
  have key : ∃ r, lpN N (fun z => st_X11_isReservedAt_2 N (nI k) z (sA t 0 s)) 0 = some r ∧ r = decide (0 < Hr A 4 k) := by
    refine lpN_upx (fun i x => x = nI i ∧ ∀ j, j < i → ¬ inM ((Hl A).getD j bare) k) _ (n := (Hl A).length) (by omega) ⟨rfl, fun j hj => absurd hj (by omega)⟩ (fun i x hi hP => ?_) (fun x hP => ?_)
    · obtain ⟨rfl, hP⟩ := hP
      have e : st_X11_isReservedAt_2 N (nI k) (nI i) (sA t 0 s) = if inM ((Hl A).getD i bare) k then some (.inr true) else some (.inl (nI (i + 1))) := by
        unfold st_X11_isReservedAt_2 F_X11_postAt
        simp (disch := omega) only [L0, L1, L2, L3, L4, L5, L6, L7, L8, L9, L10, L11, L12, L13, L14, L15, L16, L17, L18, L19, L20, L22, L24, L26, L30, L32, L39, L40, L42, L46, L48, L57, L59, L60, L61, L65, L97, L99, L122, L222, L255, L430, L460, L480, L760, L800, L5320, L6080, Z_vpb, Z_ag0, Z_aw0, Z_le, Z_lt, Z_eq, Z_add, Z_mul, if_pos, if_neg, ob1_s, ob_s, lt_d, lt2_d, hkk, M_resL hM hI hk hi, decide_eq_true_eq]
      show (∃ y, st_X11_isReservedAt_2 N (nI k) (nI i) (sA t 0 s) = _ ∧ _) ∨ (∃ r, st_X11_isReservedAt_2 N (nI k) (nI i) (sA t 0 s) = _ ∧ _)
      rw [e]
      by_cases c : inM ((Hl A).getD i bare) k
      · rw [if_pos c]
        refine Or.inr ⟨_, rfl, ?_⟩
        rw [eq_comm, decide_eq_true_eq, bk_in hI]
        exact Or.inl ⟨i, hi, c⟩
      · rw [if_neg c]
        refine Or.inl ⟨_, rfl, rfl, fun j hj => ?_⟩
        by_cases c2 : j = i
        · rw [c2]; exact c
        · exact hP j (by omega)
    · obtain ⟨rfl, hP⟩ := hP
      refine ⟨_, ?_, rfl⟩
      show st_X11_isReservedAt_2 N (nI k) (nI (Hl A).length) (sA t 0 s) = _
      unfold st_X11_isReservedAt_2 F_X11_progressOf
      simp (disch := omega) only [L0, L1, L430, L15, L11, L760, Z_vpb, Z_ag0, Z_le, Z_add, Z_mul, if_pos, ob1_s, hkk, M_resP hM hI hk (show 0 < 2 by decide), M_resP hM hI hk (show 1 < 2 by decide), decide_eq_true_eq]
      have hiff := bk_in hI (k := k)
      by_cases c0 : (Hp A 0).2.1 ≤ k ∧ k < (Hp A 0).2.1 + (Hp A 0).2.2.length
      · rw [if_pos c0]
        congr 2
        rw [eq_comm, decide_eq_true_eq]
        exact hiff.mpr (Or.inr ⟨0, by decide, c0⟩)
      · rw [if_neg c0]
        by_cases c1 : (Hp A 1).2.1 ≤ k ∧ k < (Hp A 1).2.1 + (Hp A 1).2.2.length
        · rw [if_pos c1]
          congr 2
          rw [eq_comm, decide_eq_true_eq]
          exact hiff.mpr (Or.inr ⟨1, by decide, c1⟩)
        · rw [if_neg c1]
          congr 2
          rw [eq_comm, decide_eq_false_iff_not]
          intro h
          rcases hiff.mp h with ⟨i, hi, h2⟩ | ⟨g, hg, h2⟩
          · exact hP i hi h2
          · match g, hg with
            | 0, _ => exact c0 h2
            | 1, _ => exact c1 h2
  obtain ⟨r, e, rfl⟩ := key
  exact e
theorem M_isFree {A : AS} {T : Nat} {t : HV} {s : Nat → Int32} (hM : RM A s) (hI : Inv A T) {k N : Nat} (hk : k < 40) (hN : 40 < N) : F_X11_isFree N (nI k) (sA t 0 s) = some (freB (Hr A) k) := by
  unfold F_X11_isFree
  rw [M_hasTwig hM.2.2.2.1 hI.2.2.1 hk, M_hasNest hM.1 hM.2.2.2.1 hI (by omega), M_isReservedAt hM hI (by omega) hN]
  simp only [ob1_s, decide_eq_true_eq]
  unfold freB
  by_cases c1 : 0 < Hr A 2 k
  · rw [if_pos c1]; congr 1; rw [eq_comm, decide_eq_false_iff_not]; omega
  · rw [if_neg c1]
    by_cases c2 : 0 < Hr A 3 k
    · rw [if_pos c2]; congr 1; rw [eq_comm, decide_eq_false_iff_not]; omega
    · rw [if_neg c2]
      by_cases c3 : 0 < Hr A 4 k
      · rw [if_pos c3]; congr 1; rw [eq_comm, decide_eq_false_iff_not]; omega
      · rw [if_neg c3]; congr 1; rw [eq_comm, decide_eq_true_eq]; omega
theorem M_isBorder {A : AS} {T : Nat} {t : HV} {s : Nat → Int32} (hM : RM A s) (hI : Inv A T) {k N : Nat} (hk : k < 2 ^ 20) (hN : 40 < N) : F_X11_isBorder N (nI k) (sA t 0 s) = some (decide (opn (Hr A) k)) := by
  have bI := hI
  obtain ⟨hT, ⟨⟨b0, b0'⟩, ⟨b1, b1'⟩, b2, ⟨b3, b3'⟩, ⟨b4, b4'⟩, ⟨b5, b5'⟩, b6, b7⟩, hRw, hNs, hQu, hPr, hVm⟩ := id hI
  unfold F_X11_isBorder
  rw [M_isSlot hM.1 bI (by omega), ob1_s]
  by_cases c : k < Hn A 0
  · rw [if_pos (by simpa using c), M_hasTwig hM.2.2.2.1 hRw (by omega), M_isReservedAt hM bI hk hN]
    simp only [ob1_s, decide_eq_true_eq]
    by_cases c1 : 0 < Hr A 2 k
    · rw [if_pos c1]; congr 1; rw [eq_comm, decide_eq_false_iff_not]; omega
    · rw [if_neg c1]
      by_cases c3 : 0 < Hr A 4 k
      · rw [if_pos c3]; congr 1; rw [eq_comm, decide_eq_false_iff_not]; omega
      · rw [if_neg c3]; congr 1; rw [eq_comm, decide_eq_true_eq]; omega
  · have := Inv_s bI (k := k) (by omega)
    rw [if_neg (by simpa using c)]
    congr 1
    rw [eq_comm, decide_eq_true_eq]
    omega
theorem M_isBorderm {A : AS} {T : Nat} {t : HV} {s : Nat → Int32} (hM : RM A s) (hI : Inv A T) {k N : Nat} (hk : k < 2 ^ 20) (hN : 40 < N) : F_X11_isBorder N (nI k - nI 1) (sA t 0 s) = some (decide (0 < k → opn (Hr A) (k - 1))) := by
  by_cases c : k = 0
  · subst c
    unfold F_X11_isBorder
    rw [show nI 0 - nI 1 = -1 by decide, M_isSlotN hM.1 hI (Or.inl (by decide)), ob1_s]
    simp
  · rw [Z_sub (by omega), M_isBorder hM hI (by omega) hN]
    congr 1
    rw [Bool.eq_iff_iff, decide_eq_true_eq, decide_eq_true_eq]
    omega
theorem M_fits {A : AS} {T : Nat} {t : HV} {s : Nat → Int32} (hM : RM A s) (hI : Inv A T) {k L N : Nat} (hk : k + L ≤ Hn A 0) (hN : 40 < N) : F_X11_fits N (nI k) (nI L) (sA t 0 s) = some (fitB (Hr A) (Hn A 0) L k) := by
  have bI := hI
  obtain ⟨hT, ⟨⟨b0, b0'⟩, ⟨b1, b1'⟩, b2, ⟨b3, b3'⟩, ⟨b4, b4'⟩, ⟨b5, b5'⟩, b6, b7⟩, hRw, hNs, hQu, hPr, hVm⟩ := id hI
  unfold F_X11_fits
  have key : ∃ r, lpN N (fun z => st_X11_fits_2 N (nI k) (nI L) z (sA t 0 s)) 0 = some r ∧ r = fitB (Hr A) (Hn A 0) L k := by
    refine lpN_upx (fun i x => x = nI i ∧ ∀ j, j < i → freB (Hr A) (k + j) = true) _ (n := L) (by omega) ⟨rfl, fun j hj => absurd hj (by omega)⟩ (fun i x hi hP => ?_) (fun x hP => ?_)
    · obtain ⟨rfl, hP⟩ := hP
      show (∃ y, st_X11_fits_2 N (nI k) (nI L) (nI i) (sA t 0 s) = _ ∧ _) ∨ (∃ r, st_X11_fits_2 N (nI k) (nI L) (nI i) (sA t 0 s) = _ ∧ _)
      unfold st_X11_fits_2
      simp (disch := omega) only [L1, Z_le, Z_add, if_neg, M_isFree hM bI (show k + i < 40 by omega) hN, ob1_s]
      cases c : freB (Hr A) (k + i) with
      | true =>
        refine Or.inl ⟨_, rfl, rfl, fun j hj => ?_⟩
        by_cases c2 : j = i
        · rw [c2]; exact c
        · exact hP j (by omega)
      | false =>
        refine Or.inr ⟨_, rfl, ?_⟩
        rw [fitB_f]
        rintro ⟨_, h2, _⟩
        have := h2 i hi
        rw [c] at this
        cases this
    · obtain ⟨rfl, hP⟩ := hP
      refine ⟨_, ?_, rfl⟩
      show st_X11_fits_2 N (nI k) (nI L) (nI L) (sA t 0 s) = _
      unfold st_X11_fits_2
      simp (disch := omega) only [L1, Z_le, Z_add, if_pos, M_isBorderm hM bI (show k < 2 ^ 20 by omega) hN, M_isBorder hM bI (show k + L < 2 ^ 20 by omega) hN, ob1_s, decide_eq_true_eq]
      by_cases c1 : 0 < k → opn (Hr A) (k - 1)
      · rw [if_pos c1]
        by_cases c2 : opn (Hr A) (k + L)
        · rw [if_pos c2]
          congr 2
          rw [eq_comm, fitB_t]
          exact ⟨hk, hP, c1, c2⟩
        · rw [if_neg c2]
          congr 2
          rw [eq_comm]
          exact fitB_f (fun h => c2 h.2.2.2)
      · rw [if_neg c1]
        congr 2
        rw [eq_comm]
        exact fitB_f (fun h => c1 h.2.2.1)
  obtain ⟨r, e, rfl⟩ := key
  exact e
theorem M_startFor {A : AS} {T : Nat} {t : HV} {s : Nat → Int32} (hM : RM A s) (hI : Inv A T) {L N : Nat} (hL : 0 < L) (hL2 : L < 2 ^ 20) (hN : 40 < N) : F_X11_startFor N (nI L) (sA t 0 s) = some (oI (fStart (Hr A) (Hn A 0) L)) := by
  have bI := hI
  obtain ⟨hT, ⟨⟨b0, b0'⟩, ⟨b1, b1'⟩, b2, ⟨b3, b3'⟩, ⟨b4, b4'⟩, ⟨b5, b5'⟩, b6, b7⟩, hRw, hNs, hQu, hPr, hVm⟩ := id hI
  have hf0 := hM.1 0 (by decide)
  unfold F_X11_startFor
  have key : ∃ r, lpN N (fun z => st_X11_startFor_2 N (nI L) z (sA t 0 s)) 0 = some r ∧ r = oI (fStart (Hr A) (Hn A 0) L) := by
    have hstep : ∀ i, i ≤ Hn A 0 → st_X11_startFor_2 N (nI L) (nI i) (sA t 0 s) = if Hn A 0 < i + L then some (.inr (-1)) else if fitB (Hr A) (Hn A 0) L i = true then some (.inr (nI i)) else some (.inl (nI (i + 1))) := fun i hi => by
      unfold st_X11_startFor_2
      simp (disch := omega) only [L0, L1, L2, L3, L4, L5, L6, L7, L8, L9, L10, L11, L12, L13, L14, L15, L16, L17, L18, L19, L20, L22, L24, L26, L30, L32, L39, L40, L42, L46, L48, L57, L59, L60, L61, L65, L97, L99, L122, L222, L255, L430, L460, L480, L760, L800, L5320, L6080, Z_vpb, Z_ag0, Z_aw0, Z_le, Z_lt, Z_eq, Z_add, Z_mul, if_pos, if_neg, ob1_s, ob_s, lt_d, lt2_d, hf0]
      by_cases c : Hn A 0 < i + L
      · rw [if_pos c, if_pos c]
      · rw [if_neg c, if_neg c, M_fits hM bI (by omega) hN, ob1_s]
    have hend : ∀ i, Hn A 0 < i + L → (∀ j, j < i → ¬ fit (Hr A) (Hn A 0) L j) → (-1 : Int32) = oI (fStart (Hr A) (Hn A 0) L) := fun i hi hj => by
      unfold fStart
      rw [if_neg (by omega), fstF_no (fun j _ _ => fitB_f (fun hf => ?_))]
      · rfl
      · by_cases c : j < i
        · exact hj j c hf
        · have := hf.1
          omega
    refine lpN_upx (fun i x => x = nI i ∧ ∀ j, j < i → ¬ fit (Hr A) (Hn A 0) L j) _ (n := Hn A 0) (by omega) ⟨rfl, fun j hj => absurd hj (by omega)⟩ (fun i x hi hP => ?_) (fun x hP => ?_)
    · obtain ⟨rfl, hP⟩ := hP
      show (∃ y, st_X11_startFor_2 N (nI L) (nI i) (sA t 0 s) = _ ∧ _) ∨ (∃ r, st_X11_startFor_2 N (nI L) (nI i) (sA t 0 s) = _ ∧ _)
      rw [hstep i (by omega)]
      by_cases c : Hn A 0 < i + L
      · rw [if_pos c]
        exact Or.inr ⟨_, rfl, hend i c hP⟩
      · rw [if_neg c]
        by_cases c2 : fitB (Hr A) (Hn A 0) L i = true
        · rw [if_pos c2]
          refine Or.inr ⟨_, rfl, ?_⟩
          unfold fStart
          rw [if_neg (by omega), fstF_is (k := i) (by omega) (by omega) c2 (fun j _ hj => fitB_f (hP j hj))]
          rfl
        · rw [if_neg c2]
          refine Or.inl ⟨_, rfl, rfl, fun j hj => ?_⟩
          by_cases c3 : j = i
          · rw [c3, ← fitB_t]; exact c2
          · exact hP j (by omega)
    · obtain ⟨rfl, hP⟩ := hP
      refine ⟨-1, ?_, hend _ (by omega) hP⟩
      show st_X11_startFor_2 N (nI L) (nI (Hn A 0)) (sA t 0 s) = _
      rw [hstep _ (Nat.le_refl _), if_pos (by omega)]
  obtain ⟨r, e, rfl⟩ := key
  exact e
