/-! ===== a message's slots are cleared: the other side ===== -/
def zer (s : Nat → Int32) (p n : Nat) : Nat → Int32 := fun j => if p ≤ j ∧ j < p + n then nI 0 else s j
theorem zer_0 {s : Nat → Int32} {p : Nat} : zer s p 0 = s := by
  funext j
  exact if_neg (by omega)
theorem zer_s {s : Nat → Int32} {p n : Nat} : upd (zer s p n) (p + n) (nI 0) = zer s p (n + 1) := by
  funext j
  unfold upd zer
  by_cases c : j = p + n
  · rw [if_pos c, if_pos (by omega)]
  · rw [if_neg c]
    by_cases c2 : p ≤ j ∧ j < p + n
    · rw [if_pos c2, if_pos (by omega)]
    · rw [if_neg c2, if_neg (by omega)]
theorem M_puts {t : HV} {s : Nat → Int32} {k a : Nat} {v : Int32} (h : 22 + 5 * k + a < 760) : F_X11_puts (nI k) (nI a) v (sA t 0 s) = some (sA t 0 (upd s (22 + 5 * k + a) v)) := by
  unfold F_X11_puts
  simp (disch := omega) only [L0, L1, L2, L3, L4, L5, L6, L7, L8, L9, L10, L11, L12, L13, L14, L15, L16, L17, L18, L19, L20, L22, L24, L26, L30, L32, L39, L40, L42, L46, L48, L57, L59, L60, L61, L65, L97, L99, L122, L222, L255, L430, L460, L480, L760, L800, L5320, L6080, Z_vpb, Z_ag0, Z_aw0, Z_le, Z_lt, Z_eq, Z_add, Z_mul, if_pos, if_neg, ob1_s, ob_s, lt_d, lt2_d]
theorem M_twigGoes {t : HV} {s : Nat → Int32} {k N : Nat} (hk : k < 40) (hN : 40 < N) : F_X11_twigGoes N (nI k) (sA t 0 s) = some (sA t 0 (zer s (22 + 5 * k) 4)) := by
  unfold F_X11_twigGoes
  have h := lpN_for (f := fun z => st_X11_twigGoes_2 N (nI k) z.1 z.2) (x := fun i => (nI i, sA t 0 (zer s (22 + 5 * k) i))) (r := sA t 0 (zer s (22 + 5 * k) 4)) (n := 4) (N := N) (by omega) (fun i hi => ?_) ?_
  · rw [zer_0] at h
    exact h
  · show st_X11_twigGoes_2 N (nI k) (nI i) (sA t 0 (zer s (22 + 5 * k) i)) = _
    unfold st_X11_twigGoes_2
    simp (disch := omega) only [L0, L1, L4, Z_le, Z_add, if_neg, M_puts, ob1_s, zer_s]
  · show st_X11_twigGoes_2 N (nI k) (nI 4) _ = _
    unfold st_X11_twigGoes_2
    rw [if_pos (by decide)]
theorem mLet_no {R : Nat → Nat → Nat} {a k : Nat} (h : R 2 k = 0) (ha : a < 5) : mLet R a k = if a = 4 then R 3 k else 0 := by
  match a, ha with
  | 0, _ => rw [mLet_0, if_neg (by omega), if_neg (by decide)]
  | 1, _ => rw [mLet_1, if_neg (by omega), if_neg (by decide)]
  | 2, _ => rw [mLet_2, h, if_neg (by decide)]
  | 3, _ => rw [mLet_3, if_neg (by omega), if_neg (by decide)]
  | 4, _ => rw [mLet_4, if_pos rfl]
theorem mLet_eq {R R' : Nat → Nat → Nat} {a k : Nat} (h : ∀ b, b < 5 → R b k = R' b k) (ha : a < 5) : mLet R a k = mLet R' a k := by
  have h0 := h 0 (by decide)
  have h1 := h 1 (by decide)
  have h2 := h 2 (by decide)
  have h3 := h 3 (by decide)
  have h4 := h 4 (by decide)
  unfold mLet
  rw [h0, h1, h2, h3, h4]
theorem RMr_eq {R R' : Nat → Nat → Nat} {s : Nat → Int32} (h : RMr R s) (e : ∀ a k, a < 5 → k < 40 → mLet R a k = mLet R' a k) : RMr R' s := fun a k ha hk => by rw [← e a k ha hk]; exact h a k ha hk
theorem clrR_in {R : Nat → Nat → Nat} {s n k : Nat} (h : s ≤ k) (h2 : k < s + n) : clrR R s n 2 k = 0 := if_pos ⟨Or.inl rfl, h, h2⟩
theorem clrR_out {R : Nat → Nat → Nat} {s n k a : Nat} (h : ¬ (s ≤ k ∧ k < s + n)) : clrR R s n a k = R a k := if_neg (fun q => h q.2)
theorem clrR_3 {R : Nat → Nat → Nat} {s n k : Nat} : clrR R s n 3 k = R 3 k := if_neg (by omega)
/-- the twig of slot j goes -/
theorem RMr_goes {R R' : Nat → Nat → Nat} {s : Nat → Int32} (h : RMr R s) {j : Nat} (h2 : R' 2 j = 0) (h3 : R' 3 j = R 3 j) (e : ∀ a k, a < 5 → k ≠ j → R a k = R' a k) : RMr R' (zer s (22 + 5 * j) 4) := by
  intro a k ha hk
  unfold zer
  by_cases c : k = j
  · subst c
    rw [mLet_no h2 ha]
    by_cases c2 : a = 4
    · subst c2
      rw [if_neg (by omega), if_pos rfl, h 4 k (by decide) hk, mLet_4, h3]
    · rw [if_pos (by omega), if_neg c2]
  · rw [if_neg (by omega), h a k ha hk, mLet_eq (fun b hb => e b k hb c) ha]
theorem M_clr {R : Nat → Nat → Nat} {C : Nat → Int32} {n D : Nat} {t : HV} {s : Nat → Int32} (hR : RMr R s) (hC : RMc C s) (hO : okRw R n D) {N p st m : Nat} (hp : 222 ≤ p) (hp2 : p + 13 < 760) (hst : 0 < m → s (p + 13) = nI st) (hm : st + m ≤ 40) (hN : 40 < N) : ∃ s', F_X11_clearsTwigs N (nI p) (nI m) (sA t 0 s) = some (sA t 0 s') ∧ RMr (clrR R st m) s' ∧ RMc (up C 2 (C 2 + nI (cntT R st m))) s' ∧ ∀ j, j ≠ 10 → (j < 22 ∨ 222 ≤ j) → s' j = s j := by
  unfold F_X11_clearsTwigs
  have key := lpN_up (f := fun z => st_X11_clearsTwigs_2 N (nI p) (nI m) z.1 z.2) (fun i (x : Int32 × HV) => ∃ s', x = (nI i, sA t 0 s') ∧ RMr (clrR R st i) s' ∧ RMc (up C 2 (C 2 + nI (cntT R st i))) s' ∧ ∀ j, j ≠ 10 → (j < 22 ∨ 222 ≤ j) → s' j = s j) (fun r => ∃ s', r = sA t 0 s' ∧ RMr (clrR R st m) s' ∧ RMc (up C 2 (C 2 + nI (cntT R st m))) s' ∧ ∀ j, j ≠ 10 → (j < 22 ∨ 222 ≤ j) → s' j = s j) (n := m) (N := N) (x0 := (0, sA t 0 s)) (by omega) ⟨s, rfl, by rw [clrR_0]; exact hR, ?_, fun _ _ _ => rfl⟩ (fun i x hi hP => ?_) (fun x hP => ?_)
  · obtain ⟨r, e, s', rfl, h⟩ := key
    exact ⟨s', e, h⟩
  · rw [cntT_0, show C 2 + nI 0 = C 2 from Int32.add_zero _, up_id]; exact hC
  · obtain ⟨s', rfl, hR', hC', hf⟩ := hP
    show ∃ y, st_X11_clearsTwigs_2 N (nI p) (nI m) (nI i) (sA t 0 s') = _ ∧ _
    have h13 : s' (p + 13) = nI st := by rw [hf _ (by omega) (by omega)]; exact hst (by omega)
    have htw := M_hasTwig (t := t) hR' (clrR_ok hO st i) (k := st + i) (by omega)
    have htw2 : clrR R st i 2 (st + i) = R 2 (st + i) := clrR_out (by omega)
    rw [htw2] at htw
    have h10 := hC'.1 2 (by decide)
    have h10' : s' 10 = C 2 + nI (cntT R st i) := h10.trans up_s
    by_cases c : 0 < R 2 (st + i)
    · refine ⟨_, ?_, upd (zer s' (22 + 5 * (st + i)) 4) 10 (C 2 + nI (cntT R st (i + 1))), rfl, ?_, ?_, ?_⟩
      · unfold st_X11_clearsTwigs_2
        have hz : zer s' (22 + 5 * (st + i)) 4 10 = C 2 + nI (cntT R st i) := (if_neg (by omega)).trans h10'
        simp (disch := omega) only [L1, L10, L13, L760, Z_le, Z_add, Z_vpb, Z_ag0, if_neg, if_pos, h13, htw, ob1_s, decide_eq_true_eq, M_twigGoes, Z_aw0, lt_d, hz]
        rw [cntT_s, if_pos c, Int32.add_assoc, Z_add]
      · refine RMr_c (s := zer s' (22 + 5 * (st + i)) 4) ?_ (fun k h1 h2 => pk_un (by omega))
        refine RMr_goes hR' (clrR_in (by omega) (by omega)) (by rw [clrR_3, clrR_3]) (fun a k ha hk => ?_)
        unfold clrR
        by_cases q : (a = 2 ∨ a = 4) ∧ st ≤ k ∧ k < st + i
        · rw [if_pos q, if_pos (by omega)]
        · rw [if_neg q, if_neg (by omega)]
      · have h1 := RMc_set3 (i := 2) (RMc_c (s' := zer s' (22 + 5 * (st + i)) 4) hC' (fun k h1 h2 _ _ _ => if_neg (by omega))) (by decide) (C 2 + nI (cntT R st (i + 1)))
        rw [up_up] at h1
        exact h1
      · intro j h1 h2
        rw [pk_un h1, ← hf j h1 h2]
        exact if_neg (by omega)
    · refine ⟨_, ?_, s', rfl, RMr_eq hR' (fun a k ha hk => ?_), ?_, hf⟩
      · unfold st_X11_clearsTwigs_2
        simp (disch := omega) only [L1, L10, L13, L760, Z_le, Z_add, Z_vpb, Z_ag0, if_neg, if_pos, h13, htw, ob1_s, decide_eq_true_eq]
      · by_cases q : k = st + i
        · subst q
          rw [mLet_no (by rw [htw2]; omega) ha, mLet_no (clrR_in (by omega) (by omega)) ha, clrR_3, clrR_3]
        · refine mLet_eq (fun b hb => ?_) ha
          unfold clrR
          by_cases q : (b = 2 ∨ b = 4) ∧ st ≤ k ∧ k < st + i
          · rw [if_pos q, if_pos (by omega)]
          · rw [if_neg q, if_neg (by omega)]
      · rw [cntT_s, if_neg c]; exact hC'
  · obtain ⟨s', rfl, h⟩ := hP
    refine ⟨_, ?_, s', rfl, h⟩
    show st_X11_clearsTwigs_2 N (nI p) (nI m) (nI m) (sA t 0 s') = _
    unfold st_X11_clearsTwigs_2
    simp (disch := omega) only [Z_le, if_pos]
/-- clearing more slots than hold twigs -/
theorem clr_more {R : Nat → Nat → Nat} {s m n : Nat} (hmn : m ≤ n) (h : ∀ k, s + m ≤ k → k < s + n → R 2 k = 0) : (∀ a k, a < 5 → mLet (clrR R s m) a k = mLet (clrR R s n) a k) ∧ cntT R s n = cntT R s m := by
  refine ⟨fun a k ha => ?_, ?_⟩
  · by_cases q : s + m ≤ k ∧ k < s + n
    · rw [mLet_no (R := clrR R s m) (by rw [clrR_out (by omega)]; exact h k q.1 q.2) ha, mLet_no (R := clrR R s n) (clrR_in (by omega) (by omega)) ha, clrR_3, clrR_3]
    · refine mLet_eq (fun b hb => ?_) ha
      unfold clrR
      by_cases q2 : (b = 2 ∨ b = 4) ∧ s ≤ k ∧ k < s + m
      · rw [if_pos q2, if_pos (by omega)]
      · rw [if_neg q2, if_neg (by omega)]
  · obtain ⟨d, rfl⟩ : ∃ d, n = m + d := ⟨n - m, by omega⟩
    clear hmn
    induction d with
    | zero => rfl
    | succ d ih =>
      rw [show m + (d + 1) = m + d + 1 by omega, cntT_s, ih (fun k h1 h2 => h k h1 (by omega)), if_neg (by have := h (s + (m + d)) (by omega) (by omega); omega), Nat.add_zero]
