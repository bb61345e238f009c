/-! ===== forecasts ===== -/
theorem LR_mk {S S' : SS} {τ τ' : HV} {T T' : Nat} (h : LR S τ T) (hT : T ≤ T') (h2 : T' < 2 ^ 20) {A : AS} (hA : RS A T' (S' 0) (τ'.2 0)) (eS : ∀ j, j ≠ 0 → j ≠ 1 → S' j = S j) (e1 : ∀ i, i = 5 ∨ i = 7 ∨ i = 11 ∨ i = 17 ∨ i = 18 ∨ i = 22 → τ'.1 i = τ.1 i) (e2 : ∀ a, a = 1 ∨ a = 4 ∨ a = 10 ∨ a = 21 → τ'.2 a = τ.2 a) : LR S' τ' T' := by
  obtain ⟨_, hs, hh, ht, ho⟩ := h
  have e11 := eS 11 (by decide) (by decide)
  exact ⟨⟨A, hA⟩, RLs_e hs hT h2 (by rw [e11]) (eS 2 (by decide) (by decide)) (e1 7 (by omega)) (e2 1 (by omega)), RLh_e hh hT h2 (by rw [e11]) (fun j h1 _ => eS j (by omega) (by omega)) (e1 5 (by omega)) (e2 4 (by omega)), RLt_e ht (by rw [e11]) (e1 11 (by omega)) (e2 10 (by omega)) (e1 17 (by omega)) (e1 18 (by omega)), RLo_e ho (by rw [e11]) (by rw [e11]) (e1 22 (by omega)) (e2 21 (by omega))⟩
theorem sA_co {t : HV} {a b : Nat} {r r' : Nat → Int32} (h : a ≠ b) : sA (sA t a r) b r' = sA (sA t b r') a r := by
  unfold sA
  rw [up_co h]
theorem M_tries {t : HV} {s : Nat → Int32} {N : Nat} (hN : 800 < N) : F_X11_tries N (sA t 0 s) = some (sA (sA t 3 (va_cpy s (t.2 3) 0 0 760)) 0 s) := by
  unfold F_X11_tries
  rw [L0, M_copies (by decide) (by decide) (by decide) hN, ob1_s, sA2s, sA_2n (by decide), sA_co (by decide)]
theorem M_laid {t : HV} {s : Nat → Int32} {v : Int32} {N : Nat} (hN : 800 < N) : F_X11_laidBack N v (sA t 0 s) = some (v, sA t 0 (va_cpy (t.2 3) s 0 0 760)) := by
  unfold F_X11_laidBack
  rw [L0, M_copies (by decide) (by decide) (by decide) hN, ob1_s, sA2s, sA_2n (by decide), sAA]
theorem laid_k {s s' r : Nat → Int32} {k : Nat} (hk : k < 760) : va_cpy (va_cpy s r 0 0 760) s' 0 0 760 k = s k := by
  rw [pk_cpy_in (by omega) (by omega), pk_cpy_in (by omega) (by omega)]
  congr 1
  omega
theorem days_in (x : Int32) (a : Nat) (ha : a ≤ 1) : (F_X10_requireDays x (nI a) = some (.inr 2) ∧ F_X11_in x.toInt64 (nI a).toInt64 (60 : Int64) = false) ∨ ∃ k, a ≤ k ∧ k ≤ 60 ∧ x = nI k ∧ F_X10_requireDays x (nI a) = some (.inl ()) ∧ F_X11_in x.toInt64 (nI a).toInt64 (60 : Int64) = true := by
  unfold F_X10_requireDays
  rw [T60, Z_inB]
  rcases rng_c x (a := a) (b := 60) (by decide) (by omega) with ⟨e, c | ⟨c, c2⟩⟩ | ⟨k, h1, h2, rfl, e⟩
  · exact Or.inl ⟨by rw [if_pos c], e⟩
  · exact Or.inl ⟨by rw [if_neg c, L60, if_neg c2], e⟩
  · refine Or.inr ⟨k, h1, h2, rfl, ?_, e⟩
    rw [L60, if_neg (by rw [Z_lt (by omega) (by omega)]; omega), if_pos (by rw [Z_le (by omega) (by omega)]; omega)]
/-- what a forecast leaves -/
theorem fore_LR {S S' : SS} {t : HV} {s r s' : Nat → Int32} {T : Nat} {A : AS} (h : LR S (sA t 0 s) T) (hC : RC A (S 0)) (hM : RM A s) (hI : Inv A T) (hT : T < 2 ^ 20) (eS : ∀ j, j ≠ 1 → S' j = S j) : LR S' (sA (sA (sS t 6 0) 3 (va_cpy s r 0 0 760)) 0 (va_cpy (va_cpy s r 0 0 760) s' 0 0 760)) T := by
  refine LR_mk (A := A) h (Nat.le_refl _) hT ⟨?_, ?_, hI⟩ (fun j _ hj => eS j hj) (fun i hi => ?_) (fun a ha => ?_)
  · rw [eS 0 (by decide)]; exact hC
  · rw [sA2s]
    exact RM_eq hM hI (fun k hk => laid_k hk)
  · show (sS t 6 0).1 i = t.1 i
    exact sS_1n (by omega)
  · rw [sA_2n (by omega), sA_2n (by omega), sA_2n (by omega)]
    rfl
theorem fore_M {t : HV} {s : Nat → Int32} {T N n : Nat} {A : AS} (hM : RM A s) (hI : Inv A T) (hn : n ≤ 60) (hT : T + n < 2 ^ 20) (hN : 800 < N) : ∃ s', F_X11_goBy N (nI n) (sA (sA t 3 (va_cpy s (t.2 3) 0 0 760)) 0 s) = some (sA (sA t 3 (va_cpy s (t.2 3) 0 0 760)) 0 s') ∧ RM (days n A) s' ∧ ∀ v : Int32, F_X11_laidBack N v (sA (sA t 3 (va_cpy s (t.2 3) 0 0 760)) 0 s') = some (v, sA (sA t 3 (va_cpy s (t.2 3) 0 0 760)) 0 (va_cpy (va_cpy s (t.2 3) 0 0 760) s' 0 0 760)) := by
  obtain ⟨s', e, r⟩ := M_goBy (t := sA t 3 (va_cpy s (t.2 3) 0 0 760)) hM hI hn hT (N := N) (by omega)
  refine ⟨s', e, r, fun v => ?_⟩
  rw [M_laid hN, sA2s]
theorem E34 {S : SS} {τ : HV} {T N : Nat} (h : LR S τ T) (hT : T + 60 < 2 ^ 20) (hN : 800 < N) (p p2 : Int32) : rX (F_X10_deliveredAfter N p p2 S) (F_X11_deliveredAfter N p p2 τ) T [(2, 1)] := by
  obtain ⟨A, t, s, rfl, hC, hM, hI⟩ := LR_get h
  unfold F_X10_deliveredAfter F_X11_deliveredAfter F_X11_areDays
  have hx : ∀ v, LR S (sS (sA t 0 s) 6 v) T := fun v => LR_6 h v (by omega)
  rcases gard_c p with ⟨e1, e2⟩ | ⟨g, hg, rfl, e1, e2⟩
  · refine Or.inr ⟨(2, 1), S, 0, sS (sA t 0 s) 6 1, List.mem_singleton.mpr rfl, by rw [e1, Zox_r], ?_, thr_6, hx 1⟩
    rw [e2, if_neg Bool.false_ne_true, pas_f, lt2_d, if_neg Bool.false_ne_true]
  · rw [e1, Zox_l, e2, if_pos rfl, T0]
    rcases days_in p2 0 (by decide) with ⟨e3, e4⟩ | ⟨n, _, hn, rfl, e3, e4⟩
    · refine Or.inr ⟨(2, 1), S, 0, sS (sA t 0 s) 6 1, List.mem_singleton.mpr rfl, by rw [L0, e3, Zox_r], ?_, thr_6, hx 1⟩
      rw [e4, if_neg Bool.false_ne_true, pas_f, lt2_d, if_neg Bool.false_ne_true]
    · rw [L0, e3, Zox_l, e4, if_pos rfl, pas_t, lt2_d, if_pos rfl, Z_gsel hg, sS_sA]
      obtain ⟨S', f1, r1, o1⟩ := C_foresee hC hI hn (by omega) (N := N) (by omega)
      obtain ⟨s', f2, r2, l2⟩ := fore_M (t := sS t 6 0) hM hI hn (by omega) hN
      have k1 : (S' 1 (1 + g)).1 7 = Hc (days n A) (10 + 2 * 1 + g) := (r1.1.2 g hg).1 1 (by decide)
      have k2 : (S' 0 (1 + g)).1 7 = Hc A (10 + 2 * 1 + g) := by rw [o1 0 (by decide)]; exact (hC.1.2 g hg).1 1 (by decide)
      have k3 : s' (16 + g) = Hc (days n A) (10 + 2 * 1 + g) := r2.2.1.2 g 1 hg (by decide)
      have k4 : s (16 + g) = Hc A (10 + 2 * 1 + g) := hM.2.1.2 g 1 hg (by decide)
      rw [f1, ob1_s, k1, k2]
      refine Or.inl ⟨_, S', _, rfl, ?_, ?_, fore_LR (r := (sS t 6 0).2 3) (s' := s') h hC hM hI (by omega) o1⟩
      · have kv : vpb (16 + nI g) 760 = true := by rw [L16, Z_add, Z_vpb (by omega)]; omega
        rw [if_pos kv, M_tries hN, ob1_s, f2, ob1_s, if_pos kv, l2, ob_s, L16, Z_add, Z_ag0 (by omega), Z_ag0 (by omega), k3, k4]
      · exact (sS_1 : (sS t 6 0).1 6 = 0)
theorem E35 {S : SS} {τ : HV} {T N : Nat} (h : LR S τ T) (hT : T + 60 < 2 ^ 20) (hN : 800 < N) (p p2 : Int32) : rX (F_X10_pendingAfter N p p2 S) (F_X11_pendingAfter N p p2 τ) T [(2, 1)] := by
  obtain ⟨A, t, s, rfl, hC, hM, hI⟩ := LR_get h
  unfold F_X10_pendingAfter F_X11_pendingAfter F_X11_areDays
  have hx : ∀ v, LR S (sS (sA t 0 s) 6 v) T := fun v => LR_6 h v (by omega)
  rcases gard_c p with ⟨e1, e2⟩ | ⟨g, hg, rfl, e1, e2⟩
  · refine Or.inr ⟨(2, 1), S, 0, sS (sA t 0 s) 6 1, List.mem_singleton.mpr rfl, by rw [e1, Zox_r], ?_, thr_6, hx 1⟩
    rw [e2, if_neg Bool.false_ne_true, pas_f, lt2_d, if_neg Bool.false_ne_true]
  · rw [e1, Zox_l, e2, if_pos rfl, T0]
    rcases days_in p2 0 (by decide) with ⟨e3, e4⟩ | ⟨n, _, hn, rfl, e3, e4⟩
    · refine Or.inr ⟨(2, 1), S, 0, sS (sA t 0 s) 6 1, List.mem_singleton.mpr rfl, by rw [L0, e3, Zox_r], ?_, thr_6, hx 1⟩
      rw [e4, if_neg Bool.false_ne_true, pas_f, lt2_d, if_neg Bool.false_ne_true]
    · rw [L0, e3, Zox_l, e4, if_pos rfl, pas_t, lt2_d, if_pos rfl, Z_gsel hg, sS_sA]
      obtain ⟨S', f1, r1, o1⟩ := C_foresee hC hI hn (by omega) (N := N) (by omega)
      obtain ⟨s', f2, r2, l2⟩ := fore_M (t := sS t 6 0) hM hI hn (by omega) hN
      have k1 : (S' 1 (1 + g)).1 2 = nI (Hq (days n A) g).length := (r1.1.2 g hg).2.2.1
      have k3 : s' (12 + g) = nI (Hq (days n A) g).length := r2.2.2.1.2 g hg
      rw [f1, ob1_s, k1]
      refine Or.inl ⟨_, S', _, rfl, ?_, ?_, fore_LR (r := (sS t 6 0).2 3) (s' := s') h hC hM hI (by omega) o1⟩
      · have kv : vpb (12 + nI g) 760 = true := by rw [L12, Z_add, Z_vpb (by omega)]; omega
        rw [M_tries hN, ob1_s, f2, ob1_s, if_pos kv, l2, ob_s, L12, Z_add, Z_ag0 (by omega), k3]
      · exact (sS_1 : (sS t 6 0).1 6 = 0)
theorem E33 {S : SS} {τ : HV} {T N : Nat} (h : LR S τ T) (hT : T + 61 < 2 ^ 20) (hN : 800 < N) (p : Int32) : rX (F_X10_daysUntilPruned N p S) (F_X11_daysUntilPruned N p τ) T [(3, 1)] := by
  obtain ⟨A, t, s, rfl, hC, hM, hI⟩ := LR_get h
  have bI := hI
  obtain ⟨hT, ⟨⟨b0, b0'⟩, ⟨b1, b1'⟩, b2, ⟨b3, b3'⟩, ⟨b4, b4'⟩, ⟨b5, b5'⟩, b6, b7⟩, hRw, hNs, hQu, hPr, hVm⟩ := id hI
  unfold F_X10_daysUntilPruned F_X11_daysUntilPruned
  have hx : ∀ v, LR S (sS (sA t 0 s) 6 v) T := fun v => LR_6 h v (by omega)
  rcases slot_c hC hM hI p with ⟨e1, e2⟩ | ⟨k, hk, rfl, e1, e2⟩
  · refine Or.inr ⟨(3, 1), S, 0, sS (sA t 0 s) 6 1, List.mem_singleton.mpr rfl, by rw [e1, Zox_r], ?_, thr_6, hx 1⟩
    rw [e2, ob1_s, pas_f, lt2_d, if_neg Bool.false_ne_true]
  · rw [e1, Zox_l, e2, ob1_s, pas_t, lt2_d, if_pos rfl, sS_sA, lt_d, M_tries hN, ob1_s]
    obtain ⟨c1, c2⟩ := C_copy (j := 1) (j2 := 0) (by decide) hC hI
    generalize F_X5_copyFrom 1 0 S = S1 at c1 c2
    have key := lpN_upx (f := fun z => st_X10_daysUntilPruned_18 N (nI k) z.1 z.2) (fun i (x : Int32 × SS) => x.1 = nI i ∧ RC (days i A) (x.2 1) ∧ (∀ j, j ≠ 1 → x.2 j = S j) ∧ ∀ m, m < i → 0 < Hr (days m A) 2 k) (fun r => ∃ S', r = .inl (oI (fstF (fun n => decide (¬ 0 < Hr (days n A) 2 k)) 61 0), S') ∧ ∀ j, j ≠ 1 → S' j = S j) (n := 61) (N := N) (x0 := (0, S1)) (by omega) ⟨rfl, c1, c2, fun m hm => absurd hm (Nat.not_lt_zero m)⟩ (fun i x hi hP => ?_) (fun x hP => ?_)
    · have keyM := lpN_upx (f := fun z => st_X11_daysUntilPruned_20 N (nI k) z.1 z.2) (fun i (x : Int32 × HV) => ∃ s', x = (nI i, sA (sA (sS t 6 0) 3 (va_cpy s ((sS t 6 0).2 3) 0 0 760)) 0 s') ∧ RM (days i A) s' ∧ ∀ m, m < i → 0 < Hr (days m A) 2 k) (fun r => ∃ s', r = (oI (fstF (fun n => decide (¬ 0 < Hr (days n A) 2 k)) 61 0), sA (sA (sS t 6 0) 3 (va_cpy s ((sS t 6 0).2 3) 0 0 760)) 0 (va_cpy (va_cpy s ((sS t 6 0).2 3) 0 0 760) s' 0 0 760))) (n := 61) (N := N) (x0 := (0, sA (sA (sS t 6 0) 3 (va_cpy s ((sS t 6 0).2 3) 0 0 760)) 0 s)) (by omega) ⟨s, rfl, hM, fun m hm => absurd hm (Nat.not_lt_zero m)⟩ (fun i x hi hP => ?_) (fun x hP => ?_)
      · obtain ⟨r, er, S', rfl, o1⟩ := key
        obtain ⟨r2, er2, s', rfl⟩ := keyM
        exact Or.inl ⟨_, S', _, er, er2, (sS_1 : (sS t 6 0).1 6 = 0), fore_LR h hC hM hI (by omega) o1⟩
      · obtain ⟨s', rfl, r1, hlt⟩ := hP
        have i1 := Inv_days bI i (by omega)
        have htw := M_hasTwig (t := sA (sS t 6 0) 3 (va_cpy s ((sS t 6 0).2 3) 0 0 760)) r1.2.2.2.1 i1.2.2.1 (k := k) (by omega)
        by_cases c : 0 < Hr (days i A) 2 k
        · obtain ⟨s2, e2', r2⟩ := M_day (t := sA (sS t 6 0) 3 (va_cpy s ((sS t 6 0).2 3) 0 0 760)) r1 i1 (by omega) (N := N) (by omega)
          refine Or.inl ⟨(nI (i + 1), sA (sA (sS t 6 0) 3 (va_cpy s ((sS t 6 0).2 3) 0 0 760)) 0 s2), ?_, s2, rfl, r2, fun m hm => ?_⟩
          · show st_X11_daysUntilPruned_20 N (nI k) (nI i) _ = _
            unfold st_X11_daysUntilPruned_20
            rw [htw]
            simp (disch := omega) only [L1, L60, Z_lt, Z_add, if_neg, ob1_s, c, decide_true, ↓reduceIte, e2']
          · by_cases e : m = i
            · rw [e]; exact c
            · exact hlt m (by omega)
        · have hf : fstF (fun n => decide (¬ 0 < Hr (days n A) 2 k)) 61 0 = some i := fstF_is (by omega) (by omega) (by simpa using c) (fun j _ hj => by have := hlt j hj; exact decide_eq_false (fun q => q this))
          refine Or.inr ⟨_, ?_, s', by rw [hf]⟩
          show st_X11_daysUntilPruned_20 N (nI k) (nI i) _ = _
          unfold st_X11_daysUntilPruned_20
          rw [htw, M_laid hN, M_laid hN, sA2s]
          simp (disch := omega) only [L60, Z_lt, if_neg, ob1_s, ob_s, c, decide_false, Bool.false_eq_true, ↓reduceIte]
          rfl
      · obtain ⟨s', rfl, r1, hlt⟩ := hP
        have hf : fstF (fun n => decide (¬ 0 < Hr (days n A) 2 k)) 61 0 = none := fstF_no (fun j _ hj => by have := hlt j (by omega); exact decide_eq_false (fun q => q this))
        refine ⟨_, ?_, s', by rw [hf]⟩
        show st_X11_daysUntilPruned_20 N (nI k) (nI 61) _ = _
        unfold st_X11_daysUntilPruned_20
        rw [if_pos (by decide), M_laid hN, sA2s, ob_s]
        rfl
    · obtain ⟨x1, x2⟩ := x
      obtain ⟨q1, r1, f1, hlt⟩ := hP
      dsimp only at q1 r1 f1
      cases q1
      have i1 := Inv_days bI i (by omega)
      have htw := C_hasTwig r1.1.1 i1 (k := k) (by omega)
      by_cases c : 0 < Hr (days i A) 2 k
      · obtain ⟨h2, e2', r2, i2⟩ := C_day r1 i1 (by omega) (N := N) (by omega)
        refine Or.inl ⟨(nI (i + 1), up x2 1 h2), ?_, rfl, ?_, fun j hj => ?_, fun m hm => ?_⟩
        · show st_X10_daysUntilPruned_18 N (nI k) (nI i) x2 = _
          unfold st_X10_daysUntilPruned_18
          rw [if_neg (by rw [L60, Z_lt (by omega) (by omega)]; omega), if_pos (by rw [htw]; exact c), e2', ob1_s, lt_d, L1, Z_add]
        · show RC _ (up x2 1 h2 1)
          rw [up_s]
          exact r2
        · show up x2 1 h2 j = _
          rw [up_n hj]
          exact f1 j hj
        · by_cases e : m = i
          · rw [e]; exact c
          · exact hlt m (by omega)
      · have hf : fstF (fun n => decide (¬ 0 < Hr (days n A) 2 k)) 61 0 = some i := fstF_is (by omega) (by omega) (by simpa using c) (fun j _ hj => by have := hlt j hj; exact decide_eq_false (fun q => q this))
        refine Or.inr ⟨.inl (nI i, x2), ?_, x2, by rw [hf]; rfl, f1⟩
        show st_X10_daysUntilPruned_18 N (nI k) (nI i) x2 = _
        unfold st_X10_daysUntilPruned_18
        rw [if_neg (by rw [L60, Z_lt (by omega) (by omega)]; omega), if_neg (by rw [htw]; exact c)]
    · obtain ⟨x1, x2⟩ := x
      obtain ⟨q1, r1, f1, hlt⟩ := hP
      dsimp only at q1 r1 f1
      cases q1
      have hf : fstF (fun n => decide (¬ 0 < Hr (days n A) 2 k)) 61 0 = none := fstF_no (fun j _ hj => by have := hlt j (by omega); exact decide_eq_false (fun q => q this))
      refine ⟨.inl (-1, x2), ?_, x2, by rw [hf]; rfl, f1⟩
      show st_X10_daysUntilPruned_18 N (nI k) (nI 61) x2 = _
      unfold st_X10_daysUntilPruned_18
      rw [if_pos (by decide)]
