/-! ===== the operations ===== -/
def tT (t : HV) (s : Nat → Int32) : HV := sA (sS t 6 0) 2 (va_cpy s ((sS t 6 0).2 2) 0 0 760)
theorem pal_1 {b c : Bool} {τ : HV} : F_X11_passesAll false b c τ = (false, sS τ 6 1) := by
  unfold F_X11_passesAll
  rw [if_neg Bool.false_ne_true, lt_d, sS_1]
  rfl
theorem pal_2 {c : Bool} {τ : HV} : F_X11_passesAll true false c τ = (false, sS τ 6 2) := by
  unfold F_X11_passesAll
  rw [if_pos rfl, if_neg Bool.false_ne_true, lt_d, sS_1]
  rfl
theorem pal_3 {τ : HV} : F_X11_passesAll true true false τ = (false, sS τ 6 3) := by
  unfold F_X11_passesAll
  rw [if_pos rfl, if_pos rfl, if_neg Bool.false_ne_true, lt_d, sS_1]
  rfl
theorem pal_0 {τ : HV} : F_X11_passesAll true true true τ = (true, sS τ 6 0) := by
  unfold F_X11_passesAll
  rw [if_pos rfl, if_pos rfl, if_pos rfl, lt_d, sS_1]
  rfl
theorem pbo_1 {b : Bool} {τ : HV} : F_X11_passesBoth false b τ = (false, sS τ 6 1) := by
  unfold F_X11_passesBoth
  rw [if_neg Bool.false_ne_true, lt_d, sS_1]
  rfl
theorem pbo_2 {τ : HV} : F_X11_passesBoth true false τ = (false, sS τ 6 2) := by
  unfold F_X11_passesBoth
  rw [if_pos rfl, if_neg Bool.false_ne_true, lt_d, sS_1]
  rfl
theorem pbo_0 {τ : HV} : F_X11_passesBoth true true τ = (true, sS τ 6 0) := by
  unfold F_X11_passesBoth
  rw [if_pos rfl, if_pos rfl, lt_d, sS_1]
  rfl
theorem tT_tried {t : HV} {s : Nat → Int32} {N : Nat} (hN : 800 < N) : F_X11_tried N true (sS (sA t 0 s) 6 0) = some (true, sA (tT t s) 0 s) := by
  rw [sS_sA, M_tried hN]
  rfl
theorem hand2 {S : SS} {t : HV} {s : Nat → Int32} {T : Nat} {A : AS} (h : LR S (sA t 0 s) T) (hC : RC A (S 0)) (hM : RM A s) (hI : Inv A T) {N : Nat} (hN : 6000 < N) : ∃ S4, F_X6_remember 0 S = some S4 ∧ S4 0 = S 0 ∧ ∀ (S' : SS) (B : AS) (T' : Nat) (s2 : Nat → Int32) (ans : Int32) (v : Bool), T ≤ T' → (∀ j, j ≠ 0 → S' j = S4 j) → RC B (S' 0) → RM B s2 → Inv B T' → ∃ τ', F_X11_done N v (sA (sS (tT t s) 8 ans) 0 s2) = some (ans, τ') ∧ F_X11_thrown τ' = 0 ∧ LR S' τ' T' := by
  obtain ⟨S4, e4, f4, g4, k4⟩ := hand h hC hM hI hN
  refine ⟨S4, e4, f4, fun S' B T' s2 ans v hT o hB1 hB2 hB3 => ?_⟩
  have n6 : ∀ i, i ≠ 6 → i ≠ 8 → (sS (tT t s) 8 ans).1 i = t.1 i := fun i h1 h2 => by
    rw [sS_1n h2]
    show (sS t 6 0).1 i = _
    rw [sS_1n h1]
  have a2 : ∀ a, a ≠ 2 → (sS (tT t s) 8 ans).2 a = t.2 a := fun a ha => by
    rw [sS_2]
    unfold tT
    rw [sA_2n ha, sS_2]
  have q1 : ∀ k, k < 760 → (sS (tT t s) 8 ans).2 2 k = s k := fun k hk => by
    rw [sS_2]
    unfold tT
    rw [sA2s, pk_cpy_in (by omega) (by omega)]
    exact congrArg s (by omega)
  have q2 : (sS (tT t s) 8 ans).1 6 = 0 := by
    rw [sS_1n (by decide)]
    exact (sS_1 : (sS t 6 0).1 6 = 0)
  have q3 : ∀ τ' : HV, (∀ i, i ≠ 5 → τ'.1 i = (sS (tT t s) 8 ans).1 i) → (∀ b, b ≠ 4 → b ≠ 0 → τ'.2 b = (sS (tT t s) 8 ans).2 b) → RLt S' τ' := fun τ' hn hb => by
    refine RLt_e h.2.2.2.1 ?_ ?_ ?_ ?_ ?_
    · rw [o 11 (by decide), g4 4 (by decide)]
    · rw [hn 11 (by decide), n6 11 (by decide) (by decide)]; rfl
    · rw [hb 10 (by decide) (by decide), a2 10 (by decide), sA_2n (by decide)]
    · rw [hn 17 (by decide), n6 17 (by decide) (by decide)]; rfl
    · rw [hn 18 (by decide), n6 18 (by decide) (by decide)]; rfl
  obtain ⟨τ', e5, t5, r5⟩ := k4 S' B T' (sS (tT t s) 8 ans) s2 v hT ⟨hB1, hB2, hB3⟩ (fun j h1 h2 => o j h1) (fun p hp => by rw [o 11 (by decide)]) (fun i hi => n6 i (by omega) (by omega)) (fun a ha => a2 a (by omega)) q1 q2 q3
  refine ⟨τ', ?_, t5, r5⟩
  rw [e5, sS_1]
theorem letter_c (x : Int32) : (F_X10_isLetter x = false ∧ F_X11_in x.toInt64 (97 : Int64) (122 : Int64) = false) ∨ ∃ c, 97 ≤ c ∧ c ≤ 122 ∧ x = nI c ∧ F_X10_isLetter x = true ∧ F_X11_in x.toInt64 (97 : Int64) (122 : Int64) = true := by
  unfold F_X10_isLetter
  rw [T97, T122, Z_inB]
  rcases rng_c x (a := 97) (b := 122) (by decide) (by decide) with ⟨e, c | ⟨c, c2⟩⟩ | ⟨k, h1, h2, rfl, e⟩
  · exact Or.inl ⟨by rw [L97, if_pos c], e⟩
  · exact Or.inl ⟨by rw [L97, if_neg c, L122, if_pos (Int32.not_le.mp c2)], e⟩
  · refine Or.inr ⟨k, h1, h2, rfl, ?_, e⟩
    rw [L97, L122, if_neg (by rw [Z_lt (by omega) (by omega)]; omega), if_neg (by rw [Z_lt (by omega) (by omega)]; omega)]
theorem num_c (x : Int32) {a b : Nat} (hb : b < 2 ^ 30) (hab : a ≤ b) : ((x < nI a ∨ (¬ x < nI a ∧ ¬ x ≤ nI b)) ∧ F_X11_in x.toInt64 (nI a).toInt64 (nI b).toInt64 = false) ∨ ∃ k, a ≤ k ∧ k ≤ b ∧ x = nI k ∧ (¬ x < nI a ∧ x ≤ nI b) ∧ F_X11_in x.toInt64 (nI a).toInt64 (nI b).toInt64 = true := by
  rw [Z_inB]
  rcases rng_c x hb hab with ⟨e, c⟩ | ⟨k, h1, h2, rfl, e⟩
  · exact Or.inl ⟨c, e⟩
  · exact Or.inr ⟨k, h1, h2, rfl, ⟨by rw [Z_lt (by omega) (by omega)]; omega, by rw [Z_le (by omega) (by omega)]; exact h2⟩, e⟩
theorem E50 {S : SS} {τ : HV} {T N : Nat} (h : LR S τ T) (hT : T < 2 ^ 20) (hN : 6000 < N) (p p2 : Int32) : rX (F_X10_plant N p p2 S) (F_X11_plant N p p2 τ) T [(3, 1), (2, 2), (1, 3)] := by
  obtain ⟨A, t, s, rfl, hC, hM, hI⟩ := LR_get h
  have bI := hI
  obtain ⟨hT, ⟨⟨b0, b0'⟩, ⟨b1, b1'⟩, b2, ⟨b3, b3'⟩, ⟨b4, b4'⟩, ⟨b5, b5'⟩, b6, b7⟩, hRw, hNs, hQu, hPr, hVm⟩ := id hI
  have hx : ∀ v, LR S (sS (sA t 0 s) 6 v) T := fun v => LR_6 h v hT
  unfold F_X10_plant F_X11_plant
  rcases slot_c hC hM hI p with ⟨e1, e2⟩ | ⟨k, hk, rfl, e1, e2⟩
  · refine Or.inr ⟨(3, 1), S, 0, sS (sA t 0 s) 6 1, List.mem_cons_self, by rw [e1, Zox_r], ?_, thr_6, hx 1⟩
    rw [e2, ob1_s, if_neg Bool.false_ne_true, ob1_s, pal_1, lt2_d, M_triedN, ob_s, if_neg Bool.false_ne_true]
  · have hle := plR_le (R := Hr A) (a := Hn A 7) (k := k)
    have hz : (nI (plR (Hr A) (Hn A 7) k) = 0) = (plR (Hr A) (Hn A 7) k = 0) := by rw [L0, Z_eq (by omega) (by omega)]
    have hmay : ∀ h', h' = S 0 → (F_X5_mayPlant (nI k) h' = true) = (plR (Hr A) (Hn A 7) k = 0) := fun h' e => by
      rw [e]
      unfold F_X5_mayPlant
      rw [C_plR hC.1.1 bI (by omega)]
      by_cases c : plR (Hr A) (Hn A 7) k = 0
      · rw [if_pos (by rw [hz]; exact c)]; simp [c]
      · rw [if_neg (by rw [hz]; exact c)]; simp [c]
    rw [e1, Zox_l, e2, ob1_s, if_pos rfl, ob1_s, M_plR hM bI hk (by omega), ob1_s]
    rcases letter_c p2 with ⟨l1, l2⟩ | ⟨c, hc, hc2, rfl, l1, l2⟩
    · refine Or.inr ⟨(2, 2), S, 0, sS (sA t 0 s) 6 2, List.mem_cons_of_mem _ List.mem_cons_self, by rw [l1, if_neg Bool.false_ne_true], ?_, thr_6, hx 2⟩
      rw [l2, pal_2, lt2_d, M_triedN, ob_s, if_neg Bool.false_ne_true, ob1_s, pal_2, lt2_d, M_triedN, ob_s, if_neg Bool.false_ne_true]
      split <;> rfl
    · rw [l1, if_pos rfl, l2]
      by_cases c0 : plR (Hr A) (Hn A 7) k = 0
      · have h7 : 0 < Hn A 7 := by
          unfold plR at c0
          split at c0
          · assumption
          · omega
        have h4 : Hr A 4 k = 0 := by
          unfold plR at c0
          rw [if_pos h7] at c0
          split at c0
          · omega
          · split at c0 <;> omega
        obtain ⟨S4, r1, r2, r3⟩ := hand2 h hC hM hI hN
        rw [if_pos (by rw [hmay _ rfl]; exact c0), if_pos (by rw [hz]; exact c0), pal_0, lt2_d, tT_tried (by omega), ob_s, if_pos rfl, r1, ob1_s, lt_d, lt_d, r2]
        have hp := C_plant hC bI (c := c) hk h7
        have hIp := Inv_pl2 bI hk hc hc2 h4
        obtain ⟨s', m1, m2⟩ := M_plant (t := tT t s) hM bI hk hc hc2 c0 (N := N) (by omega)
        have hct := C_countTwigs hp.1.1 hIp (N := N) (by omega)
        have e0 : Hn (opPl A k c) 0 = Hn A 0 := (up_n (by decide) : up (Hn A) 7 (Hn A 7 - 1) 0 = Hn A 0)
        rw [e0] at hct
        obtain ⟨τ', d1, d2, d3⟩ := r3 (up S4 0 (F_X5_plantByHand (nI k) (nI c) (S 0))) (opPl A k c) T s' (nI (cnt (twgB (Hr (opPl A k c))) (Hn A 0))) true (Nat.le_refl _) (fun j hj => up_n hj) (by rw [up_s]; exact hp) m2 hIp
        refine Or.inl ⟨nI (cnt (twgB (Hr (opPl A k c))) (Hn A 0)), _, τ', ?_, ?_, d2, d3⟩
        · rw [up_s, hct, ob1_s]
        · rw [m1, ob_s, d1, ob_s]
      · refine Or.inr ⟨(1, 3), S, 0, sS (sA t 0 s) 6 3, List.mem_cons_of_mem _ (List.mem_cons_of_mem _ List.mem_cons_self), by rw [if_neg (by rw [hmay _ rfl]; exact c0)], ?_, thr_6, hx 3⟩
        rw [if_neg (by rw [hz]; exact c0), ob1_s, pal_3, lt2_d, M_triedN, ob_s, if_neg Bool.false_ne_true]
theorem E51 {S : SS} {τ : HV} {T N : Nat} (h : LR S τ T) (hT : T < 2 ^ 20) (hN : 6000 < N) (p : Int32) : rX (F_X10_remove p S) (F_X11_remove N p τ) T [(3, 1), (1, 2)] := by
  obtain ⟨A, t, s, rfl, hC, hM, hI⟩ := LR_get h
  have bI := hI
  obtain ⟨hT, ⟨⟨b0, b0'⟩, ⟨b1, b1'⟩, b2, ⟨b3, b3'⟩, ⟨b4, b4'⟩, ⟨b5, b5'⟩, b6, b7⟩, hRw, hNs, hQu, hPr, hVm⟩ := id hI
  have hx : ∀ v, LR S (sS (sA t 0 s) 6 v) T := fun v => LR_6 h v hT
  unfold F_X10_remove F_X11_remove
  rcases slot_c hC hM hI p with ⟨e1, e2⟩ | ⟨k, hk, rfl, e1, e2⟩
  · refine Or.inr ⟨(3, 1), S, 0, sS (sA t 0 s) 6 1, List.mem_cons_self, by rw [e1, Zox_r], ?_, thr_6, hx 1⟩
    rw [e2, ob1_s, ob1_s, if_neg Bool.false_ne_true, pbo_1, lt2_d, M_triedN, ob_s, if_neg Bool.false_ne_true]
  · have hle := reR_le (R := Hr A) (a := Hn A 7) (d := Hn A 6) (k := k)
    have hz : (nI (reR (Hr A) (Hn A 7) (Hn A 6) k) = 0) = (reR (Hr A) (Hn A 7) (Hn A 6) k = 0) := by rw [L0, Z_eq (by omega) (by omega)]
    have hmay : (F_X5_mayRemove (nI k) (S 0) = true) = (reR (Hr A) (Hn A 7) (Hn A 6) k = 0) := by
      unfold F_X5_mayRemove
      rw [C_reR hC.1.1 bI (by omega)]
      by_cases c : reR (Hr A) (Hn A 7) (Hn A 6) k = 0
      · rw [if_pos (by rw [hz]; exact c)]; simp [c]
      · rw [if_neg (by rw [hz]; exact c)]; simp [c]
    rw [e1, Zox_l, e2, ob1_s, ob1_s, if_pos rfl, M_reR hM.1 hM.2.2.2.1 bI (by omega), ob1_s]
    by_cases c0 : reR (Hr A) (Hn A 7) (Hn A 6) k = 0
    · have ht0 : toR (Hr A) (Hn A 7) (Hn A 6) k = 0 := by
        unfold reR at c0
        split at c0
        · assumption
        · exact c0
      have h7 : 0 < Hn A 7 := by
        unfold toR at ht0
        split at ht0
        · assumption
        · omega
      obtain ⟨S4, r1, r2, r3⟩ := hand2 h hC hM hI hN
      rw [if_pos (by rw [hmay]; exact c0), if_pos (by rw [hz]; exact c0), pbo_0, lt2_d, tT_tried (by omega), ob_s, if_pos rfl, r1, ob1_s, lt_d, lt_d, r2]
      obtain ⟨s', m1, m2⟩ := M_rem (t := tT t s) hM bI hk c0 (N := N) (by omega)
      obtain ⟨τ', d1, d2, d3⟩ := r3 (up S4 0 (F_X5_removeByHand (nI k) (S 0))) (opRem A k) T s' (nI (Hr A 0 k)) true (Nat.le_refl _) (fun j hj => up_n hj) (by rw [up_s]; exact C_rem hC bI hk h7) m2 (Inv_rem bI hk)
      refine Or.inl ⟨nI (Hr A 0 k), _, τ', ?_, ?_, d2, d3⟩
      · rw [RHr_get hC.1.1.2.2 (by decide) (by omega)]
      · rw [m1, ob_s, d1, ob_s]
    · refine Or.inr ⟨(1, 2), S, 0, sS (sA t 0 s) 6 2, List.mem_cons_of_mem _ List.mem_cons_self, by rw [if_neg (by rw [hmay]; exact c0)], ?_, thr_6, hx 2⟩
      rw [if_neg (by rw [hz]; exact c0), pbo_2, lt2_d, M_triedN, ob_s, if_neg Bool.false_ne_true]
theorem E52 {S : SS} {τ : HV} {T N : Nat} (h : LR S τ T) (hT : T < 2 ^ 20) (hN : 6000 < N) (p p2 : Int32) : rX (F_X10_trim p p2 S) (F_X11_trim N p p2 τ) T [(3, 1), (2, 2), (1, 3)] := by
  obtain ⟨A, t, s, rfl, hC, hM, hI⟩ := LR_get h
  have bI := hI
  obtain ⟨hT, ⟨⟨b0, b0'⟩, ⟨b1, b1'⟩, b2, ⟨b3, b3'⟩, ⟨b4, b4'⟩, ⟨b5, b5'⟩, b6, b7⟩, hRw, hNs, hQu, hPr, hVm⟩ := id hI
  have hx : ∀ v, LR S (sS (sA t 0 s) 6 v) T := fun v => LR_6 h v hT
  unfold F_X10_trim F_X11_trim
  rcases slot_c hC hM hI p with ⟨e1, e2⟩ | ⟨k, hk, rfl, e1, e2⟩
  · refine Or.inr ⟨(3, 1), S, 0, sS (sA t 0 s) 6 1, List.mem_cons_self, by rw [e1, Zox_r], ?_, thr_6, hx 1⟩
    rw [e2, ob1_s, if_neg Bool.false_ne_true, ob1_s, pal_1, lt2_d, M_triedN, ob_s, if_neg Bool.false_ne_true]
  · have hle := trR_le (R := Hr A) (a := Hn A 7) (d := Hn A 6) (k := k)
    have hz : (nI (trR (Hr A) (Hn A 7) (Hn A 6) k) = 0) = (trR (Hr A) (Hn A 7) (Hn A 6) k = 0) := by rw [L0, Z_eq (by omega) (by omega)]
    have hmay : (F_X5_mayTrim (nI k) (S 0) = true) = (trR (Hr A) (Hn A 7) (Hn A 6) k = 0) := by
      unfold F_X5_mayTrim
      rw [C_trR hC.1.1 bI (by omega)]
      by_cases c : trR (Hr A) (Hn A 7) (Hn A 6) k = 0
      · rw [if_pos (by rw [hz]; exact c)]; simp [c]
      · rw [if_neg (by rw [hz]; exact c)]; simp [c]
    rw [e1, Zox_l, e2, ob1_s, if_pos rfl, ob1_s, M_trR hM.1 hM.2.2.2.1 bI (by omega), ob1_s, T1, T99]
    rcases num_c p2 (a := 1) (b := 99) (by decide) (by decide) with ⟨l1, l2⟩ | ⟨c, hc, hc2, rfl, ⟨l1, l3⟩, l2⟩
    · refine Or.inr ⟨(2, 2), S, 0, sS (sA t 0 s) 6 2, List.mem_cons_of_mem _ List.mem_cons_self, ?_, ?_, thr_6, hx 2⟩
      · rcases l1 with c | ⟨c, c2⟩
        · rw [L1, if_pos c]
        · rw [L1, if_neg c, L99, if_neg c2]
      · rw [l2, pal_2, lt2_d, M_triedN, ob_s, if_neg Bool.false_ne_true, ob1_s, pal_2, lt2_d, M_triedN, ob_s, if_neg Bool.false_ne_true]
        split <;> rfl
    · rw [L1, if_neg l1, L99, if_pos l3, l2]
      by_cases c0 : trR (Hr A) (Hn A 7) (Hn A 6) k = 0
      · have ht0 : toR (Hr A) (Hn A 7) (Hn A 6) k = 0 := by
          unfold trR at c0
          split at c0
          · assumption
          · exact c0
        have h72 : 0 < Hn A 7 ∧ 0 < Hr A 2 k := by
          unfold toR at ht0
          split at ht0
          · split at ht0
            · exact ⟨by assumption, by assumption⟩
            · omega
          · omega
        obtain ⟨S4, r1, r2, r3⟩ := hand2 h hC hM hI hN
        rw [if_pos (by rw [hmay]; exact c0), if_pos (by rw [hz]; exact c0), pal_0, lt2_d, tT_tried (by omega), ob_s, if_pos rfl, r1, ob1_s, lt_d, lt_d, r2]
        obtain ⟨s', m1, m2⟩ := M_trm (t := tT t s) hM bI hk hc2 c0
        have hp := C_trm hC bI hk hc2 h72.1
        obtain ⟨τ', d1, d2, d3⟩ := r3 (up S4 0 (F_X5_trimByHand (nI k) (nI c) (S 0))) (opTrm A k c) T s' (nI (trmV (Hr A 2 k) c)) true (Nat.le_refl _) (fun j hj => up_n hj) (by rw [up_s]; exact hp) m2 (Inv_trm bI hk h72.2)
        refine Or.inl ⟨nI (trmV (Hr A 2 k) c), _, τ', ?_, ?_, d2, d3⟩
        · rw [up_s, RHr_get hp.1.1.2.2 (by decide) (by omega)]
          show some (Sum.inl (nI (rowS (Hr A) 2 k (trmV (Hr A 2 k) c) 2 k), _)) = _
          rw [rowS_at]
        · rw [m1, ob_s, d1, ob_s]
      · refine Or.inr ⟨(1, 3), S, 0, sS (sA t 0 s) 6 3, List.mem_cons_of_mem _ (List.mem_cons_of_mem _ List.mem_cons_self), by rw [if_neg (by rw [hmay]; exact c0)], ?_, thr_6, hx 3⟩
        rw [if_neg (by rw [hz]; exact c0), ob1_s, pal_3, lt2_d, M_triedN, ob_s, if_neg Bool.false_ne_true]
/-- of a slot that there isn't the other machine asks all the same -/
theorem M_canNestX {A : AS} {T : Nat} {t : HV} {s : Nat → Int32} (hf : RMf (Hn A) s) (hr : RMr (Hr A) s) (hI : Inv A T) {p : Int32} {N : Nat} (hN : 40 < N) (h : F_X11_isSlot p (sA t 0 s) = some false) : ∃ b, F_X11_canNest N p (sA t 0 s) = some b := by
  unfold F_X11_canNest F_X11_hasNest
  rw [M_nests hf hr hI hN, ob1_s, h, ob1_s, if_neg Bool.false_ne_true, ob1_s]
  split
  · exact ⟨_, rfl⟩
  · exact ⟨_, rfl⟩
theorem E53 {S : SS} {τ : HV} {T N : Nat} (h : LR S τ T) (hT : T < 2 ^ 20) (hN : 6000 < N) (p p2 : Int32) : rX (F_X10_addNest N p p2 S) (F_X11_addNest N p p2 τ) T [(3, 1), (2, 2), (1, 3)] := by
  obtain ⟨A, t, s, rfl, hC, hM, hI⟩ := LR_get h
  have bI := hI
  obtain ⟨hT, ⟨⟨b0, b0'⟩, ⟨b1, b1'⟩, b2, ⟨b3, b3'⟩, ⟨b4, b4'⟩, ⟨b5, b5'⟩, b6, b7⟩, hRw, hNs, hQu, hPr, hVm⟩ := id hI
  have hx : ∀ v, LR S (sS (sA t 0 s) 6 v) T := fun v => LR_6 h v hT
  unfold F_X10_addNest F_X11_addNest
  rcases slot_c hC hM hI p with ⟨e1, e2⟩ | ⟨k, hk, rfl, e1, e2⟩
  · refine Or.inr ⟨(3, 1), S, 0, sS (sA t 0 s) 6 1, List.mem_cons_self, by rw [e1, Zox_r], ?_, thr_6, hx 1⟩
    obtain ⟨b, eb⟩ := M_canNestX hM.1 hM.2.2.2.1 bI (N := N) (by omega) (e2 t)
    rw [e2, ob1_s, eb, ob1_s, pal_1, lt2_d, M_triedN, ob_s, if_neg Bool.false_ne_true]
  · rw [e1, Zox_l, e2, ob1_s, M_canNest hM.1 hM.2.2.2.1 bI hk (by omega), ob1_s, C_mayNest hC.1.1 bI hk (by omega), ob1_s, T1, T30]
    rcases num_c p2 (a := 1) (b := 30) (by decide) (by decide) with ⟨l1, l2⟩ | ⟨c, hc, hc2, rfl, ⟨l1, l3⟩, l2⟩
    · refine Or.inr ⟨(2, 2), S, 0, sS (sA t 0 s) 6 2, List.mem_cons_of_mem _ List.mem_cons_self, ?_, ?_, thr_6, hx 2⟩
      · rcases l1 with c | ⟨c, c2⟩
        · rw [L1, if_pos c]
        · rw [L1, if_neg c, L30, if_neg c2]
      · rw [l2, pal_2, lt2_d, M_triedN, ob_s, if_neg Bool.false_ne_true]
    · rw [L1, if_neg l1, L30, if_pos l3, l2]
      cases c0 : nstOk A k with
      | true =>
        have h6 : cnt (nstB (Hr A)) (Hn A 0) < 6 := (of_decide_eq_true c0).1
        obtain ⟨S4, r1, r2, r3⟩ := hand2 h hC hM hI hN
        rw [if_pos rfl, pal_0, lt2_d, tT_tried (by omega), ob_s, if_pos rfl, r1, ob1_s, lt_d, lt_d, r2]
        obtain ⟨s', m1, m2⟩ := M_nst (t := tT t s) hM bI hk hc2 c0 (N := N) (by omega)
        have hp := C_nst hC bI (d := c) hk
        have hIp := Inv_nst bI hk hc2 h6
        have hct := C_countNests hp.1.1 hIp (N := N) (by omega)
        obtain ⟨τ', d1, d2, d3⟩ := r3 (up S4 0 (F_X5_placeNest (nI k) (nI c) (S 0))) (opNst A k c) T s' (nI (cnt (nstB (Hr (opNst A k c))) (Hn A 0))) true (Nat.le_refl _) (fun j hj => up_n hj) (by rw [up_s]; exact hp) m2 hIp
        refine Or.inl ⟨nI (cnt (nstB (Hr (opNst A k c))) (Hn A 0)), _, τ', ?_, ?_, d2, d3⟩
        · rw [up_s, hct, ob1_s]
          rfl
        · rw [m1, ob_s, d1, ob_s]
      | false =>
        refine Or.inr ⟨(1, 3), S, 0, sS (sA t 0 s) 6 3, List.mem_cons_of_mem _ (List.mem_cons_of_mem _ List.mem_cons_self), by rw [if_neg Bool.false_ne_true], ?_, thr_6, hx 3⟩
        rw [pal_3, lt2_d, M_triedN, ob_s, if_neg Bool.false_ne_true]
theorem C_mayCan {A : AS} {u : HV} {g : Nat} (hG : RG A g u) (h8 : (Hq A g).length ≤ 8) (x : Int32) : F_X4_hasPending x u = F_X11_in x.toInt64 (0 : Int64) ((nI (Hq A g).length - 1).toInt64) := by
  unfold F_X4_hasPending
  rw [hG.2.2.1]
  rcases in_c x (n := (Hq A g).length) (by omega) with ⟨e3, c | c⟩ | ⟨m, hm, rfl, e3⟩
  · rw [e3, if_pos c]
  · rw [e3, if_pos c]; split <;> rfl
  · rw [e3, if_neg (nI_pos (by omega)), if_neg (by rw [Z_le (by omega) (by omega)]; omega)]
theorem E55 {S : SS} {τ : HV} {T N : Nat} (h : LR S τ T) (hT : T < 2 ^ 20) (hN : 6000 < N) (p p2 : Int32) : rX (F_X10_cancelMessage p p2 S) (F_X11_cancelMessage N p p2 τ) T [(2, 1), (3, 2)] := by
  obtain ⟨A, t, s, rfl, hC, hM, hI⟩ := LR_get h
  have bI := hI
  obtain ⟨hT, ⟨⟨b0, b0'⟩, ⟨b1, b1'⟩, b2, ⟨b3, b3'⟩, ⟨b4, b4'⟩, ⟨b5, b5'⟩, b6, b7⟩, hRw, hNs, hQu, hPr, hVm⟩ := id hI
  have hx : ∀ v, LR S (sS (sA t 0 s) 6 v) T := fun v => LR_6 h v hT
  unfold F_X10_cancelMessage F_X11_cancelMessage
  rcases gard_c p with ⟨e1, e2⟩ | ⟨g, hg, rfl, e1, e2⟩
  · refine Or.inr ⟨(2, 1), S, 0, sS (sA t 0 s) 6 1, List.mem_cons_self, by rw [e1, Zox_r], ?_, thr_6, hx 1⟩
    rw [e2, if_neg Bool.false_ne_true, pbo_1, lt2_d, M_triedN, ob_s, if_neg Bool.false_ne_true]
  · have hG := hC.1.2 g hg
    have q8 := (hQu g hg).1
    have k12 : s (12 + g) = nI (Hq A g).length := hM.2.2.1.2 g hg
    have v12 : vpb (12 + nI g) 760 = true := by rw [L12, Z_add, Z_vpb (by omega)]; omega
    have a12 : ag (sA t 0 s) 0 (12 + nI g) = nI (Hq A g).length := by rw [L12, Z_add, Z_ag0 (by omega), k12]
    unfold F_X5_mayCancel
    rw [e1, Zox_l, e2, if_pos rfl, if_pos v12, a12, Z_gsel hg, C_mayCan hG q8]
    rcases in_c p2 (n := (Hq A g).length) (by omega) with ⟨e3, e4⟩ | ⟨m, hm, rfl, e3⟩
    · rw [e3]
      refine Or.inr ⟨(3, 2), S, 0, sS (sA t 0 s) 6 2, List.mem_cons_of_mem _ List.mem_cons_self, by rw [if_neg Bool.false_ne_true], ?_, thr_6, hx 2⟩
      rw [if_neg Bool.false_ne_true, pbo_2, lt2_d, M_triedN, ob_s, if_neg Bool.false_ne_true]
    · obtain ⟨S4, r1, r2, r3⟩ := hand2 h hC hM hI hN
      rw [e3, if_pos rfl, if_pos rfl, pbo_0, lt2_d, tT_tried (by omega), ob_s, if_pos rfl, r1, ob1_s, lt_d, lt_d, r2]
      obtain ⟨s', m1, m2⟩ := M_can (t := tT t s) hM bI hg hm (N := N) (by omega)
      obtain ⟨τ', d1, d2, d3⟩ := r3 (up S4 0 (up (S 0) (1 + g) (F_X4_cancel (nI m) (S 0 (1 + g))))) (opCan A g m) T s' (nI ((Hq A g).getD m []).length) true (Nat.le_refl _) (fun j hj => up_n hj) (by rw [up_s]; exact C_can hC bI hg hm) m2 (Inv_can bI)
      refine Or.inl ⟨nI ((Hq A g).getD m []).length, _, τ', ?_, ?_, d2, d3⟩
      · rw [C_lengthOf hG q8 (by omega)]
      · rw [m1, ob_s, d1, ob_s]
theorem E56 {S : SS} {τ : HV} {T N : Nat} (h : LR S τ T) (hT : T < 2 ^ 20) (hN : 6000 < N) (p : Int32) : rX (F_X10_setWorkLimit p S) (F_X11_setWorkLimit N p τ) T [(2, 1)] := by
  obtain ⟨A, t, s, rfl, hC, hM, hI⟩ := LR_get h
  have hx : ∀ v, LR S (sS (sA t 0 s) 6 v) T := fun v => LR_6 h v hT
  unfold F_X10_setWorkLimit F_X11_setWorkLimit
  rw [T1, T12]
  rcases num_c p (a := 1) (b := 12) (by decide) (by decide) with ⟨l1, l2⟩ | ⟨c, hc, hc2, rfl, ⟨l1, l3⟩, l2⟩
  · refine Or.inr ⟨(2, 1), S, 0, sS (sA t 0 s) 6 1, List.mem_cons_self, ?_, ?_, thr_6, hx 1⟩
    · rcases l1 with c | ⟨c, c2⟩
      · rw [L1, if_pos c]
      · rw [L1, if_neg c, L12, if_neg c2]
    · rw [l2, pas_f, lt2_d, M_triedN, ob_s, if_neg Bool.false_ne_true]
  · obtain ⟨S4, r1, r2, r3⟩ := hand2 h hC hM hI hN
    rw [L1, if_neg l1, L12, if_pos l3, l2, pas_t, lt2_d, tT_tried (by omega), ob_s, if_pos rfl, r1, ob1_s, lt_d, r2]
    obtain ⟨m1, m2⟩ := M_work (t := tT t s) hM hI c
    obtain ⟨τ', d1, d2, d3⟩ := r3 (up S4 0 (up (S 0) 0 (sS (S 0 0) 1 (nI c)))) (limA A c) T _ (nI (Hn A 1)) true (Nat.le_refl _) (fun j hj => up_n hj) (by rw [up_s]; exact C_lim hC c) m2 (Inv_lim hI hc hc2)
    refine Or.inl ⟨nI (Hn A 1), _, τ', ?_, ?_, d2, d3⟩
    · rw [hC.1.1.1 1 (by decide)]
    · rw [m1, ob_s, d1, ob_s]
theorem C_goBy {A : AS} {T : Nat} {S : SS} (hC : RC A (S 0)) (hI : Inv A T) {N n : Nat} (hn : n ≤ 60) (hT2 : T + n < 2 ^ 20) (hN : 400 < N) (R : Type) (f : Int32 × SS → Option ((Int32 × SS) ⊕ R)) (hf : ∀ i x h', i < n → F_X5_endOneDay N (x 0) = some h' → f (nI i, x) = some (.inl (nI (i + 1), up x 0 h'))) (g : SS → R) (hg : ∀ x, f (nI n, x) = some (.inr (g x))) : ∃ S', lpN N f (0, S) = some (g S') ∧ RC (days n A) (S' 0) ∧ ∀ j, j ≠ 0 → S' j = S j := by
  have key := lpN_up (f := f) (fun i (x : Int32 × SS) => x.1 = nI i ∧ RC (days i A) (x.2 0) ∧ ∀ j, j ≠ 0 → x.2 j = S j) (fun r => ∃ S', r = g S' ∧ RC (days n A) (S' 0) ∧ ∀ j, j ≠ 0 → S' j = S j) (n := n) (N := N) (x0 := (0, S)) (by omega) ⟨rfl, hC, fun _ _ => rfl⟩ (fun i x hi hP => ?_) (fun x hP => ?_)
  · obtain ⟨r, e, S', rfl, h⟩ := key
    exact ⟨S', e, h⟩
  · obtain ⟨x1, x2⟩ := x
    obtain ⟨e1, r1, f1⟩ := hP
    dsimp only at e1 r1 f1
    cases e1
    obtain ⟨h2, e2, r2, i2⟩ := C_day r1 (Inv_days hI i (by omega)) (by omega) (N := N) (by omega)
    refine ⟨(nI (i + 1), up x2 0 h2), hf i x2 h2 hi e2, rfl, ?_, fun j hj => ?_⟩
    · show RC _ (up x2 0 h2 0)
      rw [up_s]
      exact r2
    · show up x2 0 h2 j = _
      rw [up_n hj]
      exact f1 j hj
  · obtain ⟨x1, x2⟩ := x
    obtain ⟨e1, r1, f1⟩ := hP
    dsimp only at e1 r1 f1
    cases e1
    exact ⟨_, hg x2, x2, rfl, r1, f1⟩
theorem E57 {S : SS} {τ : HV} {T N : Nat} (h : LR S τ T) (hT : T + 60 < 2 ^ 20) (hN : 6000 < N) (p : Int32) : rX (F_X10_endDays N p S) (F_X11_endDays N p τ) (T + 60) [(2, 1)] := by
  obtain ⟨A, t, s, rfl, hC, hM, hI⟩ := LR_get h
  have hx : ∀ v, LR S (sS (sA t 0 s) 6 v) (T + 60) := fun v => LR_up (LR_6 h v (by omega)) (by omega) hT
  unfold F_X10_endDays F_X11_endDays
  rw [T1]
  rcases days_in p 1 (by decide) with ⟨e3, e4⟩ | ⟨n, _, hn, rfl, e3, e4⟩
  · refine Or.inr ⟨(2, 1), S, 0, sS (sA t 0 s) 6 1, List.mem_cons_self, by rw [L1, e3, Zox_r], ?_, thr_6, hx 1⟩
    rw [e4, pas_f, lt2_d, M_triedN, ob_s, if_neg Bool.false_ne_true]
  · obtain ⟨S4, r1, r2, r3⟩ := hand2 h hC hM hI hN
    rw [L1, e3, Zox_l, e4, pas_t, lt2_d, tT_tried (by omega), ob_s, if_pos rfl, r1, ob1_s]
    obtain ⟨s', m1, m2⟩ := M_end (t := tT t s) hM hI hn (by omega) (N := N) (by omega)
    have hC4 : RC A (S4 0) := by rw [r2]; exact hC
    have kd : ∀ (B : AS) (x : SS), RC B (x 0) → ((x 0 1).1 7 + (x 0 2).1 7) = Hc B 12 + Hc B 13 := fun B x hx => by
      have k0 : (x 0 (1 + 0)).1 7 = Hc B 12 := (hx.1.2 0 (by decide)).1 1 (by decide)
      have k1 : (x 0 (1 + 1)).1 7 = Hc B 13 := (hx.1.2 1 (by decide)).1 1 (by decide)
      rw [show x 0 1 = x 0 (1 + 0) from rfl, show x 0 2 = x 0 (1 + 1) from rfl, k0, k1]
    rw [kd A S4 hC4]
    obtain ⟨S', l1, l2, l3⟩ := C_goBy hC4 hI hn (by omega) (N := N) (by omega) ((Int32 × SS) ⊕ (Nat × SS)) (fun z => st_X10_endDays_40 N (nI n) (Hc A 12 + Hc A 13) z.1 z.2) (fun i x h' hi e => by
      show st_X10_endDays_40 N (nI n) (Hc A 12 + Hc A 13) (nI i) x = _
      unfold st_X10_endDays_40
      rw [if_neg (by rw [Z_le (by omega) (by omega)]; omega), e, ob1_s, lt_d, L1, Z_add]) (fun x => .inl ((((x 0 1).1 7 + (x 0 2).1 7) - (Hc A 12 + Hc A 13)), x)) (fun x => by
      show st_X10_endDays_40 N (nI n) (Hc A 12 + Hc A 13) (nI n) x = _
      unfold st_X10_endDays_40
      rw [if_pos (by rw [Z_le (by omega) (by omega)]; omega)])
    obtain ⟨τ', d1, d2, d3⟩ := r3 S' (days n A) (T + 60) s' ((Hc (days n A) 12 + Hc (days n A) 13) - (Hc A 12 + Hc A 13)) true (by omega) l3 l2 m2 (Inv_up (Inv_days hI n (by omega)) (by omega) hT)
    refine Or.inl ⟨(Hc (days n A) 12 + Hc (days n A) 13) - (Hc A 12 + Hc A 13), S', τ', ?_, ?_, d2, d3⟩
    · rw [l1, kd _ S' l2]
    · rw [m1, ob_s, d1, ob_s]
