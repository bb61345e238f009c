/-! ===== sending the word of the buffer ===== -/
def bwB (B : Nat → Nat) (n i : Nat) : Bool := decide (1 ≤ n ∧ n ≤ 12 ∧ ∀ j, j < i → isL (B j) = true)
theorem bwB_t {B : Nat → Nat} {n i : Nat} : (bwB B n i = true) ↔ (1 ≤ n ∧ n ≤ 12 ∧ ∀ j, j < i → isL (B j) = true) := by
  unfold bwB
  exact decide_eq_true_iff
theorem bwB_f {B : Nat → Nat} {n i : Nat} (h : ¬ (1 ≤ n ∧ n ≤ 12 ∧ ∀ j, j < i → isL (B j) = true)) : bwB B n i = false := by
  cases c : bwB B n i with
  | false => rfl
  | true => exact absurd (bwB_t.mp c) h
theorem C_oneWord {B : Nat → Nat} {n N : Nat} {g : HV} (h : CB B n g) (hN : 900 < N) : F_X9_isOneWord N g = some (bwB B n n) := by
  have h800 := h.1
  unfold F_X9_isOneWord
  rw [h.2.2]
  by_cases c1 : n < 1
  · rw [if_pos (show nI n < 1 by rw [L1, Z_lt (by omega) (by omega)]; exact c1), bwB_f (fun q => by omega)]
  · rw [if_neg (show ¬ nI n < 1 by rw [L1, Z_lt (by omega) (by omega)]; exact c1)]
    by_cases c2 : n ≤ 12
    · rw [if_pos (show nI n ≤ 12 by rw [L12, Z_le (by omega) (by omega)]; exact c2)]
      have key : ∃ r, lpN N (fun z => st_X9_isOneWord_21 N z g) 0 = some r ∧ r = bwB B n n := by
        refine lpN_upx (fun i x => x = nI i ∧ ∀ j, j < i → isL (B j) = true) _ (n := n) (by omega) ⟨rfl, fun j hj => absurd hj (Nat.not_lt_zero j)⟩ (fun i x hi hP => ?_) (fun x hP => ?_)
        · obtain ⟨rfl, hP⟩ := hP
          show (∃ y, st_X9_isOneWord_21 N (nI i) g = _ ∧ _) ∨ ∃ r, st_X9_isOneWord_21 N (nI i) g = _ ∧ _
          unfold st_X9_isOneWord_21
          rw [h.2.2, if_neg (by rw [Z_le (by omega) (by omega)]; omega), CB_get h hi, Z_isL (h.2.1 i hi).1]
          cases c : isL (B i) with
          | true =>
            rw [if_pos rfl, L1, Z_add]
            exact Or.inl ⟨_, rfl, rfl, fun j hj => by
              by_cases e : j = i
              · rw [e]; exact c
              · exact hP j (by omega)⟩
          | false =>
            rw [if_neg Bool.false_ne_true]
            exact Or.inr ⟨_, rfl, (bwB_f (fun q => by rw [q.2.2 i hi] at c; cases c)).symm⟩
        · obtain ⟨rfl, hP⟩ := hP
          refine ⟨true, ?_, (bwB_t.mpr ⟨by omega, c2, hP⟩).symm⟩
          show st_X9_isOneWord_21 N (nI n) g = _
          unfold st_X9_isOneWord_21
          rw [h.2.2, if_pos (by rw [Z_le (by omega) (by omega)]; omega)]
      obtain ⟨r, e, rfl⟩ := key
      exact e
    · rw [if_neg (show ¬ nI n ≤ 12 by rw [L12, Z_le (by omega) (by omega)]; exact c2), bwB_f (fun q => c2 q.2.1)]
theorem M_bufWord {B : Nat → Nat} {n N : Nat} {t : HV} (h : MB B n t) (hN : 900 < N) : (bwB B n n = true ∧ ∃ r, F_X11_isBufferWord N t = some (true, sA t 9 r) ∧ wAt r 0 (wdL B 0 n)) ∨ (bwB B n n = false ∧ F_X11_isBufferWord N t = some (false, t)) := by
  have h800 := h.1
  have hin : F_X11_in (nI n).toInt64 (1 : Int64) (12 : Int64) = decide (1 ≤ n ∧ n ≤ 12) := by
    rw [T1, T12, Z_inB]
    simp only [Z_le (show 1 < 2 ^ 31 by omega) (show n < 2 ^ 31 by omega), Z_le (show n < 2 ^ 31 by omega) (show 12 < 2 ^ 31 by omega)]
  have h0 : decide (1 ≤ n ∧ n ≤ 12) = bwB B n 0 := by
    by_cases c : 1 ≤ n ∧ n ≤ 12
    · rw [decide_eq_true c, bwB_t.mpr ⟨c.1, c.2, fun j hj => absurd hj (Nat.not_lt_zero j)⟩]
    · rw [decide_eq_false c, bwB_f (fun q => c ⟨q.1, q.2.1⟩)]
  unfold F_X11_isBufferWord
  rw [h.2.2, hin, h0]
  have key := lpN_upx (f := fun z => st_X11_isBufferWord_15 N z.1 z.2.1 z.2.2) (fun i (x : Bool × Int32 × HV) => x = (bwB B n i, nI i, t)) (fun y => (bwB B n n = true ∧ ∃ r, y = (true, sA t 9 r) ∧ wAt r 0 (wdL B 0 n)) ∨ (bwB B n n = false ∧ y = (false, t))) (n := n) (N := N) (x0 := (bwB B n 0, 0, t)) (by omega) rfl (fun i x hi hP => ?_) (fun x hP => ?_)
  · obtain ⟨y, e, q⟩ := key
    rcases q with ⟨q1, r, rfl, q2⟩ | ⟨q1, rfl⟩
    · exact Or.inl ⟨q1, r, e, q2⟩
    · exact Or.inr ⟨q1, e⟩
  · subst hP
    show (∃ y, st_X11_isBufferWord_15 N (bwB B n i) (nI i) t = _ ∧ _) ∨ ∃ r, st_X11_isBufferWord_15 N (bwB B n i) (nI i) t = _ ∧ _
    unfold st_X11_isBufferWord_15
    rw [h.2.2, if_neg (by rw [Z_le (by omega) (by omega)]; omega)]
    cases c : bwB B n i with
    | true =>
      have c' := bwB_t.mp c
      have hl : F_X11_in (ag t 10 (nI i)).toInt64 (97 : Int64) (122 : Int64) = bwB B n (i + 1) := by
        have hb := M_isL (k := i) h
        have eb : bA B n i = nI (B i) := if_neg (by omega)
        rw [eb] at hb
        rw [Z_ag (by omega), (h.2.1 i hi).2, hb]
        by_cases c2 : isL (B i) = true
        · rw [decide_eq_true ⟨hi, c2⟩]
          exact (bwB_t.mpr ⟨c'.1, c'.2.1, fun j hj => by
            by_cases e : j = i
            · rw [e]; exact c2
            · exact c'.2.2 j (by omega)⟩).symm
        · rw [decide_eq_false (fun q => c2 q.2), bwB_f (fun q => c2 (q.2.2 i (by omega)))]
      rw [if_pos rfl, if_pos (by rw [Z_vpb (by omega)]; omega), hl, L1, Z_add]
      exact Or.inl ⟨_, rfl, rfl⟩
    | false =>
      have hf : bwB B n n = false := bwB_f (fun q => by
        rw [bwB_t.mpr ⟨q.1, q.2.1, fun j hj => q.2.2 j (by omega)⟩] at c
        cases c)
      rw [if_neg Bool.false_ne_true, if_neg Bool.false_ne_true]
      exact Or.inr ⟨_, rfl, Or.inr ⟨hf, rfl⟩⟩
  · subst hP
    show ∃ r, st_X11_isBufferWord_15 N (bwB B n n) (nI n) t = _ ∧ _
    unfold st_X11_isBufferWord_15
    rw [h.2.2, if_pos (by rw [Z_le (by omega) (by omega)]; omega)]
    cases c : bwB B n n with
    | true =>
      have c' := bwB_t.mp c
      obtain ⟨r, e1, w1⟩ := M_takes (B := B) (n := n) (s := 0) (m := n) (t := t) h (by omega) c'.2.1 hN
      rw [L0, e1, if_pos rfl, ob1_s]
      exact ⟨_, rfl, Or.inl ⟨rfl, r, rfl, w1⟩⟩
    | false =>
      rw [if_neg Bool.false_ne_true]
      exact ⟨_, rfl, Or.inr ⟨rfl, rfl⟩⟩
/-- the bytes that both hold -/
theorem RLt_B {S : SS} {τ : HV} (h : RLt S τ) : ∃ n B, CB B n (S 11 4) ∧ MB B n τ ∧ τ.1 17 = (S 11 4).1 7 ∧ τ.1 18 = (S 11 4).1 8 := by
  obtain ⟨n, hn, q1, q2, q3, q4, q5⟩ := h
  refine ⟨n, fun k => if hk : k < n then (q3 k hk).choose else 0, ⟨hn, fun k hk => ?_, q1⟩, ⟨hn, fun k hk => ?_, q2⟩, q4, q5⟩
  · have := (q3 k hk).choose_spec
    simp only [hk, dite_true]
    exact ⟨this.1, this.2.1⟩
  · have := (q3 k hk).choose_spec
    simp only [hk, dite_true]
    exact ⟨this.1, this.2.2⟩
theorem E54 {S : SS} {τ : HV} {T N : Nat} (h : LR S τ T) (hT : T < 2 ^ 20) (hN : 6000 < N) (p : Int32) : rX (F_X10_queueMessage N p S) (F_X11_queueMessage N p τ) T [(2, 1), (1, 2)] := by
  obtain ⟨n, B, hCB, hMB, q4, q5⟩ := RLt_B h.2.2.2.1
  obtain ⟨A, t, s, rfl, hC, hM, hI⟩ := LR_get h
  have bI := hI
  obtain ⟨hT, ⟨⟨b0, b0'⟩, ⟨b1, b1'⟩, b2, ⟨b3, b3'⟩, ⟨b4, b4'⟩, ⟨b5, b5'⟩, b6, b7⟩, hRw, hNs, hQu, hPr, hVm⟩ := id hI
  have h800 := hCB.1
  unfold F_X10_queueMessage F_X11_queueMessage
  rcases gard_c p with ⟨e1, e2⟩ | ⟨g, hg, rfl, e1, e2⟩
  · refine Or.inr ⟨(2, 1), S, 0, sS (sA t 0 s) 6 1, List.mem_cons_self, by rw [e1, Zox_r], ?_, thr_6, LR_6 h 1 hT⟩
    rw [e2, if_neg Bool.false_ne_true, pbo_1, lt2_d, M_triedN, ob_s, if_neg Bool.false_ne_true]
  · rw [e1, Zox_l, e2, if_pos rfl, C_oneWord hCB (by omega), ob1_s]
    rcases M_bufWord hMB (N := N) (by omega) with ⟨b1, r, b2, b3⟩ | ⟨b1, b2⟩
    · have hwd := bwB_t.mp b1
      have hlen : (wdL B 0 n).length = n := wdL_len
      have hokw : okW (wdL B 0 n) := wdL_ok (by omega) hwd.2.1 (fun k hk => by
        have := hwd.2.2 k hk
        rw [isL_t] at this
        rwa [Nat.zero_add])
      have k12 : s (12 + g) = nI (Hq A g).length := hM.2.2.1.2 g hg
      have q8 := (hQu g hg).1
      have v12 : vpb (12 + nI g) 760 = true := by rw [L12, Z_add, Z_vpb (by omega)]; omega
      have esw : sA (sA t 0 s) 9 r = sA (sA t 9 r) 0 s := sA_co (by decide)
      have a12 : ag (sA (sA t 9 r) 0 s) 0 (12 + nI g) = nI (Hq A g).length := by rw [L12, Z_add, Z_ag0 (by omega), k12]
      have hmay : F_X5_mayQueue (nI g) (S 0) = decide ((Hq A g).length < 8) := by
        unfold F_X5_mayQueue
        rw [Z_gsel hg, show (S 0 (1 + g)).1 2 = nI (Hq A g).length from (hC.1.2 g hg).2.2.1]
        by_cases c : (Hq A g).length < 8
        · rw [if_neg (show ¬ (8 : Int32) ≤ nI (Hq A g).length by rw [L8, Z_le (by omega) (by omega)]; omega), decide_eq_true c]
        · rw [if_pos (show (8 : Int32) ≤ nI (Hq A g).length by rw [L8, Z_le (by omega) (by omega)]; omega), decide_eq_false c]
      rw [b1, if_pos rfl, hmay, b2, ob_s, if_pos rfl, if_pos v12, esw, a12]
      by_cases c : (Hq A g).length < 8
      · obtain ⟨S4, r1, r2, g4, r3⟩ := hand h hC hM hI hN
        have hS4 : S4 11 4 = S 11 4 := g4 4 (by decide)
        rw [decide_eq_true c, if_pos rfl, if_neg (show ¬ (8 : Int32) ≤ nI (Hq A g).length by rw [L8, Z_le (by omega) (by omega)]; omega), pbo_0, lt2_d, sS_sA, M_tried (by omega), ob_s, if_pos rfl, r1, ob1_s]
        simp only [lt_d]
        rw [hS4, r2, hCB.2.2, sS_sA, L0]
        generalize hu : sS (sA (sS (sA t 9 r) 6 (nI 0)) 2 (va_cpy s ((sS (sA t 9 r) 6 (nI 0)).2 2) 0 0 760)) 11 (nI 0) = u
        have u9 : u.2 9 = r := by rw [← hu, sS_2, sA_2n (by decide), sS_2, sA2s]
        have u1 : ∀ i, i ≠ 6 → i ≠ 11 → u.1 i = t.1 i := fun i a b => by rw [← hu, sS_1n b, sA_1, sS_1n a]; rfl
        have u2 : ∀ a, a ≠ 2 → a ≠ 9 → u.2 a = t.2 a := fun a a2 a9 => by rw [← hu, sS_2, sA_2n a2, sS_2, sA_2n a9]
        obtain ⟨s', m1, m2⟩ := M_msg (t := u) hM bI hg c (w := wdL B 0 n) (by rw [u9]; exact b3) (by rw [hlen]; exact hwd.2.1) (N := N) (by omega)
        have hque := C_que (h := S 0) hC bI hg c (src := (S 11 4).2 0) (n2 := 800) (a := 0) (w := wdL B 0 n) (by decide) (by rw [hlen]; omega) (by rw [hlen]; exact hwd.2.1) (fun x hx => by
          rw [hlen] at hx
          rw [wdL_at hx]
          rw [Nat.zero_add]
          exact (hCB.2.1 x hx).2)
        rw [hlen] at hque
        have hIq := Inv_que (g := g) bI c hokw
        rw [m1, ob_s]
        have x4 : up (up S4 0 (F_X5_receive (nI g) ((S 11 4).2 0) 800 (nI 0) (nI n) (S 0))) 11 (up (up S4 0 (F_X5_receive (nI g) ((S 11 4).2 0) 800 (nI 0) (nI n) (S 0)) 11) 4 (sS (up S4 0 (F_X5_receive (nI g) ((S 11 4).2 0) 800 (nI 0) (nI n) (S 0)) 11 4) 1 (nI 0))) 11 4 = sS (S 11 4) 1 (nI 0) := by
          rw [up_s, up_s, up_n (by decide), hS4]
        obtain ⟨τ', d1, d2, d3⟩ := r3 (up (up S4 0 (F_X5_receive (nI g) ((S 11 4).2 0) 800 (nI 0) (nI n) (S 0))) 11 (up (up S4 0 (F_X5_receive (nI g) ((S 11 4).2 0) 800 (nI 0) (nI n) (S 0)) 11) 4 (sS (up S4 0 (F_X5_receive (nI g) ((S 11 4).2 0) 800 (nI 0) (nI n) (S 0)) 11 4) 1 (nI 0)))) (opQue A g (wdL B 0 n)) T (sS u 8 (nI ((Hq A g).length + 1))) s' true (Nat.le_refl _) ⟨by rw [up_n (by decide), up_s]; exact hque, m2, hIq⟩ (fun j a b => by rw [up_n b, up_n a]) (fun p hp => by rw [up_s, up_n hp, up_n (by decide)]) (fun i hi => by rw [sS_1n (by omega)]; exact u1 i (by omega) (by omega)) (fun a ha => by rw [sS_2]; exact u2 a (by omega) (by omega)) (fun k hk => by
            rw [sS_2, ← hu, sS_2, sA2s, pk_cpy_in (by omega) (by omega)]
            exact congrArg s (by omega)) (by rw [sS_1n (by decide), ← hu, sS_1n (by decide), sA_1, sS_1]; rfl) (fun τ' hn hb => by
            refine ⟨0, Nat.zero_le _, by rw [x4, sS_1], ?_, fun k hk => absurd hk (Nat.not_lt_zero k), ?_, ?_⟩
            · rw [hn 11 (by decide), sS_1n (by decide), ← hu, sS_1]
            · rw [hn 17 (by decide), sS_1n (by decide), u1 17 (by decide) (by decide), x4, show (sS (S 11 4) 1 (nI 0)).1 7 = (S 11 4).1 7 from sS_1n (by decide)]; exact q4
            · rw [hn 18 (by decide), sS_1n (by decide), u1 18 (by decide) (by decide), x4, show (sS (S 11 4) 1 (nI 0)).1 8 = (S 11 4).1 8 from sS_1n (by decide)]; exact q5)
        refine Or.inl ⟨nI ((Hq A g).length + 1), _, τ', ?_, ?_, d2, d3⟩
        · have e2' : (F_X5_receive (nI g) ((S 11 4).2 0) 800 (nI 0) (nI n) (S 0) (1 + g)).1 2 = nI ((Hq A g).length + 1) := by
            have := (hque.1.2 g hg).2.2.1
            rw [this]
            show nI (up (Hq A) g (Hq A g ++ [wdL B 0 n]) g).length = _
            rw [up_s, List.length_append]
            rfl
          rw [Z_gsel hg, up_n (show (0 : Nat) ≠ 11 by decide), up_s, e2']
        · rw [d1, ob_s, sS_1]
      · rw [decide_eq_false c, if_neg Bool.false_ne_true, if_pos (show (8 : Int32) ≤ nI (Hq A g).length by rw [L8, Z_le (by omega) (by omega)]; omega), pbo_2, lt2_d, M_triedN, ob_s, if_neg Bool.false_ne_true]
        refine Or.inr ⟨(1, 2), S, 0, _, List.mem_cons_of_mem _ List.mem_cons_self, rfl, rfl, thr_6, LR_e h (Nat.le_refl _) hT (fun _ _ => rfl) (fun i hi => ?_) (fun a ha => ?_)⟩
        · rw [sS_1n (by omega)]; rfl
        · rw [sS_2, ← esw, sA_2n (by omega)]
    · rw [b1, if_neg Bool.false_ne_true, b2, ob_s, if_neg Bool.false_ne_true, pbo_1, lt2_d, M_triedN, ob_s, if_neg Bool.false_ne_true]
      exact Or.inr ⟨(2, 1), S, 0, _, List.mem_cons_self, rfl, rfl, thr_6, LR_6 h 1 hT⟩
