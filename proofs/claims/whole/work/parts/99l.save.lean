/-! ===== saving, writing out ===== -/
theorem isb_b {b : Bool} : isb (b2i b) = true := by cases b <;> decide
theorem i2b_b {b : Bool} : i2b (b2i b) = b := by cases b <;> decide
theorem E59 {S : SS} {τ : HV} {T N : Nat} (h : LR S τ T) (hT : T < 2 ^ 20) (hN : 6000 < N) : ∃ v S' τ', F_X10_save S = (v, S') ∧ F_X11_save N τ = some (v, τ') ∧ LR S' τ' T := by
  obtain ⟨A, t, s, rfl, hC, hM, hI⟩ := LR_get h
  obtain ⟨c1, c2⟩ := C_copy (j := 2) (j2 := 0) (by decide) hC hI
  unfold F_X10_save F_X11_save
  generalize F_X5_copyFrom 2 0 S = S2 at c1 c2
  have e11 : S2 11 = S 11 := c2 11 (by decide)
  have n6 : s 6 = nI (Hn A 6) := hM.1 6 (by decide)
  rw [lt_d, lt_d, lt_d, L0, M_copies (by decide) (by decide) (by decide) (by omega), ob1_s, lt_d, if_pos (by decide)]
  have e6 : ag (sS (sA (sS (sA t 0 s) 6 (nI 0)) 1 (va_cpy ((sS (sA t 0 s) 6 (nI 0)).2 0) ((sS (sA t 0 s) 6 (nI 0)).2 1) 0 0 760)) 7 (b2i true)) 0 6 = nI (Hn A 6) := by
    rw [L6, Z_ag (by decide), sS_2, sA_2n (by decide), sS_2, sA2s, n6]
  rw [e6]
  refine ⟨nI (Hn A 6), up S2 11 (up (S2 11) 6 (sS (S2 11 6) 3 (b2i true))), _, ?_, rfl, ?_⟩
  · rw [up_n (by decide), c2 0 (by decide), hC.1.1.1 6 (by decide)]
  · have o : ∀ j, j ≠ 2 → j ≠ 11 → up S2 11 (up (S2 11) 6 (sS (S2 11 6) 3 (b2i true))) j = S j := fun j h1 h2 => by rw [up_n h2, c2 j h1]
    have o6 : ∀ p, p ≠ 6 → up S2 11 (up (S2 11) 6 (sS (S2 11 6) 3 (b2i true))) 11 p = S 11 p := fun p hp => by rw [up_s, up_n hp, e11]
    have x6 : up S2 11 (up (S2 11) 6 (sS (S2 11 6) 3 (b2i true))) 11 6 = sS (S 11 6) 3 (b2i true) := by rw [up_s, up_s, e11]
    have nn : ∀ i, i ≠ 6 → i ≠ 7 → (sS (sA (sS (sA t 0 s) 6 (nI 0)) 1 (va_cpy ((sS (sA t 0 s) 6 (nI 0)).2 0) ((sS (sA t 0 s) 6 (nI 0)).2 1) 0 0 760)) 7 (b2i true)).1 i = t.1 i := fun i h1 h2 => by
      rw [sS_1n h2, sA_1, sS_1n h1, sA_1]
    have aa : ∀ a, a ≠ 1 → (sS (sA (sS (sA t 0 s) 6 (nI 0)) 1 (va_cpy ((sS (sA t 0 s) 6 (nI 0)).2 0) ((sS (sA t 0 s) 6 (nI 0)).2 1) 0 0 760)) 7 (b2i true)).2 a = (sA t 0 s).2 a := fun a ha => by
      rw [sS_2, sA_2n ha, sS_2]
    refine ⟨⟨A, ?_, ?_, hI⟩, ⟨true, ?_, ?_, fun _ => ⟨A, ?_, ?_, hI⟩⟩, RLh_e h.2.2.1 (Nat.le_refl _) hT (o6 7 (by decide)) (fun j h1 h2 => o j (by omega) (by omega)) (nn 5 (by decide) (by decide)) (aa 4 (by decide)), RLt_e h.2.2.2.1 (o6 4 (by decide)) (nn 11 (by decide) (by decide)) (aa 10 (by decide)) (nn 17 (by decide) (by decide)) (nn 18 (by decide) (by decide)), RLo_e h.2.2.2.2 ?_ ?_ (nn 22 (by decide) (by decide)) (aa 21 (by decide))⟩
    · rw [o 0 (by decide) (by decide)]; exact hC
    · rw [aa 0 (by decide), sA2s]; exact hM
    · rw [x6, sS_1]
    · exact sS_1
    · rw [up_n (by decide)]; exact c1
    · rw [sS_2, sA2s]
      refine RM_eq hM hI (fun k hk => ?_)
      rw [pk_cpy_in (by omega) (by omega), sS_2, sA2s]
      exact congrArg s (by omega)
    · rw [x6, sS_1n (by decide)]
    · rw [x6, sS_2]
theorem E60 {S : SS} {τ : HV} {T N : Nat} (h : LR S τ T) (hT : T < 2 ^ 20) (hN : 6000 < N) : rX (F_X10_restore S) (F_X11_restore N τ) T [(1, 1)] := by
  obtain ⟨sv, s1, s2, s3⟩ := h.2.1
  unfold F_X10_restore F_X11_restore
  rw [s1, s2, isb_b, if_pos rfl, i2b_b]
  cases sv with
  | false =>
    exact Or.inr ⟨(1, 1), S, 0, sS τ 6 1, List.mem_cons_self, rfl, rfl, thr_6, LR_6 h 1 hT⟩
  | true =>
    obtain ⟨B, bC, bM, bI⟩ := s3 rfl
    obtain ⟨c1, c2⟩ := C_copy (j := 0) (j2 := 2) (by decide) bC bI
    generalize F_X5_copyFrom 0 2 S = S2 at c1 c2
    have e11 : S2 11 = S 11 := c2 11 (by decide)
    obtain ⟨L, ⟨h8, x, hx, q1, q2, q3⟩, _, _⟩ := RLh_get h
    unfold F_X6_forget
    rw [if_neg (by decide), lt_d, lt_d, lt_d, pas_t, lt2_d, if_pos rfl, L0, M_copies (by decide) (by decide) (by decide) (by omega), ob1_s, lt_d, if_pos (by decide)]
    have bM6 : τ.2 1 6 = nI (Hn B 6) := bM.1 6 (by decide)
    have e6 : ag (sS (sA (sS τ 6 (nI 0)) 0 (va_cpy ((sS τ 6 (nI 0)).2 1) ((sS τ 6 (nI 0)).2 0) 0 0 760)) 5 (nI 0)) 0 6 = nI (Hn B 6) := by
      rw [L6, Z_ag (by decide), sS_2, sA2s, pk_cpy_in (by decide) (by decide)]
      exact bM6
    have o : ∀ j, j ≠ 0 → j ≠ 11 → up S2 11 (up (S2 11) 7 (sS (S2 11 7) 2 (nI 0))) j = S j := fun j h1 h2 => by rw [up_n h2, c2 j h1]
    have o6 : ∀ p, p ≠ 7 → up S2 11 (up (S2 11) 7 (sS (S2 11 7) 2 (nI 0))) 11 p = S 11 p := fun p hp => by rw [up_s, up_n hp, e11]
    have x7 : up S2 11 (up (S2 11) 7 (sS (S2 11 7) 2 (nI 0))) 11 7 = sS (S 11 7) 2 (nI 0) := by rw [up_s, up_s, e11]
    have nn : ∀ i, i ≠ 6 → i ≠ 5 → (sS (sA (sS τ 6 (nI 0)) 0 (va_cpy ((sS τ 6 (nI 0)).2 1) ((sS τ 6 (nI 0)).2 0) 0 0 760)) 5 (nI 0)).1 i = τ.1 i := fun i h1 h2 => by
      rw [sS_1n h2, sA_1, sS_1n h1]
    have aa : ∀ a, a ≠ 0 → (sS (sA (sS τ 6 (nI 0)) 0 (va_cpy ((sS τ 6 (nI 0)).2 1) ((sS τ 6 (nI 0)).2 0) 0 0 760)) 5 (nI 0)).2 a = τ.2 a := fun a ha => by
      rw [sS_2, sA_2n ha, sS_2]
    refine Or.inl ⟨nI (Hn B 6), up S2 11 (up (S2 11) 7 (sS (S2 11 7) 2 (nI 0))), _, ?_, by rw [e6], ?_, ⟨B, ?_, ?_, bI⟩, RLs_e h.2.1 (Nat.le_refl _) hT (by rw [o6 6 (by decide)]) (o 2 (by decide) (by decide)) (nn 7 (by decide) (by decide)) (aa 1 (by decide)), ⟨[], ⟨Nat.zero_le _, x, hx, ?_, ?_, fun i hi => absurd hi (Nat.not_lt_zero i)⟩, ⟨sS_1, fun i hi => absurd hi (Nat.not_lt_zero i)⟩, fun B hB => absurd hB List.not_mem_nil⟩, RLt_e h.2.2.2.1 (o6 4 (by decide)) (nn 11 (by decide) (by decide)) (aa 10 (by decide)) (nn 17 (by decide) (by decide)) (nn 18 (by decide) (by decide)), RLo_e h.2.2.2.2 (by rw [o6 6 (by decide)]) (by rw [o6 6 (by decide)]) (nn 22 (by decide) (by decide)) (aa 21 (by decide))⟩
    · rw [up_n (by decide), c1.1.1.1 6 (by decide)]
    · show (sS (sA (sS τ 6 (nI 0)) 0 _) 5 (nI 0)).1 6 = 0
      rw [sS_1n (by decide), sA_1, sS_1]
      rfl
    · rw [up_n (by decide)]; exact c1
    · rw [sS_2, sA2s]
      refine RM_eq bM bI (fun k hk => ?_)
      rw [pk_cpy_in (by omega) (by omega), sS_2]
      exact congrArg (τ.2 1) (by omega)
    · rw [x7, sS_1n (by decide)]; exact q1
    · rw [x7, sS_1]; rfl
theorem E61 {S : SS} {τ : HV} {T N : Nat} (h : LR S τ T) (hT : T < 2 ^ 20) (hN : 6000 < N) : ∃ v S' τ', F_X10_formatHedge N S = some (v, S') ∧ F_X11_formatHedge N τ = some (v, τ') ∧ LR S' τ' T := by
  obtain ⟨A, t, s, rfl, hC, hM, hI⟩ := LR_get h
  have bI := hI
  obtain ⟨hT, ⟨⟨b0, b0'⟩, ⟨b1, b1'⟩, b2, ⟨b3, b3'⟩, ⟨b4, b4'⟩, ⟨b5, b5'⟩, b6, b7⟩, hRw, hNs, hQu, hPr, hVm⟩ := id hI
  have n0 : s 0 = nI (Hn A 0) := hM.1 0 (by decide)
  have keyC := lpN_up (f := fun z => st_X10_formatHedge_2 N z.1 z.2) (fun i (x : Int32 × SS) => x.1 = nI i ∧ (∀ j, j ≠ 11 → x.2 j = S j) ∧ (∀ p, p ≠ 6 → x.2 11 p = S 11 p) ∧ (x.2 11 6).1 = (S 11 6).1 ∧ ∀ k, k < i → (x.2 11 6).2 0 k = nI (sgN (Hr A) k)) (fun r => ∃ S', r = (nI (Hn A 0), S') ∧ (∀ j, j ≠ 11 → S' j = S j) ∧ (∀ p, p ≠ 6 → S' 11 p = S 11 p) ∧ (S' 11 6).1 3 = (S 11 6).1 3 ∧ (S' 11 6).1 8 = nI (Hn A 0) ∧ ∀ k, k < Hn A 0 → (S' 11 6).2 0 k = nI (sgN (Hr A) k)) (n := Hn A 0) (N := N) (x0 := (0, S)) (by omega) ⟨rfl, fun _ _ => rfl, fun _ _ => rfl, rfl, fun k hk => absurd hk (Nat.not_lt_zero k)⟩ (fun i x hi hP => ?_) (fun x hP => ?_)
  · have keyM := lpN_up (f := fun z => st_X11_formatHedge_17 N z.1 z.2) (fun i (x : Int32 × HV) => ∃ r, x = (nI i, sA (sA (sS (sS t 6 0) 22 (nI (Hn A 0))) 21 r) 0 s) ∧ ∀ k, k < i → r k = nI (sgN (Hr A) k)) (fun y => ∃ r, y = (nI (Hn A 0), sA (sA (sS (sS t 6 0) 22 (nI (Hn A 0))) 21 r) 0 s) ∧ ∀ k, k < Hn A 0 → r k = nI (sgN (Hr A) k)) (n := Hn A 0) (N := N) (x0 := (0, sA (sS (sS t 6 0) 22 (nI (Hn A 0))) 0 s)) (by omega) ⟨t.2 21, ?_, fun k hk => absurd hk (Nat.not_lt_zero k)⟩ (fun i x hi hP => ?_) (fun x hP => ?_)
    · obtain ⟨y, e1, S', rfl, o1, o2, o3, o4, o5⟩ := keyC
      obtain ⟨y2, e2, r, rfl, k2⟩ := keyM
      have hG : F_X11_formatHedge N (sA t 0 s) = some (nI (Hn A 0), sA (sA (sS (sS t 6 0) 22 (nI (Hn A 0))) 21 r) 0 s) := by
        unfold F_X11_formatHedge
        rw [lt_d, if_pos (by decide), sS_sA, L0, Z_ag0 (by decide), n0, lt_d, sS_sA]
        exact e2
      refine ⟨nI (Hn A 0), S', _, e1, hG, ⟨A, ?_, ?_, bI⟩, RLs_e h.2.1 (Nat.le_refl _) hT o3 (o1 2 (by decide)) ?_ ?_, RLh_e h.2.2.1 (Nat.le_refl _) hT (o2 7 (by decide)) (fun j h1 h2 => o1 j (by omega)) ?_ ?_, RLt_e h.2.2.2.1 (o2 4 (by decide)) ?_ ?_ ?_ ?_, ⟨Hn A 0, b0', o4, ?_, fun k hk => ?_⟩⟩
      · rw [o1 0 (by decide)]; exact hC
      · rw [sA2s]; exact hM
      · show (sS (sS t 6 0) 22 (nI (Hn A 0))).1 7 = t.1 7
        rw [sS_1n (by decide), sS_1n (by decide)]
      · rw [sA_2n (by decide), sA_2n (by decide), sA_2n (by decide)]; rfl
      · show (sS (sS t 6 0) 22 (nI (Hn A 0))).1 5 = t.1 5
        rw [sS_1n (by decide), sS_1n (by decide)]
      · rw [sA_2n (by decide), sA_2n (by decide), sA_2n (by decide)]; rfl
      · show (sS (sS t 6 0) 22 (nI (Hn A 0))).1 11 = t.1 11
        rw [sS_1n (by decide), sS_1n (by decide)]
      · rw [sA_2n (by decide), sA_2n (by decide), sA_2n (by decide)]; rfl
      · show (sS (sS t 6 0) 22 (nI (Hn A 0))).1 17 = t.1 17
        rw [sS_1n (by decide), sS_1n (by decide)]
      · show (sS (sS t 6 0) 22 (nI (Hn A 0))).1 18 = t.1 18
        rw [sS_1n (by decide), sS_1n (by decide)]
      · exact (sS_1 : (sS (sS t 6 0) 22 (nI (Hn A 0))).1 22 = nI (Hn A 0))
      · rw [sA_2n (by decide), sA2s, o5 k hk, k2 k hk]
    · rw [show sA (sS (sS t 6 0) 22 (nI (Hn A 0))) 21 (t.2 21) = sS (sS t 6 0) 22 (nI (Hn A 0)) from sA_id rfl]
      rfl
    · obtain ⟨r, rfl, hr⟩ := hP
      refine ⟨(nI (i + 1), sA (sA (sS (sS t 6 0) 22 (nI (Hn A 0))) 21 (upd r i (nI (sgN (Hr A) i)))) 0 s), ?_, upd r i (nI (sgN (Hr A) i)), rfl, fun k hk => ?_⟩
      · show st_X11_formatHedge_17 N (nI i) (sA (sA (sS (sS t 6 0) 22 (nI (Hn A 0))) 21 r) 0 s) = _
        unfold st_X11_formatHedge_17
        rw [if_pos (by decide), L0, Z_ag0 (by decide), n0, if_neg (by rw [Z_le (by omega) (by omega)]; omega), M_mark hM bI hi (by omega), ob1_s, if_pos (by rw [Z_vpb (by omega)]; omega), Z_aw (by omega), lt_d, sA_2n (by decide), sA2s, L1, Z_add, sA_co (by decide), sAA]
      · by_cases e : k = i
        · rw [e, pk_us]
        · rw [pk_un e]; exact hr k (by omega)
    · obtain ⟨r, rfl, hr⟩ := hP
      refine ⟨_, ?_, r, rfl, hr⟩
      show st_X11_formatHedge_17 N (nI (Hn A 0)) (sA (sA (sS (sS t 6 0) 22 (nI (Hn A 0))) 21 r) 0 s) = _
      unfold st_X11_formatHedge_17
      rw [if_pos (by decide), L0, Z_ag0 (by decide), n0, if_pos (by rw [Z_le (by omega) (by omega)]; omega)]
      rw [show (sA (sA (sS (sS t 6 (nI 0)) 22 (nI (Hn A 0))) 21 r) 0 s).1 22 = nI (Hn A 0) by rw [sA_1, sA_1, sS_1]]
  · obtain ⟨x1, x2⟩ := x
    obtain ⟨q1, o1, o2, o3, o4⟩ := hP
    dsimp only at q1 o1 o2 o3 o4
    cases q1
    have hC0 : RC A (x2 0) := by rw [o1 0 (by decide)]; exact hC
    refine ⟨(nI (i + 1), up x2 11 (up (x2 11) 6 (sA (x2 11 6) 0 (rset 40 ((x2 11 6).2 0) (nI i) (nI (sgN (Hr A) i)))))), ?_, rfl, fun j hj => ?_, fun p hp => ?_, ?_, fun k hk => ?_⟩
    · show st_X10_formatHedge_2 N (nI i) x2 = _
      unfold st_X10_formatHedge_2
      rw [hC0.1.1.1 0 (by decide), if_neg (by rw [Z_le (by omega) (by omega)]; omega), C_sign hC0.1.1 bI (by omega), lt_d, L1, Z_add]
    · dsimp only
      rw [up_n hj]; exact o1 j hj
    · dsimp only
      rw [up_s, up_n hp]; exact o2 p hp
    · dsimp only
      rw [up_s, up_s, sA_1]; exact o3
    · dsimp only
      rw [up_s, up_s, sA2s, Z_rset (by omega) (by decide), if_pos (by omega)]
      by_cases e : k = i
      · rw [e, pk_us]
      · rw [pk_un e]; exact o4 k (by omega)
  · obtain ⟨x1, x2⟩ := x
    obtain ⟨q1, o1, o2, o3, o4⟩ := hP
    dsimp only at q1 o1 o2 o3 o4
    cases q1
    have hC0 : RC A (x2 0) := by rw [o1 0 (by decide)]; exact hC
    refine ⟨(nI (Hn A 0), up x2 11 (up (x2 11) 6 (sS (x2 11 6) 8 (nI (Hn A 0))))), ?_, _, rfl, fun j hj => ?_, fun p hp => ?_, ?_, ?_, fun k hk => ?_⟩
    · show st_X10_formatHedge_2 N (nI (Hn A 0)) x2 = _
      unfold st_X10_formatHedge_2
      rw [hC0.1.1.1 0 (by decide), if_pos (by rw [Z_le (by omega) (by omega)]; omega), lt_d, up_s, up_s, sS_1]
    · rw [up_n hj]; exact o1 j hj
    · rw [up_s, up_n hp]; exact o2 p hp
    · rw [up_s, up_s, sS_1n (by decide), o3]
    · rw [up_s, up_s, sS_1]
    · rw [up_s, up_s, sS_2]; exact o4 k hk
theorem E62 {S : SS} {τ : HV} {T : Nat} (h : LR S τ T) (p : Int32) : ∃ v, F_X10_outputByte p S = v ∧ F_X11_outputByte p τ = some (v, sS τ 6 0) := by
  obtain ⟨n, hn, q1, q2, q3⟩ := h.2.2.2.2
  refine ⟨_, rfl, ?_⟩
  unfold F_X10_outputByte F_X11_outputByte
  have e22 : (sS τ 6 0).1 22 = nI n := by rw [sS_1n (by decide)]; exact q2
  rw [lt_d, e22, q1]
  rcases in_c p (n := n) (by omega) with ⟨e3, c | c⟩ | ⟨m, hm, rfl, e3⟩
  · rw [e3, if_neg Bool.false_ne_true, if_pos c]
  · rw [e3, if_neg Bool.false_ne_true, if_pos c]
    split <;> rfl
  · rw [e3, if_pos rfl, if_pos (by rw [Z_vpb (by omega)]; omega), Z_ag (by omega), if_neg (nI_pos (by omega)), if_neg (by rw [Z_le (by omega) (by omega)]; omega), Z_rget (by omega) (by decide), if_pos (by omega), q3 m hm, sS_2]
