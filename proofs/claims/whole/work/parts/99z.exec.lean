/-! ===== the commands carried out ===== -/
theorem X_loop {B : Nat → Nat} {n N : Nat} {L : List Cmd} (h30 : L.length ≤ 30) (hN : 900 < N) : ∀ (m i T : Nat) (A : AS) (S : SS) (t : HV) (s : Nat → Int32), i + m = L.length → (∀ j, j < L.length → kE B n (L.getD j C0) j S t) → (S 11 5).1 4 = nI L.length → t.1 20 = nI L.length → CB B n (S 11 4) → RC A (S 0) → RM A s → Inv A T → T + 60 * m < 2 ^ 20 → ∃ (d : Int32) (S' : SS) (A' : AS) (t' : HV) (s' : Nat → Int32), (∀ M, m < M → lpN M (fun z => st_X10_executeCommands_29 N true z.1 z.2) (nI i, S) = some (.inl (d, sT S' (sS (S' 11 4) 1 0)))) ∧ (∀ M, m < M → lpN M (fun z => st_X11_executeCommands_54 N z.1 z.2) (nI i, sA t 0 s) = some (d, sA t' 0 s')) ∧ RC A' (S' 0) ∧ RM A' s' ∧ Inv A' (T + 60 * m) ∧ (∀ j, j ≠ 0 → S' j = S j) ∧ (∀ j, j ≠ 8 → t'.1 j = t.1 j) ∧ ∀ a, a ≠ 0 → a ≠ 9 → t'.2 a = t.2 a := by
  intro m
  induction m with
  | zero =>
    intro i T A S t s hi hK h4 h20 hCB hC hM hI hT
    have c1 : (fun z : Int32 × SS => st_X10_executeCommands_29 N true z.1 z.2) (nI i, S) = some (.inr (.inl (nI i, sT S (sS (S 11 4) 1 0)))) := by
      show st_X10_executeCommands_29 N true (nI i) S = _
      unfold st_X10_executeCommands_29
      rw [h4, if_pos (by rw [Z_le (by omega) (by omega)]; omega), lt_d, if_pos rfl]
      rfl
    have m1 : (fun z : Int32 × HV => st_X11_executeCommands_54 N z.1 z.2) (nI i, sA t 0 s) = some (.inr (nI i, sA t 0 s)) := by
      show st_X11_executeCommands_54 N (nI i) (sA t 0 s) = _
      unfold st_X11_executeCommands_54
      rw [show (sA t 0 s).1 20 = nI L.length from h20, if_pos (by rw [Z_le (by omega) (by omega)]; omega)]
    refine ⟨nI i, S, A, t, s, fun M hM => ?_, fun M hM => ?_, hC, hM, hI, fun _ _ => rfl, fun _ _ => rfl, fun _ _ _ => rfl⟩
    · obtain ⟨M', rfl⟩ : ∃ k, M = k + 1 := ⟨M - 1, by omega⟩
      exact lpN_r c1
    · obtain ⟨M', rfl⟩ : ∃ k, M = k + 1 := ⟨M - 1, by omega⟩
      exact lpN_r m1
  | succ m ih =>
    intro i T A S t s hi hK h4 h20 hCB hC hM hI hT
    obtain ⟨v, S1, A1, t1, s1, e1, e2, r1, r2, r3, r4, r5, r6⟩ := D_one (hK i (by omega)) (by omega) hCB hC hM hI (by omega) hN
    have e20 : ((S 11 5).1 4 ≤ nI i) = False := by
      rw [h4, Z_le (by omega) (by omega)]
      exact propext ⟨fun q => by omega, fun q => q.elim⟩
    have e21 : ((sA t 0 s).1 20 ≤ nI i) = False := by
      rw [show (sA t 0 s).1 20 = nI L.length from h20, Z_le (by omega) (by omega)]
      exact propext ⟨fun q => by omega, fun q => q.elim⟩
    have f11 : S1 11 = S 11 := r4 11 (by decide)
    cases v with
    | true =>
      have c1 : (fun z : Int32 × SS => st_X10_executeCommands_29 N true z.1 z.2) (nI i, S) = some (.inl (nI (i + 1), S1)) := by
        show st_X10_executeCommands_29 N true (nI i) S = _
        unfold st_X10_executeCommands_29
        rw [if_neg (by rw [e20]; exact not_false), e1, ob_s, if_pos rfl, L1, Z_add]
      have m1 : (fun z : Int32 × HV => st_X11_executeCommands_54 N z.1 z.2) (nI i, sA t 0 s) = some (.inl (nI (i + 1), sA t1 0 s1)) := by
        show st_X11_executeCommands_54 N (nI i) (sA t 0 s) = _
        unfold st_X11_executeCommands_54
        rw [if_neg (by rw [e21]; exact not_false), L16, Z_mul, e2, ob_s, if_pos rfl, L1, Z_add]
      have k19 : t1.2 19 = t.2 19 := by rw [r6 19 (by decide), sA_2n (by decide)]
      obtain ⟨d, S', A', t', s', x1, x2, x3, x4, x5, x6, x7, x8⟩ := ih (i + 1) (T + 60) A1 S1 t1 s1 (by omega) (fun j hj => kE_e (hK j hj) (fun r => by rw [f11]) (fun x _ _ => by rw [k19])) (by rw [f11]; exact h4) ((r5 20 (by decide)).trans h20) (by rw [f11]; exact hCB) r1 r2 r3 (by omega)
      refine ⟨d, S', A', t', s', fun M hM => ?_, fun M hM => ?_, x3, x4, Inv_up x5 (by omega) hT, fun j hj => (x6 j hj).trans (r4 j hj), fun j hj => (x7 j hj).trans (r5 j hj), fun a h0 h9 => (x8 a h0 h9).trans ((r6 a h0).trans (sA_2n h9))⟩
      · obtain ⟨M', rfl⟩ : ∃ k, M = k + 1 := ⟨M - 1, by omega⟩
        exact (lpN_l c1).trans (x1 M' (by omega))
      · obtain ⟨M', rfl⟩ : ∃ k, M = k + 1 := ⟨M - 1, by omega⟩
        exact (lpN_l m1).trans (x2 M' (by omega))
    | false =>
      have c1 : (fun z : Int32 × SS => st_X10_executeCommands_29 N true z.1 z.2) (nI i, S) = some (.inr (.inl (nI i, sT S1 (sS (S1 11 4) 1 0)))) := by
        show st_X10_executeCommands_29 N true (nI i) S = _
        unfold st_X10_executeCommands_29
        rw [if_neg (by rw [e20]; exact not_false), e1, ob_s, if_neg Bool.false_ne_true, lt_d, if_pos rfl]
        rfl
      have m1 : (fun z : Int32 × HV => st_X11_executeCommands_54 N z.1 z.2) (nI i, sA t 0 s) = some (.inr (nI i, sA t1 0 s1)) := by
        show st_X11_executeCommands_54 N (nI i) (sA t 0 s) = _
        unfold st_X11_executeCommands_54
        rw [if_neg (by rw [e21]; exact not_false), L16, Z_mul, e2, ob_s, if_neg Bool.false_ne_true]
      refine ⟨nI i, S1, A1, t1, s1, fun M hM => ?_, fun M hM => ?_, r1, r2, Inv_up r3 (by omega) hT, r4, fun j hj => r5 j hj, fun a h0 h9 => (r6 a h0).trans (sA_2n h9)⟩
      · obtain ⟨M', rfl⟩ : ∃ k, M = k + 1 := ⟨M - 1, by omega⟩
        exact lpN_r c1
      · obtain ⟨M', rfl⟩ : ∃ k, M = k + 1 := ⟨M - 1, by omega⟩
        exact lpN_r m1
/-- how the other machine's reading ends -/
def mxE (N : Nat) (t : HV) : Option (HV ⊕ (Int32 × HV)) := (lt2 (F_X11_endsText t) fun v4 t5 => (lt2 (F_X11_passes v4 t5) fun v6 t7 => (if v6 = true then (ob1 (F_X11_keeps N 0 t7) fun t9 => (ob1 (lpN N (fun z => st_X11_executeCommands_54 N z.1 z.2) (0, t9)) fun q9 => some (.inr q9))) else some (.inr (0, t7)))))
theorem mx_9 {N : Nat} {t : HV} : st_X11_executeCommands_9 N t = (if (t.1 15) = 0 then (ob (F_X11_next N t) fun v12 t13 => (if v12 = (-1) then mxE N t13 else (ob1 (F_X11_readsOne N t13) fun t21 => some (.inl t21)))) else mxE N t) := rfl
theorem mx_run {N : Nat} {t t' : HV} {r : Int32 × HV} {k : Nat} (h : ∀ M, lpN (k + M) (fun z => st_X11_executeCommands_9 N z) t = lpN M (fun z => st_X11_executeCommands_9 N z) t') (he : st_X11_executeCommands_9 N t' = some (.inr r)) (hk : k < N) : lpN N (fun z => st_X11_executeCommands_9 N z) t = some r := by
  obtain ⟨M, hM⟩ : ∃ M, N = k + (M + 1) := ⟨N - k - 1, by omega⟩
  have h2 := h (M + 1)
  have he2 : (fun z => st_X11_executeCommands_9 N z) t' = some (.inr r) := he
  generalize (fun z => st_X11_executeCommands_9 N z) = F at h2 he2 ⊢
  rw [hM, h2, lpN_r he2]
theorem E3 {S : SS} {τ : HV} {T N : Nat} (h : LR S τ T) (hT : T + 1800 < 2 ^ 20) (hN : 6000 < N) : rX (F_X10_executeCommands N S) (F_X11_executeCommands N τ) (T + 1800) [(2, 1)] := by
  obtain ⟨n, B, hCB, hMB, q4, q5⟩ := RLt_B h.2.2.2.1
  obtain ⟨A, ⟨hC, hM, hI⟩⟩ := h.1
  have hn := hCB.1
  obtain ⟨t0, ht0⟩ : ∃ t0, t0 = sS (F_X11_startsText τ) 20 0 := ⟨_, rfl⟩
  obtain ⟨S4, hS4⟩ : ∃ S4 : SS, S4 = up (sT S (F_X9_startReading (S 11 4))) 11 (up (sT S (F_X9_startReading (S 11 4)) 11) 5 (sS (sT S (F_X9_startReading (S 11 4)) 11 5) 4 0)) := ⟨_, rfl⟩
  have hsT : F_X11_startsText τ = sS (sS (sS (sS τ 12 0) 13 0) 15 0) 16 (-1) := rfl
  have hsR : F_X9_startReading (S 11 4) = sS (sS (sS (S 11 4) 2 0) 7 0) 8 (-1) := rfl
  have z1 : ∀ i, (i < 12 ∨ 17 ≤ i) → i ≠ 20 → t0.1 i = τ.1 i := fun i hi h2 => by rw [ht0, sS_1n h2, hsT, sS_1n (by omega), sS_1n (by omega), sS_1n (by omega), sS_1n (by omega)]
  have z2 : t0.2 = τ.2 := by rw [ht0, hsT]; rfl
  have y4 : S4 11 4 = F_X9_startReading (S 11 4) := by rw [hS4, up_s, up_n (by decide), sT_4]
  have y5 : S4 11 5 = sS (S 11 5) 4 0 := by rw [hS4, up_s, up_s, sT_q (by decide)]
  have yx : xS S S4 := ⟨fun j hj => by rw [hS4, up_n hj, sT_o hj], fun q h4 h5 => by rw [hS4, up_s, up_n h5, sT_q h4]⟩
  have hKL : KL B n [] S t0 S4 t0 := ⟨Nat.zero_le _, by rw [y5, sS_1]; rfl, by rw [ht0, sS_1]; rfl, fun i hi => absurd hi (Nat.not_lt_zero i), yx, xT_r⟩
  have hTQ : TQ B n 0 (S4 11 4) t0 := by
    rw [y4, hsR]
    refine ⟨⟨Nat.zero_le _, ⟨hn, fun k hk => ⟨(hCB.2.1 k hk).1, (hCB.2.1 k hk).2⟩, ?_⟩, ?_, ?_, ?_⟩, ⟨MB_e hMB (by rw [z2]) (z1 11 (by omega) (by decide)), ?_, ?_, ?_⟩⟩
    · rw [sS_1n (by decide), sS_1n (by decide), sS_1n (by decide)]; exact hCB.2.2
    · rw [sS_1n (by decide), sS_1n (by decide), sS_1]; rfl
    · rw [sS_1n (by decide), sS_1]
    · rw [sS_1]
    · rw [ht0, hsT, sS_1n (by decide), sS_1n (by decide), sS_1n (by decide), sS_1n (by decide), sS_1]; rfl
    · rw [ht0, hsT, sS_1n (by decide), sS_1n (by decide), sS_1]
    · rw [ht0, hsT, sS_1n (by decide), sS_1]
  have hF : F_X2_read N S = lpN N (fun z => st_X2_read_11 N z.1 z.2) (0, S4) := by rw [hS4]; rfl
  have hG : F_X11_executeCommands N τ = lpN N (fun z => st_X11_executeCommands_9 N z) t0 := by rw [ht0]; rfl
  -- to the end of the text
  have hend : ∃ b S6 t6, F_X2_read N S = some (b, S6) ∧ (∀ r, mxE N t6 = some (.inr r) → F_X11_executeCommands N τ = some r) ∧ ((b = true ∧ ∃ L, KL B n L S t0 S6 t6 ∧ CB B n (S6 11 4) ∧ (S6 11 4).1 7 = 0 ∧ (S6 11 4).1 8 = -1 ∧ t6.1 15 = 0 ∧ t6.1 16 = -1) ∨ (b = false ∧ KE S t0 S6 t6)) := by
    obtain ⟨b, S6, t6, k, hk, w1, w2, w3⟩ := K_loop (N := N) (S0 := S) (t0 := t0) (f := fun z => st_X11_executeCommands_9 N z) (by omega) (fun p x x' m1 hp m2 m3 hlt e => by
      show st_X11_executeCommands_9 N x = _
      rw [mx_9, if_pos m3, M_next m1 hp m2 (by omega), ob_s, if_neg (by
        have : bA B n (tS B n p) = nI (B (tS B n p)) := if_neg (by omega)
        rw [this, Z_m1 (by have := (m1.2.1 _ hlt).1; omega)]
        exact not_false), e, ob1_s]) n 0 [] S4 t0 (Nat.sub_le _ _) hKL hTQ
    have w1' := w1 N (by omega)
    rw [show (nI ([] : List Cmd).length, S4) = ((0 : Int32), S4) from rfl] at w1'
    rcases w3 with ⟨rfl, p2, L, d1, d2, d3, ⟨d4, d5, d6⟩, ⟨d7, d8, d9, d10⟩⟩ | ⟨rfl, w3⟩
    · have hnx : F_X11_next N t6 = some (-1, nxT B n p2 t6) := by
        rw [M_next d7 d1 d8 (by omega)]
        have : bA B n (tS B n p2) = -1 := if_pos d2
        rw [this]
      refine ⟨true, S6, nxT B n p2 t6, hF.trans w1', fun r hr => ?_, Or.inl ⟨rfl, L, KL_e d3 rfl (nx_o (by omega)) (by rw [nx_f.1]) d3.2.2.2.2.1 (xT_f d3.2.2.2.2.2 nx_f), d4, d5, d6, by rw [nx_o (by omega)]; exact d9, by rw [nx_o (by omega)]; exact d10⟩⟩
      rw [hG]
      exact mx_run w2 (by rw [mx_9, if_pos d9, hnx, ob_s, if_pos rfl, hr]) (by omega)
    · refine ⟨false, S6, t6, hF.trans w1', fun r hr => ?_, Or.inr ⟨rfl, w3⟩⟩
      rw [hG]
      exact mx_run w2 (by rw [mx_9, if_neg (ER_n w3.1), hr]) (by omega)
  obtain ⟨b, S6, t6, e1, e2, e3⟩ := hend
  unfold F_X10_executeCommands
  rw [e1, ob_s]
  rcases e3 with ⟨rfl, L, hL, c4, c7, c8, m15, m16'⟩ | ⟨rfl, hER, hxS, hxU⟩
  · obtain ⟨l30, lc, l20, lk, hxS, hxU⟩ := hL
    obtain ⟨L5, hCH, hMH, hL5⟩ := RLh_get h
    have hC6 : RC A (S6 0) := by rw [hxS.1 0 (by decide)]; exact hC
    have hCH6 : CH L5 S6 := CH_e hCH (hxS.2 7 (by decide) (by decide)) (fun j h1 h2 => hxS.1 j (by omega))
    obtain ⟨S5, r1, r2, r3, r4⟩ := C_remember hC6 hI hCH6
    obtain ⟨tB, htB⟩ : ∃ tB, tB = sS (sS (sS (sS t6 11 0) 17 (t6.1 15)) 18 (t6.1 16)) 6 0 := ⟨_, rfl⟩
    have g1 : ∀ i, i ≠ 6 → i ≠ 11 → i ≠ 17 → i ≠ 18 → tB.1 i = t6.1 i := fun i a b c d => by rw [htB, sS_1n a, sS_1n d, sS_1n c, sS_1n b]
    have g2 : tB.2 = t6.2 := by rw [htB]; rfl
    have a6 : ∀ a, a ≠ 9 → a ≠ 19 → tB.2 a = τ.2 a := fun a h9 h19 => by rw [g2, hxU.2 a h9 h19, z2]
    have n6 : ∀ i, i < 12 ∨ 17 ≤ i → i ≠ 20 → i ≠ 6 → i ≠ 11 → i ≠ 17 → i ≠ 18 → tB.1 i = τ.1 i := fun i hi h20 a b c d => by rw [g1 i a b c d, hxU.1 i hi h20, z1 i hi h20]
    have hMHB : MH L5 tB := MH_e hMH (n6 5 (by omega) (by decide) (by decide) (by decide) (by decide) (by decide)) (a6 4 (by decide) (by decide))
    have hMB0 : RM A (tB.2 0) := by rw [a6 0 (by decide) (by decide)]; exact hM
    obtain ⟨tC, k1, k2, k3, k4⟩ := M_keeps (a := 0) (Or.inl rfl) hMB0 hI hCH.1 hMHB hL5 hN
    have id5 : sA tC 0 (tC.2 0) = tC := sA_id rfl
    have hMC : RM A (tC.2 0) := by rw [k4 0 (by decide)]; exact hMB0
    have f5 : S5 11 5 = S6 11 5 := r4 5 (by decide)
    have k19 : tC.2 19 = t6.2 19 := by rw [k4 19 (by decide), g2]
    obtain ⟨d, S', A', t', s', x1, x2, x3, x4, x5, x6, x7, x8⟩ := X_loop (N := N) (B := B) (n := n) l30 (by omega) L.length 0 T A S5 tC (tC.2 0) (Nat.zero_add _) (fun j hj => kE_e (lk j hj) (fun r => by rw [f5]) (fun x _ _ => by rw [k19])) (by rw [f5]; exact lc) (by rw [k3 20 (by decide), g1 20 (by decide) (by decide) (by decide) (by decide)]; exact l20) (by rw [r4 4 (by decide)]; exact c4) (by rw [r3 0 (by decide)]; exact hC6) hMC hI (by omega)
    have x1' := x1 N (by omega)
    have x2' := x2 N (by omega)
    rw [show (nI 0 : Int32) = 0 from rfl] at x1' x2'
    rw [id5] at x2'
    have hmx : mxE N t6 = some (.inr (d, sA t' 0 s')) := by
      unfold mxE
      rw [m16, lt2_d, decide_eq_true m15, pas_t, lt2_d, if_pos rfl, ← htB, k1, ob1_s, x2', ob1_s]
    have hS'4 : S' 11 4 = S6 11 4 := by rw [x6 11 (by decide), r4 4 (by decide)]
    have hS'q : ∀ q, q ≠ 4 → q ≠ 5 → q ≠ 7 → S' 11 q = S 11 q := fun q h4 h5 h7 => by rw [x6 11 (by decide), r4 q h7, hxS.2 q h4 h5]
    have nF : ∀ i, i ≠ 5 → i ≠ 8 → i < 12 ∨ 17 ≤ i → i ≠ 20 → i ≠ 6 → i ≠ 11 → i ≠ 17 → i ≠ 18 → t'.1 i = τ.1 i := fun i h5 h8 hi h20 a b c d => by rw [x7 i h8, k3 i h5, n6 i hi h20 a b c d]
    have nB : ∀ i, i ≠ 5 → i ≠ 8 → t'.1 i = tB.1 i := fun i h5 h8 => by rw [x7 i h8, k3 i h5]
    have aF : ∀ a, a ≠ 0 → a ≠ 4 → a ≠ 9 → a ≠ 19 → t'.2 a = τ.2 a := fun a h0 h4 h9 h19 => by rw [x8 a h0 h9, k4 a h4, a6 a h9 h19]
    rw [if_pos rfl, r1, ob1_s, x1']
    refine Or.inl ⟨d, _, sA t' 0 s', rfl, e2 _ hmx, ?_, ⟨A', ?_, ?_, Inv_up x5 (by omega) hT⟩, RLs_e h.2.1 (by omega) hT ?_ ?_ ?_ ?_, ⟨psh L5 A, ?_, ?_, fun B hB => ?_⟩, ⟨0, Nat.zero_le _, ?_, ?_, fun k hk => absurd hk (Nat.not_lt_zero k), ?_, ?_⟩, RLo_e h.2.2.2.2 ?_ ?_ ?_ ?_⟩
    · show t'.1 6 = 0
      rw [nB 6 (by decide) (by decide), htB, sS_1]
    · rw [sT_o (by decide)]; exact x3
    · rw [sA2s]; exact x4
    · rw [sT_q (by decide), hS'q 6 (by decide) (by decide) (by decide)]
    · rw [sT_o (by decide), x6 2 (by decide), r3 2 (by decide), hxS.1 2 (by decide)]
    · exact nF 7 (by decide) (by decide) (by omega) (by decide) (by decide) (by decide) (by decide) (by decide)
    · rw [sA_2n (by decide)]; exact aF 1 (by decide) (by decide) (by decide) (by decide)
    · exact CH_e r2 (by rw [sT_q (by decide), x6 11 (by decide)]) (fun j h1 h2 => by rw [sT_o (by omega), x6 j (by omega)])
    · exact MH_e k2 (x7 5 (by decide)) (by rw [sA_2n (by decide), x8 4 (by decide) (by decide)])
    · rcases psh_mem hB with q | q
      · exact Inv_up (hL5 B q) (by omega) hT
      · rw [q]; exact Inv_up hI (by omega) hT
    · rw [sT_4, sS_1]; rfl
    · show t'.1 11 = _
      rw [nB 11 (by decide) (by decide), htB, sS_1n (by decide), sS_1n (by decide), sS_1n (by decide), sS_1]; rfl
    · show t'.1 17 = _
      rw [sT_4, sS_1n (by decide), hS'4, c7, nB 17 (by decide) (by decide), htB, sS_1n (by decide), sS_1n (by decide), sS_1, m15]
    · show t'.1 18 = _
      rw [sT_4, sS_1n (by decide), hS'4, c8, nB 18 (by decide) (by decide), htB, sS_1n (by decide), sS_1, m16']
    · rw [sT_q (by decide), hS'q 6 (by decide) (by decide) (by decide)]
    · rw [sT_q (by decide), hS'q 6 (by decide) (by decide) (by decide)]
    · exact nF 22 (by decide) (by decide) (by omega) (by decide) (by decide) (by decide) (by decide) (by decide)
    · rw [sA_2n (by decide)]; exact aF 21 (by decide) (by decide) (by decide) (by decide)
  · have hne := ER_n hER
    obtain ⟨c, q, c0, c5, ⟨k1, k2⟩, k3, k4⟩ := hER
    have hmx : mxE N t6 = some (.inr (0, sS (sS (sS (sS t6 11 0) 17 (t6.1 15)) 18 (t6.1 16)) 6 1)) := by
      unfold mxE
      rw [m16, lt2_d, decide_eq_false hne, pas_f, lt2_d, if_neg Bool.false_ne_true]
    have nF : ∀ i, i < 12 ∨ 17 ≤ i → i ≠ 20 → i ≠ 6 → i ≠ 11 → i ≠ 17 → i ≠ 18 → (sS (sS (sS (sS t6 11 0) 17 (t6.1 15)) 18 (t6.1 16)) 6 1).1 i = τ.1 i := fun i hi h20 a b c d => by rw [sS_1n a, sS_1n d, sS_1n c, sS_1n b, hxU.1 i hi h20, z1 i hi h20]
    have aF : ∀ a, a ≠ 9 → a ≠ 19 → (sS (sS (sS (sS t6 11 0) 17 (t6.1 15)) 18 (t6.1 16)) 6 1).2 a = τ.2 a := fun a h9 h19 => by rw [sS_2, sS_2, sS_2, sS_2, hxU.2 a h9 h19, z2]
    rw [if_neg Bool.false_ne_true, lt_d, if_neg Bool.false_ne_true, show up S6 11 (up (S6 11) 4 (sS (S6 11 4) 1 0)) = sT S6 (sS (S6 11 4) 1 0) from rfl]
    refine Or.inr ⟨(2, 1), _, 0, _, List.mem_cons_self, rfl, e2 _ hmx, sS_1, ⟨A, ?_, ?_, Inv_up hI (by omega) hT⟩, RLs_e h.2.1 (by omega) hT ?_ ?_ ?_ ?_, RLh_e h.2.2.1 (by omega) hT ?_ ?_ ?_ ?_, ⟨0, Nat.zero_le _, ?_, ?_, fun k hk => absurd hk (Nat.not_lt_zero k), ?_, ?_⟩, RLo_e h.2.2.2.2 ?_ ?_ ?_ ?_⟩
    · rw [sT_o (by decide), hxS.1 0 (by decide)]; exact hC
    · rw [aF 0 (by decide) (by decide)]; exact hM
    · rw [sT_q (by decide), hxS.2 6 (by decide) (by decide)]
    · rw [sT_o (by decide), hxS.1 2 (by decide)]
    · exact nF 7 (by omega) (by decide) (by decide) (by decide) (by decide) (by decide)
    · exact aF 1 (by decide) (by decide)
    · rw [sT_q (by decide), hxS.2 7 (by decide) (by decide)]
    · intro j h1 h2
      rw [sT_o (by omega), hxS.1 j (by omega)]
    · exact nF 5 (by omega) (by decide) (by decide) (by decide) (by decide) (by decide)
    · exact aF 4 (by decide) (by decide)
    · rw [sT_4, sS_1]; rfl
    · rw [sS_1n (by decide), sS_1n (by decide), sS_1n (by decide), sS_1]; rfl
    · rw [sS_1n (by decide), sS_1n (by decide), sS_1, k3, sT_4, sS_1n (by decide), k1]
    · rw [sS_1n (by decide), sS_1, k4, sT_4, sS_1n (by decide), k2]
    · rw [sT_q (by decide), hxS.2 6 (by decide) (by decide)]
    · rw [sT_q (by decide), hxS.2 6 (by decide) (by decide)]
    · exact nF 22 (by omega) (by decide) (by decide) (by decide) (by decide) (by decide)
    · exact aF 21 (by decide) (by decide)
