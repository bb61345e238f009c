/-! ===== the first state of both ===== -/
def tL : List Nat := [104, 101, 100, 103, 101, 32, 49, 54, 32, 52, 32, 50, 32, 53, 32, 51, 32, 52, 59, 116, 119, 105, 103, 32, 50, 32, 113, 32, 48, 32, 51, 59, 116, 119, 105, 103, 32, 57, 32, 114, 32, 49, 32, 54, 59, 110, 101, 115, 116, 32, 49, 48, 32, 53, 59, 109, 101, 115, 115, 97, 103, 101, 32, 48, 32, 104, 101, 108, 108, 111, 59, 109, 101, 115, 115, 97, 103, 101, 32, 49, 32, 121, 101, 115, 59, 109, 101, 115, 115, 97, 103, 101, 32, 48, 32, 110, 111, 59]
def bT (k : Nat) : Nat := tL.getD k 0
theorem tL_len : (sTx 27).length = 98 := by decide +kernel
theorem tL_ch : ∀ k, k < 98 → sCh 27 (nI k) = nI (bT k) ∧ bT k < 256 := by decide +kernel
def W1 : List Nat := [104, 101, 108, 108, 111]
def W2 : List Nat := [121, 101, 115]
def W3 : List Nat := [110, 111]
def AI1 : AS := layA 16 4 2 5 3 4
def AI2 : AS := opTw AI1 2 113 0 3
def AI3 : AS := opTw AI2 9 114 1 6
def AI4 : AS := opNst AI3 10 5
def AI5 : AS := opQue AI4 0 W1
def AI6 : AS := opQue AI5 1 W2
def AI7 : AS := opQue AI6 0 W3
theorem MI_run {t : HV} {N : Nat} (m1 : MB bT 98 t) (m2 : t.1 12 = nI 0) (m3 : t.1 15 = 0) (m4 : t.1 16 = -1) (hz : ∀ k, k < 760 → t.2 0 k = 0) (hN : 6000 < N) : ∃ t5 t', F_X11_hedgeLine N t = some t5 ∧ PM bT 98 98 AI7 t t' ∧ (∀ r, st_X11_load_43 N t' = some (.inr r) → lpN N (fun z => st_X11_load_43 N z) t5 = some r) ∧ Inv AI4 0 ∧ Inv AI5 0 ∧ Inv AI6 0 ∧ Inv AI7 0 ∧ Inv AI3 0 ∧ Inv AI2 0 ∧ Inv AI1 0 := by
  have hN9 : 900 < N := by omega
  obtain ⟨x0, g0, p0, i0⟩ := PM_hedge (T := 0) m1 m2 m3 m4 hz (by decide) (show isW bT 98 0 (sTx 28) = true by decide +kernel) (show tE bT 98 0 = 5 by decide +kernel) (show numR bT 98 4 40 5 = .inr (16, 8) by decide +kernel) (show numR bT 98 1 12 8 = .inr (4, 10) by decide +kernel) (show numR bT 98 0 9 10 = .inr (2, 12) by decide +kernel) (show numR bT 98 1 99 12 = .inr (5, 14) by decide +kernel) (show numR bT 98 1 30 14 = .inr (3, 16) by decide +kernel) (show numR bT 98 1 40 16 = .inr (4, 18) by decide +kernel) (show semR bT 98 18 = .inr 19 by decide +kernel) hN9
  obtain ⟨x1, g1, p1, i1⟩ := PM_stT (A := AI1) p0 i0 ⟨fun g hg => rfl, rfl⟩ (show isW bT 98 19 (sTx 29) = true by decide +kernel) (show tE bT 98 19 = 23 by decide +kernel) (show numR bT 98 0 (Hn AI1 0 - 1) 23 = .inr (2, 25) by decide +kernel) (show Hr AI1 2 2 = 0 by decide +kernel) (show letR bT 98 25 = .inr (113, 27) by decide +kernel) (show numR bT 98 0 1 27 = .inr (0, 29) by decide +kernel) (show numR bT 98 1 99 29 = .inr (3, 31) by decide +kernel) (show semR bT 98 31 = .inr 32 by decide +kernel) hN9
  obtain ⟨x2, g2, p2, i2⟩ := PM_stT (A := AI2) p1 i1 ⟨fun g hg => rfl, rfl⟩ (show isW bT 98 32 (sTx 29) = true by decide +kernel) (show tE bT 98 32 = 36 by decide +kernel) (show numR bT 98 0 (Hn AI2 0 - 1) 36 = .inr (9, 38) by decide +kernel) (show Hr AI2 2 9 = 0 by decide +kernel) (show letR bT 98 38 = .inr (114, 40) by decide +kernel) (show numR bT 98 0 1 40 = .inr (1, 42) by decide +kernel) (show numR bT 98 1 99 42 = .inr (6, 44) by decide +kernel) (show semR bT 98 44 = .inr 45 by decide +kernel) hN9
  obtain ⟨x3, g3, p3, i3⟩ := PM_stN (A := AI3) p2 i2 (show isW bT 98 45 (sTx 29) = false by decide +kernel) (show isW bT 98 45 (sTx 30) = true by decide +kernel) (show tE bT 98 45 = 49 by decide +kernel) (show numR bT 98 0 (Hn AI3 0 - 1) 49 = .inr (10, 52) by decide +kernel) (show Hr AI3 3 10 = 0 by decide +kernel) (show cnt (nstB (Hr AI3)) (Hn AI3 0) < 6 by decide +kernel) (show numR bT 98 1 30 52 = .inr (5, 54) by decide +kernel) (show semR bT 98 54 = .inr 55 by decide +kernel) hN9
  obtain ⟨x4, g4, p4, i4⟩ := PM_stM (A := AI4) (w := W1) p3 i3 (show isW bT 98 55 (sTx 29) = false by decide +kernel) (show isW bT 98 55 (sTx 30) = false by decide +kernel) (show isW bT 98 55 (sTx 31) = true by decide +kernel) (show tE bT 98 55 = 62 by decide +kernel) (show numR bT 98 0 1 62 = .inr (0, 64) by decide +kernel) (show (Hq AI4 0).length < 8 by decide +kernel) (show wrdR bT 98 64 = .inr (65, 70) by decide +kernel) (show wdL bT 65 (70 - 65) = W1 by decide +kernel) (show semR bT 98 70 = .inr 71 by decide +kernel) hN9
  obtain ⟨x5, g5, p5, i5⟩ := PM_stM (A := AI5) (w := W2) p4 i4 (show isW bT 98 71 (sTx 29) = false by decide +kernel) (show isW bT 98 71 (sTx 30) = false by decide +kernel) (show isW bT 98 71 (sTx 31) = true by decide +kernel) (show tE bT 98 71 = 78 by decide +kernel) (show numR bT 98 0 1 78 = .inr (1, 80) by decide +kernel) (show (Hq AI5 1).length < 8 by decide +kernel) (show wrdR bT 98 80 = .inr (81, 84) by decide +kernel) (show wdL bT 81 (84 - 81) = W2 by decide +kernel) (show semR bT 98 84 = .inr 85 by decide +kernel) hN9
  obtain ⟨x6, g6, p6, i6⟩ := PM_stM (A := AI6) (w := W3) p5 i5 (show isW bT 98 85 (sTx 29) = false by decide +kernel) (show isW bT 98 85 (sTx 30) = false by decide +kernel) (show isW bT 98 85 (sTx 31) = true by decide +kernel) (show tE bT 98 85 = 92 by decide +kernel) (show numR bT 98 0 1 92 = .inr (0, 94) by decide +kernel) (show (Hq AI6 0).length < 8 by decide +kernel) (show wrdR bT 98 94 = .inr (95, 97) by decide +kernel) (show wdL bT 95 (97 - 95) = W3 by decide +kernel) (show semR bT 98 97 = .inr 98 by decide +kernel) hN9
  refine ⟨x0, x6, g0, p6, fun r hr => ?_, i3, i4, i5, i6, i2, i1, i0⟩
  exact lp_6 (PM_go p0 (show tS bT 98 19 < 98 by decide +kernel) g1 hN9) (PM_go p1 (show tS bT 98 32 < 98 by decide +kernel) g2 hN9) (PM_go p2 (show tS bT 98 45 < 98 by decide +kernel) g3 hN9) (PM_go p3 (show tS bT 98 55 < 98 by decide +kernel) g4 hN9) (PM_go p4 (show tS bT 98 71 < 98 by decide +kernel) g5 hN9) (PM_go p5 (show tS bT 98 85 < 98 by decide +kernel) g6 hN9) hr (by omega)
theorem MI {t : HV} {s : Nat → Int32} {N : Nat} (hB : ∀ k, k < 98 → t.2 10 k = nI (bT k)) (h11 : t.1 11 = nI 98) (hN : 6000 < N) : ∃ τ, F_X11_load N (sA t 0 s) = some (nI 16, τ) ∧ RM (atA AI7) (τ.2 0) ∧ Inv AI7 0 ∧ τ.1 5 = 0 ∧ τ.1 6 = 0 ∧ τ.1 11 = 0 ∧ τ.1 17 = 0 ∧ τ.1 18 = -1 ∧ τ.1 7 = t.1 7 ∧ τ.1 22 = t.1 22 := by
  have hcl : F_X11_load N (sA t 0 s) = lpN N (fun z => st_X11_load_15 N z.1 z.2) (0, sA (sA t 2 (va_cpy s (t.2 2) 0 0 760)) 0 s) := by
    unfold F_X11_load
    rw [L0, M_copies (by decide) (by decide) (by decide) (by omega), ob1_s, sA2s, sA_2n (by decide), sA_co (by decide)]
  have hrun : ∀ r, st_X11_load_15 N (nI 760) (sA (sA t 2 (va_cpy s (t.2 2) 0 0 760)) 0 (zer s 0 760)) = some (.inr r) → F_X11_load N (sA t 0 s) = some r := fun r hr => by
    rw [hcl]
    have key := lpN_for (f := fun z => st_X11_load_15 N z.1 z.2) (x := fun i => (nI i, sA (sA t 2 (va_cpy s (t.2 2) 0 0 760)) 0 (zer s 0 i))) (r := r) (n := 760) (N := N) (by omega) (fun i hi => ?_) hr
    · simp only [zer_0] at key
      exact key
    · show st_X11_load_15 N (nI i) (sA _ 0 (zer s 0 i)) = _
      unfold st_X11_load_15
      rw [if_neg (by rw [L760, Z_le (by omega) (by omega)]; omega), if_pos (by rw [Z_vpb (by omega)]; omega), L0, Z_aw0 (by omega), lt_d, L1, Z_add]
      have := zer_s (s := s) (p := 0) (n := i)
      rw [Nat.zero_add] at this
      rw [this]
  have h4 : F_X11_startsText (sA (sA t 2 (va_cpy s (t.2 2) 0 0 760)) 0 (zer s 0 760)) = sS (sS (sS (sS (sA (sA t 2 (va_cpy s (t.2 2) 0 0 760)) 0 (zer s 0 760)) 12 0) 13 0) 15 0) 16 (-1) := rfl
  generalize ht4 : sS (sS (sS (sS (sA (sA t 2 (va_cpy s (t.2 2) 0 0 760)) 0 (zer s 0 760)) 12 0) 13 0) 15 0) 16 (-1) = t4 at h4
  have z1 : ∀ i, (i < 12 ∨ 17 ≤ i ∨ i = 14) → t4.1 i = t.1 i := fun i hi => by
    rw [← ht4, sS_1n (by omega), sS_1n (by omega), sS_1n (by omega), sS_1n (by omega)]
    rfl
  have z2 : ∀ a, a ≠ 0 → a ≠ 2 → t4.2 a = t.2 a := fun a a0 a2 => by
    rw [← ht4, sS_2, sS_2, sS_2, sS_2, sA_2n a0, sA_2n a2]
  have z0 : t4.2 0 = zer s 0 760 := by rw [← ht4, sS_2, sS_2, sS_2, sS_2, sA2s]
  have m1 : MB bT 98 t4 := ⟨by decide, fun k hk => ⟨(tL_ch k hk).2, by rw [z2 10 (by decide) (by decide)]; exact hB k hk⟩, by rw [z1 11 (by omega)]; exact h11⟩
  have m2 : t4.1 12 = nI 0 := by rw [← ht4, sS_1n (by decide), sS_1n (by decide), sS_1n (by decide), sS_1]; rfl
  have m3 : t4.1 15 = 0 := by rw [← ht4, sS_1n (by decide), sS_1]
  have m4 : t4.1 16 = -1 := by rw [← ht4, sS_1]
  obtain ⟨t5, t6, g0, p6, hlp, _, _, _, i7, _⟩ := MI_run (N := N) m1 m2 m3 m4 (fun k hk => by
    rw [z0]
    exact (if_pos (by omega) : zer s 0 760 k = nI 0)) hN
  obtain ⟨j1, j2, j3, j4, j5, j6, j7⟩ := p6
  have hnx : F_X11_next N t6 = some (-1, nxT bT 98 98 t6) := by
    rw [M_next j2 j1 j3 (by omega)]
    have : bA bT 98 (tS bT 98 98) = -1 := if_pos (show 98 ≤ tS bT 98 98 by decide +kernel)
    rw [this]
  have k15 : (nxT bT 98 98 t6).1 15 = 0 := by rw [nx_o (by omega)]; exact j4
  have k16 : (nxT bT 98 98 t6).1 16 = -1 := by rw [nx_o (by omega)]; exact j5
  have k2 : (nxT bT 98 98 t6).2 = t6.2 := rfl
  have kf : fm t4 (nxT bT 98 98 t6) := fm_t j7 (fr_fm nx_f)
  generalize nxT bT 98 98 t6 = t7 at hnx k15 k16 k2 kf
  have hRa := RM_at j6 i7
  rw [← k2] at j6 hRa
  have n1' : t7.2 0 1 = nI (Hn AI7 1) := j6.1 1 (by decide)
  have n0' : t7.2 0 0 = nI (Hn AI7 0) := j6.1 0 (by decide)
  have hml : mlE N t7 = some (nI (Hn AI7 0), sS (sA (sS (sS (sS (sS t7 11 0) 17 0) 18 (-1)) 6 0) 0 (upd (t7.2 0) 7 (nI (Hn AI7 1)))) 5 0) := by
    unfold mlE
    have ea1 : ∀ x : HV, x.2 = t7.2 → ag x 0 1 = nI (Hn AI7 1) := fun x hx => by rw [L1, Z_ag (by decide), hx, n1']
    have ea7 : ∀ (x : HV) (v : Int32), x.2 = t7.2 → aw x 0 7 v = sA x 0 (upd (t7.2 0) 7 v) := fun x v hx => by rw [L7, Z_aw (by decide), hx]
    have ea : ∀ x : HV, x.2 = t7.2 → ag (sS (sA x 0 (upd (t7.2 0) 7 (nI (Hn AI7 1)))) 5 0) 0 0 = nI (Hn AI7 0) := fun x hx => by
      rw [L0, Z_ag (by decide), sS_2, sA2s, pk_un (by decide), n0']
    rw [m16, lt2_d, decide_eq_true k15, pas_t, lt2_d, if_pos rfl, if_pos (by decide), if_pos (by decide), k15, k16, ea1 (sS (sS (sS (sS t7 11 0) 17 0) 18 (-1)) 6 0) rfl, ea7 (sS (sS (sS (sS t7 11 0) 17 0) 18 (-1)) 6 0) _ rfl, lt_d, lt_d, if_pos (by decide), ea (sS (sS (sS (sS t7 11 0) 17 0) 18 (-1)) 6 0) rfl]
  have nn : ∀ i, (i = 7 ∨ i = 22) → (sS (sA (sS (sS (sS (sS t7 11 0) 17 0) 18 (-1)) 6 0) 0 (upd (t7.2 0) 7 (nI (Hn AI7 1)))) 5 0).1 i = t.1 i := fun i hi => by
    rw [sS_1n (by omega), sA_1, sS_1n (by omega), sS_1n (by omega), sS_1n (by omega), sS_1n (by omega), kf.1 i (by omega), z1 i (by omega)]
  refine ⟨_, hrun _ ?_, ?_, i7, ?_, ?_, ?_, ?_, ?_, nn 7 (by omega), nn 22 (by omega)⟩
  · unfold st_X11_load_15
    rw [if_pos (by decide), h4, lt_d, g0, ob1_s, hlp _ (ml_43o j4 hnx k15 hml), ob1_s]
    rfl
  · rw [sS_2, sA2s]; exact hRa
  · rw [sS_1]
  · rw [sS_1n (by decide), sA_1, sS_1]
  · rw [sS_1n (by decide), sA_1, sS_1n (by decide), sS_1n (by decide), sS_1n (by decide), sS_1]
  · rw [sS_1n (by decide), sA_1, sS_1n (by decide), sS_1n (by decide), sS_1]
  · rw [sS_1n (by decide), sA_1, sS_1n (by decide), sS_1]
theorem OmT_o {Ω : OM} {p sx j : Nat} {h : Nat → HV} (h0 : j ≠ 0) (h2 : j ≠ 20) : (OmT Ω p sx h).1 j = Ω.1 j := by
  show up (up Ω.1 20 _) 0 h j = Ω.1 j
  rw [up_n h0, up_n h2]
theorem OmI_o {j : Nat} (h0 : j ≠ 0) (h2 : j ≠ 20) : OmI.1 j = Om0.1 j := by
  unfold OmI
  rw [OmT_o h0 h2, OmT_o h0 h2, OmT_o h0 h2]
  show up Om0.1 0 _ j = _
  rw [up_n h0]
theorem OmI_0 : OmI.1 0 = hI6 := by
  unfold OmI OmT
  exact sH_g
theorem RC_I : RC (atA AI7) hI6 := by
  obtain ⟨t, m1, m2, m3, m4, hz⟩ : ∃ t : HV, MB bT 98 t ∧ t.1 12 = nI 0 ∧ t.1 15 = 0 ∧ t.1 16 = -1 ∧ ∀ k, k < 760 → t.2 0 k = 0 := ⟨(fun i => if i = 16 then -1 else if i = 11 then nI 98 else 0, fun a k => if a = 10 then nI (bT k) else 0), ⟨by decide, fun k hk => ⟨(tL_ch k hk).2, rfl⟩, rfl⟩, rfl, rfl, rfl, fun k hk => rfl⟩
  obtain ⟨_, _, _, _, _, i4, i5, i6, i7, i3, i2, i1⟩ := MI_run (N := 6001) m1 m2 m3 m4 hz (by decide)
  have c1 : RC (atA AI1) hI0 := C_layOut (a0 := 16) (a1 := 4) (a2 := 2) (a3 := 5) (a4 := 3) (a5 := 4)
  have c2 : RC (atA AI2) hI1 := RC_tw (A := atA AI1) (k := 2) (c := 113) (o := 0) (l := 3) c1 (by decide)
  have c3 : RC (atA AI3) hI2 := RC_tw (A := atA AI2) (k := 9) (c := 114) (o := 1) (l := 6) c2 (by decide)
  have c4 : RC (atA AI4) hI3 := C_nst (A := atA AI3) (k := 10) (d := 5) c3 (Inv_at i3) (by decide +kernel)
  have c5 : RC (atA AI5) hI4 := C_que (A := atA AI4) (g := 0) (src := ltr 0 5) (n2 := 5) (a := 0) (w := W1) c4 (Inv_at i4) (by decide) (by decide +kernel) (by decide) (by decide) (by decide) (by decide +kernel)
  have c6 : RC (atA AI6) hI5 := C_que (A := atA AI5) (g := 1) (src := ltr 1 3) (n2 := 3) (a := 0) (w := W2) c5 (Inv_at i5) (by decide) (by decide +kernel) (by decide) (by decide) (by decide) (by decide +kernel)
  exact C_que (A := atA AI6) (g := 0) (src := ltr 2 2) (n2 := 2) (a := 0) (w := W3) c6 (Inv_at i6) (by decide) (by decide +kernel) (by decide) (by decide) (by decide) (by decide +kernel)
theorem LR_I {τ : HV} (h0 : RM (atA AI7) (τ.2 0)) (hI : Inv AI7 0) (h5 : τ.1 5 = 0) (h7 : τ.1 7 = 0) (h11 : τ.1 11 = 0) (h17 : τ.1 17 = 0) (h18 : τ.1 18 = -1) (h22 : τ.1 22 = 0) : LR OmI.1 τ 0 := by
  have e11 : OmI.1 11 = Om0.1 11 := OmI_o (by decide) (by decide)
  refine ⟨⟨atA AI7, by rw [OmI_0]; exact RC_I, h0, Inv_at hI⟩, ⟨false, by rw [e11]; rfl, h7, fun q => absurd q Bool.false_ne_true⟩, ⟨[], ⟨Nat.zero_le _, 0, by decide, by rw [e11]; rfl, by rw [e11]; rfl, fun i hi => absurd hi (Nat.not_lt_zero i)⟩, ⟨h5, fun i hi => absurd hi (Nat.not_lt_zero i)⟩, fun B hB => absurd hB List.not_mem_nil⟩, ⟨0, Nat.zero_le _, by rw [e11]; rfl, h11, fun k hk => absurd hk (Nat.not_lt_zero k), ?_, ?_⟩, ⟨0, Nat.zero_le _, by rw [e11]; rfl, h22, fun k hk => absurd hk (Nat.not_lt_zero k)⟩⟩
  · rw [e11]; exact h17
  · rw [e11]; exact h18
