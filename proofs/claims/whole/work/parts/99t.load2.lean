/-! ===== load ===== -/
theorem RM_at {A : AS} {T : Nat} {s : Nat → Int32} (hM : RM A s) (hI : Inv A T) : RM (atA A) (upd s 7 (nI (Hn A 1))) := by
  obtain ⟨h1, h2, h3, h4, h5, h6, h7⟩ := hM
  exact ⟨RMf_set h1 _, RMc_c h2 (fun j a b _ _ _ => pk_un (by omega)), RMk_c h3 (fun j a b => pk_un (by omega)), RMr_c h4 (fun j a b => pk_un (by omega)), RMq_c h5 hI.2.2.2.2.1 (fun j a b => pk_un (by omega)), RMp_c h6 (fun g hg => (Inv_pl hI hg).1) (fun j a b => pk_un (by omega)), (show RMl (Hl A) _ from RMl_c h7 (RMl_ok hI) (fun j a b => pk_un (by omega)))⟩
theorem m16 : ∀ {t : HV}, F_X11_endsText t = (decide (t.1 15 = 0), sS (sS (sS t 11 0) 17 (t.1 15)) 18 (t.1 16)) := by
  intro t
  unfold F_X11_endsText
  rw [lt_d, sS_1n (show (15 : Nat) ≠ 11 by decide), lt_d, sS_1n (show (16 : Nat) ≠ 17 by decide), sS_1n (show (16 : Nat) ≠ 11 by decide), lt_d]
  have e : (sS (sS (sS t 11 0) 17 (t.1 15)) 18 (t.1 16)).1 15 = t.1 15 := by rw [sS_1n (by decide), sS_1n (by decide), sS_1n (by decide)]
  rw [e]
  by_cases c : t.1 15 = 0
  · rw [if_pos c, decide_eq_true c]
  · rw [if_neg c, decide_eq_false c]
/-- how the other machine's load ends -/
def mlE (N : Nat) (t : HV) : Option (Int32 × HV) := (lt2 (F_X11_endsText t) fun v7 t8 => (lt2 (F_X11_passes v7 t8) fun v9 t10 => (if v9 = true then (if vpb 1 760 = true then (if vpb 7 760 = true then (lt (aw t10 0 7 (ag t10 0 1)) fun t13 => (lt (sS t13 5 0) fun t14 => (if vpb 0 760 = true then some ((ag t14 0 0), t14) else none))) else none) else none) else (ob1 (F_X11_copies N 2 0 0 0 t10) fun t17 => some (0, t17)))))
theorem ml_43 {N : Nat} {t : HV} (h : t.1 15 ≠ 0) {r : Int32 × HV} (hr : mlE N t = some r) : st_X11_load_43 N t = some (.inr r) := by
  have h9 := m16 (t := t)
  unfold mlE at hr
  unfold st_X11_load_43
  rw [if_neg h]
  rw [h9, lt2_d, decide_eq_false h, pas_f, lt2_d, if_neg Bool.false_ne_true] at hr ⊢
  cases hc : F_X11_copies N 2 0 0 0 (sS (sS (sS (sS t 11 0) 17 (t.1 15)) 18 (t.1 16)) 6 1) with
  | none => rw [hc] at hr; cases hr
  | some q => rw [hc, ob1_s] at hr; cases hr; rfl
theorem ml_43o {N : Nat} {t t' : HV} (h : t.1 15 = 0) (hx : F_X11_next N t = some (-1, t')) (h' : t'.1 15 = 0) {r : Int32 × HV} (hr : mlE N t' = some r) : st_X11_load_43 N t = some (.inr r) := by
  unfold mlE at hr
  unfold st_X11_load_43
  rw [if_pos h, hx, ob_s, if_pos rfl]
  rw [m16, lt2_d, decide_eq_true h', pas_t, lt2_d, if_pos rfl, if_pos (by decide), if_pos (by decide), lt_d, lt_d, if_pos (by decide)] at hr ⊢
  cases hr
  rfl
theorem ml_run {N : Nat} {t t' : HV} {r : Int32 × HV} {k : Nat} (h : ∀ M, lpN (k + M) (fun z => st_X11_load_43 N z) t = lpN M (fun z => st_X11_load_43 N z) t') (he : st_X11_load_43 N t' = some (.inr r)) (hk : k < N) : lpN N (fun z => st_X11_load_43 N z) t = some r := by
  obtain ⟨M, hM⟩ : ∃ M, N = k + (M + 1) := ⟨N - k - 1, by omega⟩
  have h2 := h (M + 1)
  have he2 : (fun z => st_X11_load_43 N z) t' = some (.inr r) := he
  generalize (fun z => st_X11_load_43 N z) = F at h2 he2 ⊢
  rw [hM, h2, lpN_r he2]
theorem E2 {S : SS} {τ : HV} {T N : Nat} (h : LR S τ T) (hT : T < 2 ^ 20) (hN : 6000 < N) : rX (F_X10_load N S) (F_X11_load N τ) T [(2, 1)] := by
  obtain ⟨n, hn, q1, q2, q3, q4, q5⟩ := h.2.2.2.1
  obtain ⟨B, hB⟩ : ∃ B : Nat → Nat, ∀ k, k < n → B k < 256 ∧ (S 11 4).2 0 k = nI (B k) ∧ τ.2 10 k = nI (B k) := ⟨fun k => if hk : k < n then (q3 k hk).choose else 0, fun k hk => by
    have := (q3 k hk).choose_spec
    simp only [hk, dite_true]
    exact this⟩
  obtain ⟨A, t, s, rfl, hC, hM, hI⟩ := LR_get h
  have hcl : ∃ r, F_X11_load N (sA t 0 s) = lpN N (fun z => st_X11_load_15 N z.1 z.2) (0, sA (sA t 2 (va_cpy s (t.2 2) 0 0 760)) 0 s) ∧ r = 0 := by
    refine ⟨0, ?_, rfl⟩
    unfold F_X11_load
    rw [L0, M_copies (by decide) (by decide) (by decide) (by omega), ob1_s, sA2s, sA_2n (by decide), sA_co (by decide)]
  obtain ⟨_, hcl, _⟩ := hcl
  have hrun : ∀ r, st_X11_load_15 N (nI 760) (sA (sA t 2 (va_cpy s (t.2 2) 0 0 760)) 0 (zer s 0 760)) = some (.inr r) → F_X11_load N (sA t 0 s) = some r := fun r hr => by
    rw [hcl]
    have key := lpN_for (f := fun z => st_X11_load_15 N z.1 z.2) (x := fun i => (nI i, sA (sA t 2 (va_cpy s (t.2 2) 0 0 760)) 0 (zer s 0 i))) (r := r) (n := 760) (N := N) (by omega) (fun i hi => ?_) hr
    · simp only [zer_0] at key
      exact key
    · show st_X11_load_15 N (nI i) (sA _ 0 (zer s 0 i)) = _
      unfold st_X11_load_15
      rw [if_neg (by rw [L760, Z_le (by omega) (by omega)]; omega), if_pos (by rw [Z_vpb (by omega)]; omega), L0, Z_aw0 (by omega), lt_d, L1, Z_add]
      have := zer_s (s := s) (p := 0) (n := i)
      rw [Nat.zero_add] at this
      rw [this]
  have h4 : F_X11_startsText (sA (sA t 2 (va_cpy s (t.2 2) 0 0 760)) 0 (zer s 0 760)) = sS (sS (sS (sS (sA (sA t 2 (va_cpy s (t.2 2) 0 0 760)) 0 (zer s 0 760)) 12 0) 13 0) 15 0) 16 (-1) := rfl
  generalize ht4 : sS (sS (sS (sS (sA (sA t 2 (va_cpy s (t.2 2) 0 0 760)) 0 (zer s 0 760)) 12 0) 13 0) 15 0) 16 (-1) = t4 at h4
  have z1 : ∀ i, (i < 12 ∨ 17 ≤ i ∨ i = 14) → t4.1 i = t.1 i := fun i hi => by
    rw [← ht4, sS_1n (by omega), sS_1n (by omega), sS_1n (by omega), sS_1n (by omega)]
    rfl
  have z2 : ∀ a, a ≠ 0 → a ≠ 2 → t4.2 a = t.2 a := fun a a0 a2 => by
    rw [← ht4, sS_2, sS_2, sS_2, sS_2, sA_2n a0, sA_2n a2]
  have z0 : t4.2 0 = zer s 0 760 := by rw [← ht4, sS_2, sS_2, sS_2, sS_2, sA2s]
  have zh : ∀ k, k < 760 → t4.2 2 k = s k := fun k hk => by
    rw [← ht4, sS_2, sS_2, sS_2, sS_2, sA_2n (by decide), sA2s, pk_cpy_in (by omega) (by omega)]
    exact congrArg s (by omega)
  have hQ : QJ B n 0 S t4 (sT S (F_X9_startReading (S 11 4))) t4 := by
    refine ⟨⟨Nat.zero_le _, ?_, ?_, ?_, ?_, fS_T ⟨fun _ _ _ => rfl, fun _ _ => rfl⟩⟩, ⟨hn, fun k hk => ⟨(hB k hk).1, ?_⟩, ?_⟩, ?_, ?_, ?_, fm_r⟩
    · rw [sT_4]
      exact ⟨hn, fun k hk => ⟨(hB k hk).1, (hB k hk).2.1⟩, q1⟩
    · rw [sT_4]; rfl
    · rw [sT_4]; rfl
    · rw [sT_4]; rfl
    · rw [z2 10 (by decide) (by decide)]
      have := (hB k hk).2.2
      rwa [sA_2n (by decide)] at this
    · rw [z1 11 (by omega)]; exact q2
    · rw [← ht4, sS_1n (by decide), sS_1n (by decide), sS_1n (by decide), sS_1]; rfl
    · rw [← ht4, sS_1n (by decide), sS_1]
    · rw [← ht4, sS_1]
  obtain ⟨b, S5, t5, y1, y2, y3⟩ := J_hedge (N := N) hT (by omega) hQ (fun k hk => by
    rw [z0]
    exact (if_pos (by omega) : zer s 0 760 k = nI 0))
  -- to the end of the text
  have hend : ∃ b S6 t6, F_X3_read N 1 S = some (b, S6) ∧ (∀ r, mlE N t6 = some r → F_X11_load N (sA t 0 s) = some r) ∧ ((b = true ∧ ∃ A', (S6 11 4).1 7 = 0 ∧ (S6 11 4).1 8 = -1 ∧ RC (atA A') (S6 1) ∧ fS S S6 ∧ t6.1 15 = 0 ∧ t6.1 16 = -1 ∧ RM A' (t6.2 0) ∧ fm t4 t6 ∧ Inv A' T) ∨ (b = false ∧ PE S t4 S6 t6)) := by
    have hF : F_X3_read N 1 S = (ob (F_X3_readHedge N 1 (sT S (F_X9_startReading (S 11 4)))) fun v4 S5 => (if v4 = true then (lpN N (fun z => st_X3_read_16 N 1 z.1 z.2) (0, S5)) else some (false, S5))) := rfl
    have hG : ∀ r, lpN N (fun z => st_X11_load_43 N z) t5 = some r → F_X11_load N (sA t 0 s) = some r := fun r hr => by
      apply hrun
      unfold st_X11_load_15
      rw [if_pos (by decide), h4, lt_d, y2, ob1_s, hr, ob1_s]
    rcases y3 with ⟨rfl, p', A', y4⟩ | ⟨rfl, y4⟩
    · obtain ⟨b, S6, t6, k, hk, w1, w2, w3⟩ := J_loop (N := N) (f := fun z => st_X11_load_43 N z) (by omega) (fun p x x' m1 hp m2 m3 hlt e => by
        show st_X11_load_43 N x = _
        unfold st_X11_load_43
        rw [if_pos m3, M_next m1 hp m2 (by omega), ob_s, if_neg (by
          have : bA B n (tS B n p) = nI (B (tS B n p)) := if_neg (by omega)
          rw [this, Z_m1 (by have := (m1.2.1 _ hlt).1; omega)]
          exact not_false), e, ob1_s]) n p' 0 A' S5 t5 (Nat.sub_le _ _) (Nat.zero_le _) y4
      rcases w3 with ⟨rfl, w3⟩ | ⟨rfl, w3⟩
      · obtain ⟨p2, A2, d1, d2, ⟨d3, d4, d5, d6⟩, ⟨d7, d8, d9, d10, d11, d12⟩, d13⟩ := w3
        have hnx : F_X11_next N t6 = some (-1, nxT B n p2 t6) := by
          rw [M_next d7 d1 d8 (by omega)]
          have : bA B n (tS B n p2) = -1 := if_pos d2
          rw [this]
        refine ⟨true, S6, nxT B n p2 t6, ?_, fun r hr => ?_, Or.inl ⟨rfl, A2, d3, d4, d5, d6, by rw [nx_o (by omega)]; exact d9, by rw [nx_o (by omega)]; exact d10, d11, fm_t d12 (fr_fm nx_f), d13⟩⟩
        · rw [hF, y1, ob_s, if_pos rfl]
          exact w1 N (by omega)
        · exact hG r (ml_run w2 (ml_43o d9 hnx (by rw [nx_o (by omega)]; exact d9) hr) (by omega))
      · refine ⟨false, S6, t6, ?_, fun r hr => ?_, Or.inr ⟨rfl, w3⟩⟩
        · rw [hF, y1, ob_s, if_pos rfl]
          exact w1 N (by omega)
        · exact hG r (ml_run w2 (ml_43 (PE_n w3) hr) (by omega))
    · refine ⟨false, S5, t5, ?_, fun r hr => ?_, Or.inr ⟨rfl, y4⟩⟩
      · rw [hF, y1, ob_s, if_neg Bool.false_ne_true]
      · exact hG r (ml_run (k := 0) (fun M => by rw [Nat.zero_add]) (ml_43 (PE_n y4) hr) (by omega))
  obtain ⟨b, S6, t6, w1, w2, w3⟩ := hend
  unfold F_X10_load
  rw [w1, ob_s, lt_d]
  have hfn : ∀ i, (i = 5 ∨ i = 7 ∨ i = 22) → fm t4 t6 → t6.1 i = t.1 i := fun i hi hf => by rw [hf.1 i (by omega), z1 i (by omega)]
  have hfa : ∀ a, (a = 1 ∨ a = 4 ∨ a = 10 ∨ a = 21) → fm t4 t6 → t6.2 a = t.2 a := fun a ha hf => by rw [hf.2 a (by omega) (by omega), z2 a (by omega) (by omega)]
  have h11 : ∀ S9 : SS, fS S S9 → ∀ q, q ≠ 4 → up S9 11 (up (S9 11) 4 (sS (S9 11 4) 1 0)) 11 q = S 11 q := fun S9 hf q hq => by rw [up_s, up_n hq]; exact hf.2 q hq
  have hjj : ∀ S9 : SS, fS S S9 → ∀ j, j ≠ 1 → j ≠ 11 → up S9 11 (up (S9 11) 4 (sS (S9 11 4) 1 0)) j = S j := fun S9 hf j h1 h2 => by rw [up_n h2]; exact hf.1 j h1 h2
  have h14 : ∀ S9 : SS, up S9 11 (up (S9 11) 4 (sS (S9 11 4) 1 0)) 11 4 = sS (S9 11 4) 1 0 := fun S9 => by rw [up_s, up_s]
  rcases w3 with ⟨rfl, A2, d3, d4, d5, d6, d9, d10, d11, d12, d13⟩ | ⟨rfl, c, q, c0, c5, d1, d2, d3, d4, d5⟩
  · rw [if_pos rfl]
    have hIa := Inv_at d13
    have hRa := RM_at d11 d13
    have n1' : t6.2 0 1 = nI (Hn A2 1) := d11.1 1 (by decide)
    have n0' : t6.2 0 0 = nI (Hn A2 0) := d11.1 0 (by decide)
    have hml : mlE N t6 = some (nI (Hn A2 0), sS (sA (sS (sS (sS (sS t6 11 0) 17 0) 18 (-1)) 6 0) 0 (upd (t6.2 0) 7 (nI (Hn A2 1)))) 5 0) := by
      unfold mlE
      have ea1 : ∀ x : HV, x.2 = t6.2 → ag x 0 1 = nI (Hn A2 1) := fun x hx => by rw [L1, Z_ag (by decide), hx, n1']
      have ea7 : ∀ (x : HV) (v : Int32), x.2 = t6.2 → aw x 0 7 v = sA x 0 (upd (t6.2 0) 7 v) := fun x v hx => by rw [L7, Z_aw (by decide), hx]
      have ea : ∀ x : HV, x.2 = t6.2 → ag (sS (sA x 0 (upd (t6.2 0) 7 (nI (Hn A2 1)))) 5 0) 0 0 = nI (Hn A2 0) := fun x hx => by
        rw [L0, Z_ag (by decide), sS_2, sA2s, pk_un (by decide), n0']
      rw [m16, lt2_d, decide_eq_true d9, pas_t, lt2_d, if_pos rfl, if_pos (by decide), if_pos (by decide), d9, d10, ea1 (sS (sS (sS (sS t6 11 0) 17 0) 18 (-1)) 6 0) rfl, ea7 (sS (sS (sS (sS t6 11 0) 17 0) 18 (-1)) 6 0) _ rfl, lt_d, lt_d, if_pos (by decide), ea (sS (sS (sS (sS t6 11 0) 17 0) 18 (-1)) 6 0) rfl]
    have hload := w2 _ hml
    have hC3 : RC (atA A2) (up S6 11 (up (S6 11) 4 (sS (S6 11 4) 1 0)) 1) := by rw [up_n (by decide)]; exact d5
    obtain ⟨c1, c2⟩ := C_copy (j := 0) (j2 := 1) (by decide) hC3 hIa
    have g11 := h11 S6 d6
    have gjj := hjj S6 d6
    have g14 := h14 S6
    generalize up S6 11 (up (S6 11) 4 (sS (S6 11 4) 1 0)) = S3 at c1 c2 g11 gjj g14 ⊢
    generalize F_X5_copyFrom 0 1 S3 = S5' at c1 c2 ⊢
    obtain ⟨L, ⟨h8, x, hx, x1, x2, x3⟩, _, _⟩ := RLh_get h
    have e11 : S5' 11 = S3 11 := c2 11 (by decide)
    unfold F_X6_forget
    rw [lt_d, lt_d, lt_d]
    have o : ∀ j, j ≠ 0 → j ≠ 1 → j ≠ 11 → up S5' 11 (up (S5' 11) 7 (sS (S5' 11 7) 2 0)) j = S j := fun j a b c => by rw [up_n c, c2 j a, gjj j b c]
    have o7 : ∀ p, p ≠ 7 → p ≠ 4 → up S5' 11 (up (S5' 11) 7 (sS (S5' 11 7) 2 0)) 11 p = S 11 p := fun p hp hp4 => by rw [up_s, up_n hp, e11, g11 p hp4]
    have x7 : up S5' 11 (up (S5' 11) 7 (sS (S5' 11 7) 2 0)) 11 7 = sS (S 11 7) 2 0 := by rw [up_s, up_s, e11, g11 7 (by decide)]
    have x4 : up S5' 11 (up (S5' 11) 7 (sS (S5' 11 7) 2 0)) 11 4 = sS (S6 11 4) 1 0 := by rw [up_s, up_n (by decide), e11, g14]
    have nn : ∀ i, (i = 7 ∨ i = 22) → (sS (sA (sS (sS (sS (sS t6 11 0) 17 0) 18 (-1)) 6 0) 0 (upd (t6.2 0) 7 (nI (Hn A2 1)))) 5 0).1 i = t.1 i := fun i hi => by
      rw [sS_1n (by omega), sA_1, sS_1n (by omega), sS_1n (by omega), sS_1n (by omega), sS_1n (by omega)]
      exact hfn i (by omega) d12
    have aa : ∀ a, (a = 1 ∨ a = 4 ∨ a = 10 ∨ a = 21) → (sS (sA (sS (sS (sS (sS t6 11 0) 17 0) 18 (-1)) 6 0) 0 (upd (t6.2 0) 7 (nI (Hn A2 1)))) 5 0).2 a = (sA t 0 s).2 a := fun a ha => by
      rw [sS_2, sA_2n (by omega), sA_2n (by omega)]
      exact hfa a ha d12
    refine Or.inl ⟨nI (Hn A2 0), up S5' 11 (up (S5' 11) 7 (sS (S5' 11 7) 2 0)), _, ?_, hload, ?_, ⟨atA A2, ?_, ?_, hIa⟩, RLs_e h.2.1 (Nat.le_refl _) hT (by rw [o7 6 (by decide) (by decide)]) (o 2 (by decide) (by decide) (by decide)) (nn 7 (by omega)) (aa 1 (by omega)), ⟨[], ⟨Nat.zero_le _, x, hx, ?_, ?_, fun i hi => absurd hi (Nat.not_lt_zero i)⟩, ⟨sS_1, fun i hi => absurd hi (Nat.not_lt_zero i)⟩, fun B hB => absurd hB List.not_mem_nil⟩, ⟨0, Nat.zero_le _, ?_, ?_, fun k hk => absurd hk (Nat.not_lt_zero k), ?_, ?_⟩, RLo_e h.2.2.2.2 (by rw [o7 6 (by decide) (by decide)]) (by rw [o7 6 (by decide) (by decide)]) (nn 22 (by omega)) (aa 21 (by omega))⟩
    · rw [up_n (by decide), c1.1.1.1 0 (by decide)]
      show some (Sum.inl (nI (up (Hn A2) 7 (Hn A2 1) 0), _)) = _
      rw [up_n (by decide)]
    · show (sS (sA (sS (sS (sS (sS t6 11 0) 17 0) 18 (-1)) 6 0) 0 (upd (t6.2 0) 7 (nI (Hn A2 1)))) 5 0).1 6 = 0
      rw [sS_1n (by decide), sA_1, sS_1]
    · rw [up_n (by decide)]; exact c1
    · rw [sS_2, sA2s]; exact hRa
    · rw [x7, sS_1n (by decide)]; exact x1
    · rw [x7, sS_1]; rfl
    · rw [x4, sS_1]; rfl
    · rw [sS_1n (by decide), sA_1, sS_1n (by decide), sS_1n (by decide), sS_1n (by decide), sS_1]; rfl
    · rw [x4, show (sS (S6 11 4) 1 0).1 7 = 0 from (sS_1n (by decide)).trans d3, sS_1n (by decide), sA_1, sS_1n (by decide), sS_1n (by decide), sS_1]
    · rw [x4, show (sS (S6 11 4) 1 0).1 8 = -1 from (sS_1n (by decide)).trans d4, sS_1n (by decide), sA_1, sS_1n (by decide), sS_1]
  · have hne : t6.1 15 ≠ 0 := PE_n (S0 := S) (t0 := t4) (S := S6) ⟨c, q, c0, c5, d1, d2, d3, d4, d5⟩
    have hml : mlE N t6 = some (0, sA (sS (sS (sS (sS t6 11 0) 17 (nI c)) 18 (nI q)) 6 1) 0 (va_cpy (t6.2 2) (t6.2 0) 0 0 760)) := by
      unfold mlE
      rw [m16, lt2_d, decide_eq_false hne, pas_f, lt2_d, if_neg Bool.false_ne_true, L0, M_copies (by decide) (by decide) (by decide) (by omega), ob1_s, d3, d4]
      rfl
    have hload := w2 _ hml
    rw [if_neg Bool.false_ne_true]
    have g11 := h11 S6 d2
    have gjj := hjj S6 d2
    have g14 := h14 S6
    have nn : ∀ i, (i = 5 ∨ i = 7 ∨ i = 22) → (sA (sS (sS (sS (sS t6 11 0) 17 (nI c)) 18 (nI q)) 6 1) 0 (va_cpy (t6.2 2) (t6.2 0) 0 0 760)).1 i = t.1 i := fun i hi => by
      rw [sA_1, sS_1n (by omega), sS_1n (by omega), sS_1n (by omega), sS_1n (by omega)]
      exact hfn i (by omega) d5
    have aa : ∀ a, (a = 1 ∨ a = 4 ∨ a = 10 ∨ a = 21) → (sA (sS (sS (sS (sS t6 11 0) 17 (nI c)) 18 (nI q)) 6 1) 0 (va_cpy (t6.2 2) (t6.2 0) 0 0 760)).2 a = (sA t 0 s).2 a := fun a ha => by
      rw [sA_2n (by omega), sA_2n (by omega)]
      exact hfa a ha d5
    refine Or.inr ⟨(2, 1), _, 0, _, List.mem_cons_self, rfl, hload, ?_, ⟨A, ?_, ?_, hI⟩, RLs_e h.2.1 (Nat.le_refl _) hT (by rw [g11 6 (by decide)]) (gjj 2 (by decide) (by decide)) (nn 7 (by omega)) (aa 1 (by omega)), RLh_e h.2.2.1 (Nat.le_refl _) hT (g11 7 (by decide)) (fun j a b => gjj j (by omega) (by omega)) (nn 5 (by omega)) (aa 4 (by omega)), ⟨0, Nat.zero_le _, ?_, ?_, fun k hk => absurd hk (Nat.not_lt_zero k), ?_, ?_⟩, RLo_e h.2.2.2.2 (by rw [g11 6 (by decide)]) (by rw [g11 6 (by decide)]) (nn 22 (by omega)) (aa 21 (by omega))⟩
    · show (sS (sS (sS (sS t6 11 0) 17 (nI c)) 18 (nI q)) 6 1).1 6 = 1
      exact sS_1
    · rw [gjj 0 (by decide) (by decide)]; exact hC
    · rw [sA2s]
      refine RM_eq hM hI (fun k hk => ?_)
      rw [pk_cpy_in (by omega) (by omega), d5.2 2 (by decide) (by decide)]
      exact (zh _ (by omega)).trans (congrArg s (by omega))
    · rw [g14, sS_1]; rfl
    · rw [sA_1, sS_1n (by decide), sS_1n (by decide), sS_1n (by decide), sS_1]; rfl
    · rw [g14, show (sS (S6 11 4) 1 0).1 7 = nI c from (sS_1n (by decide)).trans d1.1, sA_1, sS_1n (by decide), sS_1n (by decide), sS_1]
    · rw [g14, show (sS (S6 11 4) 1 0).1 8 = nI q from (sS_1n (by decide)).trans d1.2, sA_1, sS_1n (by decide), sS_1]
