/-! ===== words: builders over many appends; an act that queues a word ===== -/
theorem sbIn.S {w : WP} {S S' : SS} {o : HV × CT} {iB iC : ID} {T : List Nat} {L : Nat} (h : sbIn w (cA w (S, o)) iB iC T L) (h1 : 11 ≤ iB.1) (h2 : 11 ≤ iC.1) : sbIn w (cA w (S', o)) iB iC T L := by
  obtain ⟨a1, a2, a3, a4, ⟨f, a5, a6⟩, a7⟩ := h
  exact ⟨a1, a2, a3, by rw [cA_m h1] at a4 ⊢; exact a4, ⟨f, by rw [cA_m h2] at a5 ⊢; exact a5, a6⟩, a7⟩
theorem sbIn.m {w : WP} {ct ct' : CT} {iB iC : ID} {T : List Nat} {L : Nat} (h : sbIn w ct iB iC T L) {I : ID → Prop} {ad : ID → Nat} (hD : gD w) (hag : gAg w I ad) (h1 : ct' iB = ct iB) (h2 : ct' iC = ct iC) : sbIn (wM w I ad) ct' iB iC T L := by
  obtain ⟨a1, a2, a3, a4, ⟨f, a5, a6⟩, a7⟩ := h
  refine ⟨Or.inl a1, Or.inl a2, a3, ?_, ⟨f, h2.trans a5, a6⟩, a7⟩
  rw [h1, a4]
  show sbC (wAd w iC) _ = sbC (ad iC) _
  rw [hag.1 iC (hD.2.1 iC a2)]
/-- a builder with the text T, its row of kind 30; rows from n on are free -/
def TB (w0 : WP) (X : CX) (cc : ByteArray) (own : String) (ret : Option FieldType) (d nL : Nat) (iB : ID) (b : Nat) (T : List Nat) (n : Nat) (I : ID → Prop) (ad : ID → Nat) (ct : CT) : Prop :=
  gAg w0 I ad ∧ gBh X I ad ∧ gC (wM w0 I ad) X cc own ret d nL ∧ (∀ z, I z → 30 ≤ z.1) ∧ (∀ m, n ≤ m → ¬ wOk (wM w0 I ad) (30, m, 0, 0)) ∧ ad iB = b ∧ iB.1 ≠ 30 ∧ ∃ iC L, iC.1 = 30 ∧ sbIn (wM w0 I ad) ct iB iC T L
theorem tb_app {w0 : WP} {X : CX} {cc : ByteArray} {own : String} {ret : Option FieldType} {d nL : Nat} {iB : ID} {b : Nat} {T : List Nat} {n : Nat} {I : ID → Prop} {ad : ID → Nat} {ct : CT} (hS : gS w0) (hY : gY w0) (h : TB w0 X cc own ret d nL iB b T n I ad ct) {Q : QT} {pc : Nat} {lo : List (Nat × Value)} {st : List Value} {T' : List Nat} {d' idx nLy ny : Nat} {y : MethodName} {ccy : ByteArray} (As : List Value)
    (hM : ∀ (iV iW : ID) (L : Nat), gS (wM w0 I ad) → gY (wM w0 I ad) → gD (wM w0 I ad) → sbIn (wM w0 I ad) ct iB iV T L → wAd (wM w0 I ad) iB = b → ¬ wOk (wM w0 I ad) iW → 30 ≤ iW.1 → gMe (wM w0 I ad) d' y ccy nLy (some (.object "java/lang/StringBuilder")) (.ref b :: As) ct (sbPost (wM w0 I ad) ct iB iV iW T' (some (.ref b))) 1 1000) (Y : gYB y ccy nLy (some (.object "java/lang/StringBuilder")) ny) (hse : Cond.selects "java/lang/StringBuilder" y y ∈ lw_tbl) (hsk : tkw (Cond.selects "java/lang/StringBuilder" y y) = true) (hli : Cond.methodLink own idx y ∈ lw_tbl) (hn : As.length = ny) (hdd : d' + 1 ≤ d) (hnl : nLy ≤ 21) (hst : (st.map fun v => v.category).sum ≤ 8) {stk : List Value} (hstk : stk = As.reverse ++ .ref b :: st) (hd : decode cc pc = .ok (.invokevirtual idx, 3)) (hq : qOk X (Q.1, Q.2.1 + 1, Q.2.2 + 1000))
    (k : ∀ I' ad' ct', TB w0 X cc own ret d nL iB b T' (n + 1) I' ad' ct' → (∀ z : ID, z.1 ≠ 30 → z ≠ iB → ct' z = ct z) → (∀ z, wFr (wM w0 I ad) z → ad' z = ad z ∧ wFr (wM w0 I' ad') z) → (∀ z : ID, z.1 ≠ 30 → wOk (wM w0 I' ad') z → wOk (wM w0 I ad) z) → gU (wM w0 I' ad') X (Q.1, Q.2.1 + 1, Q.2.2 + 1000) ct' (pc + 3) lo (.ref b :: st)) : gU (wM w0 I ad) X Q ct pc lo stk := by
  obtain ⟨hag, hbh, C, hI, hfr, hb, hk, iC, L, hC, hIn⟩ := h
  have hD := gD_C C
  have hS1 := gS_N hS hag hI
  refine r_geV C (d' := d') As (hM iC (30, n, 0, 0) L hS1 hY hD hIn hb (hfr n (Nat.le_refl _)) (Nat.le_refl 30)) Y (sel_tbl C hse hsk) hli (recB (hD.2.1 iB hIn.1) hb hIn.2.2.2.1) hn hdd hnl hst hstk hd hq ?_
  rintro I2 ad2 v ct2 ⟨rfl, hI2, iC2, L2, hiC, hIn2, hfr2⟩ hag2 hbh2 C2
  rw [wM_M] at C2 hIn2 ⊢
  refine k _ ad2 ct2 ⟨gAg_M hag hag2, gBh_M hbh hag2 hbh2, C2, ?_, ?_, ?_, hk, iC2, L2, ?_, hIn2⟩ ?_ ?_ ?_
  · rintro z (hz | hz)
    · exact hI z hz
    · rw [hI2 z hz]
      exact Nat.le_refl 30
  · rintro m hm (hz | hz | hz)
    · exact hfr m (by omega) (Or.inl hz)
    · exact hfr m (by omega) (Or.inr hz)
    · have := hI2 _ hz
      simp at this
      omega
  · exact (hag2.1 iB (hD.2.1 iB hIn.1)).trans hb
  · rcases hiC with rfl | rfl
    · exact hC
    · rfl
  · intro z h1 h2
    exact hfr2 z h2 (fun e => h1 (by rw [e]; exact hC)) (fun e => h1 (by rw [e]))
  · intro z hz
    exact ⟨hag2.1 z (hD.2.1 z hz), hz.elim Or.inl (fun h => Or.inr (Or.inl h))⟩
  · rintro z h1 (hz | hz | hz)
    · exact Or.inl hz
    · exact Or.inr hz
    · exact absurd (by rw [hI2 z hz]) h1
/-- the letters of the word that an act queues -/
def wlk (yn k : Nat) : List Nat := (List.range k).map fun j => 97 + (yn / 5 + 7 * j) % 26
theorem wlk_s {yn k : Nat} : wlk yn (k + 1) = wlk yn k ++ [97 + (yn / 5 + 7 * k) % 26] := by
  unfold wlk
  rw [List.range_succ, List.map_append]
  rfl
theorem wlk_len {yn k : Nat} : (wlk yn k).length = k := by
  unfold wlk
  rw [List.length_map, List.length_range]
theorem wlk_lt {yn k : Nat} : ∀ c ∈ wlk yn k, c < 128 := by
  intro c hc
  unfold wlk at hc
  obtain ⟨j, -, rfl⟩ := List.mem_map.mp hc
  omega
theorem chr_2 : ∀ c : Fin 128, ((nI c.1).toUInt32 % 65536).toInt32 = nI c.1 := by decide +kernel

theorem la_w {w0 : WP} (hS : gS w0) (hY : gY w0) {X : CX} {F0 : State → Prop} {ct0 : CT} {yn b p : Nat} {g pd : Int32} (hyn : yn < 100000) {cE sE : Nat} {W0 : ID → Prop} (kk : ∀ I' ad' ct', TB w0 X cL_acts "HedgeMessagesLaw" (some .boolean) 10 12 (31, 0, 0, 0) b (wlk yn (yn % 5 + 1)) (yn % 5 + 2) I' ad' ct' → (∀ z : ID, z.1 ≠ 30 → z ≠ (31, 0, 0, 0) → ct' z = ct0 z) → (∀ z : ID, z.1 ≠ 30 → wOk (wM w0 I' ad') z → W0 z) → gU (wM w0 I' ad') X (F0, cE, sE) ct' 545 [(0, .ref p), (3, .int (nI yn)), (8, .int g), (9, .int pd), (10, .ref b)] []) : ∀ m k I ad ct c9 s9, k + m = yn % 5 + 1 → TB w0 X cL_acts "HedgeMessagesLaw" (some .boolean) 10 12 (31, 0, 0, 0) b (wlk yn k) (k + 1) I ad ct → (∀ z : ID, z.1 ≠ 30 → z ≠ (31, 0, 0, 0) → ct z = ct0 z) → (∀ z : ID, z.1 ≠ 30 → wOk (wM w0 I ad) z → W0 z) → qOk X (F0, c9 + m, s9 + 1000 * m) → c9 + m = cE → s9 + 1000 * m = sE → gU (wM w0 I ad) X (F0, c9, s9) ct 509 [(0, .ref p), (3, .int (nI yn)), (8, .int g), (9, .int pd), (10, .ref b), (11, .int (nI k))] [] := by
  intro m
  induction m with
  | zero =>
    intro k I ad ct c9 s9 hk hTB hf hw0 hq9 e1 e2
    have C := hTB.2.2.1
    obtain rfl : k = yn % 5 + 1 := hk
    subst e1
    subst e2
    refine r_iload C (k := 5) rfl dL_acts_509 ?_
    refine r_iload_n C (k := 1) rfl rfl dL_acts_511 ?_
    refine r_iconst C (v := 5) rfl dL_acts_512 ?_
    refine r_irem C (by decide) dL_acts_513 ?_
    refine r_st (st' := [.int (nI (yn % 5)), .int (nI (yn % 5 + 1))]) (by rw [show nI yn - nI yn / 5 * 5 = nI (yn % 5) from pk_rem (d := 5) (a := yn) (by omega) (by decide) (by decide)] <;> rfl) ?_
    refine r_icmp_gt C (tgt := 545) rfl dL_acts_514 (fun _ => ?_) (fun h => absurd (nI_lt (Nat.lt_succ_self _) (by omega)) h)
    refine r_lo [0, 1, 2, 3, 4] (lo' := [(0, .ref p), (3, .int (nI yn)), (8, .int g), (9, .int pd), (10, .ref b)]) rfl ?_
    exact kk I ad ct hTB hf hw0
  | succ m ih =>
    intro k I ad ct c9 s9 hk hTB hf hw0 hq9 e1 e2
    have C := hTB.2.2.1
    refine r_iload C (k := 5) rfl dL_acts_509 ?_
    refine r_iload_n C (k := 1) rfl rfl dL_acts_511 ?_
    refine r_iconst C (v := 5) rfl dL_acts_512 ?_
    refine r_irem C (by decide) dL_acts_513 ?_
    refine r_st (st' := [.int (nI (yn % 5)), .int (nI k)]) (by rw [show nI yn - nI yn / 5 * 5 = nI (yn % 5) from pk_rem (d := 5) (a := yn) (by omega) (by decide) (by decide)] <;> rfl) ?_
    refine r_icmp_gt C (tgt := 545) rfl dL_acts_514 (fun h => absurd h (nI_nlt (by omega) (by omega))) (fun _ => ?_)
    refine r_aload C (k := 4) rfl dL_acts_517 ?_
    refine r_bipush C (v := 97) rfl dL_acts_519 ?_
    refine r_iload_n C (k := 1) rfl rfl dL_acts_521 ?_
    refine r_iconst C (v := 5) rfl dL_acts_522 ?_
    refine r_idiv C (by decide) dL_acts_523 ?_
    refine r_st (st' := [.int (nI (yn / 5)), .int 97, .ref b]) (by rw [show nI yn / 5 = nI (yn / 5) from pk_div (d := 5) (a := yn) (by omega) (by decide) (by decide)] <;> rfl) ?_
    refine r_bipush C (v := 7) rfl dL_acts_524 ?_
    refine r_iload C (k := 5) rfl dL_acts_526 ?_
    refine r_imul C dL_acts_528 ?_
    refine r_st (st' := [.int (nI (7 * k)), .int (nI (yn / 5)), .int 97, .ref b]) (by rw [show (7 : Int32) * nI k = nI (7 * k) from pk_mul 7 k] <;> rfl) ?_
    refine r_iadd C dL_acts_529 ?_
    refine r_st (st' := [.int (nI (yn / 5 + 7 * k)), .int 97, .ref b]) (by rw [nI_add] <;> rfl) ?_
    refine r_bipush C (v := 26) rfl dL_acts_530 ?_
    refine r_irem C (by decide) dL_acts_532 ?_
    refine r_st (st' := [.int (nI ((yn / 5 + 7 * k) % 26)), .int 97, .ref b]) (by rw [show nI (yn / 5 + 7 * k) - nI (yn / 5 + 7 * k) / 26 * 26 = nI ((yn / 5 + 7 * k) % 26) from pk_rem (d := 26) (a := yn / 5 + 7 * k) (by omega) (by decide) (by decide)] <;> rfl) ?_
    refine r_iadd C dL_acts_533 ?_
    refine r_st (st' := [.int (nI (97 + (yn / 5 + 7 * k) % 26)), .ref b]) (by rw [show (97 : Int32) + nI ((yn / 5 + 7 * k) % 26) = nI (97 + (yn / 5 + 7 * k) % 26) from nI_add 97 _] <;> rfl) ?_
    refine r_i2c C (v := nI (97 + (yn / 5 + 7 * k) % 26)) (chr_2 ⟨97 + (yn / 5 + 7 * k) % 26, by omega⟩) dL_acts_534 ?_
    refine tb_app hS hY hTB (T' := wlk yn (k + 1)) (d' := 5) [.int (nI (97 + (yn / 5 + 7 * k) % 26))] (fun iV iW L h1 h2 h3 h4 h5 h6 h7 => by rw [wlk_s]; exact c_sbC h1 h2 h3 h4 h5 h6 h7 (by omega) (by rw [wlk_len]; omega)) mbJ4_append_cf468 wm6_25 rfl wm6_23 rfl (by decide) (kR rfl) (kR rfl) rfl dL_acts_535 (qOk_le hq9 (by show c9 + 1 ≤ c9 + (m + 1); omega) (by show s9 + 1000 ≤ s9 + 1000 * (m + 1); omega)) ?_
    intro I2 ad2 ct2 hTB2 hf2 _ hw2
    have C := hTB2.2.2.1
    show gU (wM w0 I2 ad2) X (F0, c9 + 1, s9 + 1000) ct2 538 [(0, .ref p), (3, .int (nI yn)), (8, .int g), (9, .int pd), (10, .ref b), (11, .int (nI k))] [.ref b]
    refine r_pop C rfl dL_acts_538 ?_
    refine r_iinc C (k := 5) (v := nI (k + 1)) (lo' := [(11, .int (nI (k + 1))), (0, .ref p), (3, .int (nI yn)), (8, .int g), (9, .int pd), (10, .ref b)]) rfl (by exact nI_add k 1) (by decide) rfl dL_acts_539 ?_
    refine r_goto C (tgt := 509) rfl dL_acts_542 ?_
    refine r_lo [1, 2, 3, 4, 5, 0] (lo' := [(0, .ref p), (3, .int (nI yn)), (8, .int g), (9, .int pd), (10, .ref b), (11, .int (nI (k + 1)))]) rfl ?_
    exact ih (k + 1) I2 ad2 ct2 (c9 + 1) (s9 + 1000) (by omega) hTB2 (fun z h1 h2 => (hf2 z h1 h2).trans (hf z h1 h2)) (fun z h1 h2 => hw0 z h1 (hw2 z h1 h2)) (qOk_le hq9 (by omega) (by omega)) (by omega) (by omega)
def F_acts_h (N : Nat) (a2 : Int32) (S : SS) : Option (Int32 × Int32) := (if (F_X10_slotCount S) = 0 then none else (ob1 (F_X10_twigCount N S) fun v2 => (ob1 (okI (F_X10_pendingCount (a2 - a2 / 2 * 2) S)) fun v3 => some ((a2 - a2 / 2 * 2), v3))))
theorem c_acts_h6 {w : WP} (hW : gW w) (hS : gS w) {S : SS} {o : HV × CT} (N : Nat) (a2 a3 a4 : Int32) {g pd : Int32} (hF : F_acts_h N a2 S = some (g, pd)) {X : CX} (C : gC w X cL_acts "HedgeMessagesLaw" (some .boolean) 10 12) {F0 : State → Prop} (kk : gU w X (F0, 0, 0) (cA w (S, o)) 497 [(0, .ref (wAd w (7, 11, 6, 0))), (3, .int a3), (8, .int g), (9, .int pd)] []) : gU w X (F0, 0, 0) (cA w (S, o)) 0 [(0, .ref (wAd w (7, 11, 6, 0))), (1, .int 6), (2, .int a2), (3, .int a3), (4, .int a4)] [] := by
  unfold F_acts_h at hF
  refine r_iload_n C (k := 2) rfl rfl dL_acts_0 ?_
  refine r_aload_n C (k := 0) rfl rfl dL_acts_1 ?_
  refine r_callV C (d' := 0) [] (c_X10_slotCount (Ω := (S, o)) hW rfl rfl) myX10_slotCount wm5_8 ⟨_, _, _, _, (hW.ok k7), rfl, rfl, rfl, rfl⟩ rfl (kR rfl) (by decide) (kR rfl) rfl dL_acts_2 ?_ 
  obtain ⟨z1, hF⟩ := dz_e hF
  refine r_irem C z1 dL_acts_5 ?_
  refine r_istore C (lo' := [(5, .int (a2 - a2 / (F_X10_slotCount S) * (F_X10_slotCount S))), (0, .ref (wAd w (7, 11, 6, 0))), (1, .int 6), (2, .int a2), (3, .int a3), (4, .int a4)]) (by decide) rfl dL_acts_6 ?_
  refine r_aload_n C (k := 1) rfl rfl dL_acts_8 ?_
  obtain ⟨v2, hv2, hF⟩ := ob1_e hF
  refine r_callV C (d' := 2) [] (c_X10_twigCount (Ω := (S, o)) hW rfl N hv2) myX10_twigCount wm5_146 ⟨_, _, _, _, (hW.ok k7), rfl, rfl, rfl, rfl⟩ rfl (kR rfl) (by decide) (kR rfl) rfl dL_acts_9 ?_ 
  refine r_istore C (lo' := [(6, .int v2), (5, .int (a2 - a2 / (F_X10_slotCount S) * (F_X10_slotCount S))), (0, .ref (wAd w (7, 11, 6, 0))), (1, .int 6), (2, .int a2), (3, .int a3), (4, .int a4)]) (by decide) rfl dL_acts_12 ?_
  refine r_aload_n C (k := 2) rfl rfl dL_acts_14 ?_
  refine r_callV C (d' := 0) [] (c_X10_actionsLeft (Ω := (S, o)) hW rfl rfl) myX10_actionsLeft wm4_225 ⟨_, _, _, _, (hW.ok k7), rfl, rfl, rfl, rfl⟩ rfl (kR rfl) (by decide) (kR rfl) rfl dL_acts_15 ?_ 
  refine r_istore C (lo' := [(7, .int (F_X10_actionsLeft S)), (6, .int v2), (5, .int (a2 - a2 / (F_X10_slotCount S) * (F_X10_slotCount S))), (0, .ref (wAd w (7, 11, 6, 0))), (1, .int 6), (2, .int a2), (3, .int a3), (4, .int a4)]) (by decide) rfl dL_acts_18 ?_
  refine r_iload_n C (k := 4) rfl rfl dL_acts_20 ?_
  refine r_tabIn C (v := 6) (tgt := 484) (off := 463) rfl dL_acts_21 (by decide) (by decide) (by decide) (by decide) ?_
  refine r_iload_n C (k := 5) rfl rfl dL_acts_484 ?_
  refine r_iconst C (v := 2) rfl dL_acts_485 ?_
  refine r_irem C (by decide) dL_acts_486 ?_
  refine r_istore C (lo' := [(8, .int (a2 - a2 / 2 * 2)), (7, .int (F_X10_actionsLeft S)), (6, .int v2), (5, .int (a2 - a2 / (F_X10_slotCount S) * (F_X10_slotCount S))), (0, .ref (wAd w (7, 11, 6, 0))), (1, .int 6), (2, .int a2), (3, .int a3), (4, .int a4)]) (by decide) rfl dL_acts_487 ?_
  refine r_aload_n C (k := 4) rfl rfl dL_acts_489 ?_
  refine r_iload C (k := 0) rfl dL_acts_490 ?_
  obtain ⟨v3, hv3, hF⟩ := ob1_e hF
  refine r_callV C (d' := 7) [.int (a2 - a2 / 2 * 2)] (c_X10_pendingCount (Ω := (S, o)) hW hS rfl (a2 - a2 / 2 * 2) (okI_e hv3)) myX10_pendingCount wm5_36 ⟨_, _, _, _, (hW.ok k7), rfl, rfl, rfl, rfl⟩ rfl (kR rfl) (by decide) (kR rfl) rfl dL_acts_492 ?_ 
  refine r_istore C (lo' := [(9, .int v3), (8, .int (a2 - a2 / 2 * 2)), (7, .int (F_X10_actionsLeft S)), (6, .int v2), (5, .int (a2 - a2 / (F_X10_slotCount S) * (F_X10_slotCount S))), (0, .ref (wAd w (7, 11, 6, 0))), (1, .int 6), (2, .int a2), (3, .int a3), (4, .int a4)]) (by decide) rfl dL_acts_495 ?_
  obtain ⟨e1, e2⟩ := Prod.mk.inj (Option.some.inj hF)
  rw [← e1, ← e2] at kk
  refine r_lo [5, 8, 1, 0] (lo' := [(0, .ref (wAd w (7, 11, 6, 0))), (3, .int a3), (8, .int (a2 - a2 / 2 * 2)), (9, .int v3)]) rfl ?_
  exact kk
theorem c_acts_h7 {w : WP} (hW : gW w) (hS : gS w) {S : SS} {o : HV × CT} (N : Nat) (a2 a3 a4 : Int32) {g pd : Int32} (hF : F_acts_h N a2 S = some (g, pd)) {X : CX} (C : gC w X cL_acts "HedgeMessagesLaw" (some .boolean) 10 12) {F0 : State → Prop} (kk : gU w X (F0, 0, 0) (cA w (S, o)) 497 [(0, .ref (wAd w (7, 11, 6, 0))), (3, .int a3), (8, .int g), (9, .int pd)] []) : gU w X (F0, 0, 0) (cA w (S, o)) 0 [(0, .ref (wAd w (7, 11, 6, 0))), (1, .int 7), (2, .int a2), (3, .int a3), (4, .int a4)] [] := by
  unfold F_acts_h at hF
  refine r_iload_n C (k := 2) rfl rfl dL_acts_0 ?_
  refine r_aload_n C (k := 0) rfl rfl dL_acts_1 ?_
  refine r_callV C (d' := 0) [] (c_X10_slotCount (Ω := (S, o)) hW rfl rfl) myX10_slotCount wm5_8 ⟨_, _, _, _, (hW.ok k7), rfl, rfl, rfl, rfl⟩ rfl (kR rfl) (by decide) (kR rfl) rfl dL_acts_2 ?_ 
  obtain ⟨z1, hF⟩ := dz_e hF
  refine r_irem C z1 dL_acts_5 ?_
  refine r_istore C (lo' := [(5, .int (a2 - a2 / (F_X10_slotCount S) * (F_X10_slotCount S))), (0, .ref (wAd w (7, 11, 6, 0))), (1, .int 7), (2, .int a2), (3, .int a3), (4, .int a4)]) (by decide) rfl dL_acts_6 ?_
  refine r_aload_n C (k := 1) rfl rfl dL_acts_8 ?_
  obtain ⟨v2, hv2, hF⟩ := ob1_e hF
  refine r_callV C (d' := 2) [] (c_X10_twigCount (Ω := (S, o)) hW rfl N hv2) myX10_twigCount wm5_146 ⟨_, _, _, _, (hW.ok k7), rfl, rfl, rfl, rfl⟩ rfl (kR rfl) (by decide) (kR rfl) rfl dL_acts_9 ?_ 
  refine r_istore C (lo' := [(6, .int v2), (5, .int (a2 - a2 / (F_X10_slotCount S) * (F_X10_slotCount S))), (0, .ref (wAd w (7, 11, 6, 0))), (1, .int 7), (2, .int a2), (3, .int a3), (4, .int a4)]) (by decide) rfl dL_acts_12 ?_
  refine r_aload_n C (k := 2) rfl rfl dL_acts_14 ?_
  refine r_callV C (d' := 0) [] (c_X10_actionsLeft (Ω := (S, o)) hW rfl rfl) myX10_actionsLeft wm4_225 ⟨_, _, _, _, (hW.ok k7), rfl, rfl, rfl, rfl⟩ rfl (kR rfl) (by decide) (kR rfl) rfl dL_acts_15 ?_ 
  refine r_istore C (lo' := [(7, .int (F_X10_actionsLeft S)), (6, .int v2), (5, .int (a2 - a2 / (F_X10_slotCount S) * (F_X10_slotCount S))), (0, .ref (wAd w (7, 11, 6, 0))), (1, .int 7), (2, .int a2), (3, .int a3), (4, .int a4)]) (by decide) rfl dL_acts_18 ?_
  refine r_iload_n C (k := 4) rfl rfl dL_acts_20 ?_
  refine r_tabIn C (v := 7) (tgt := 484) (off := 463) rfl dL_acts_21 (by decide) (by decide) (by decide) (by decide) ?_
  refine r_iload_n C (k := 5) rfl rfl dL_acts_484 ?_
  refine r_iconst C (v := 2) rfl dL_acts_485 ?_
  refine r_irem C (by decide) dL_acts_486 ?_
  refine r_istore C (lo' := [(8, .int (a2 - a2 / 2 * 2)), (7, .int (F_X10_actionsLeft S)), (6, .int v2), (5, .int (a2 - a2 / (F_X10_slotCount S) * (F_X10_slotCount S))), (0, .ref (wAd w (7, 11, 6, 0))), (1, .int 7), (2, .int a2), (3, .int a3), (4, .int a4)]) (by decide) rfl dL_acts_487 ?_
  refine r_aload_n C (k := 4) rfl rfl dL_acts_489 ?_
  refine r_iload C (k := 0) rfl dL_acts_490 ?_
  obtain ⟨v3, hv3, hF⟩ := ob1_e hF
  refine r_callV C (d' := 7) [.int (a2 - a2 / 2 * 2)] (c_X10_pendingCount (Ω := (S, o)) hW hS rfl (a2 - a2 / 2 * 2) (okI_e hv3)) myX10_pendingCount wm5_36 ⟨_, _, _, _, (hW.ok k7), rfl, rfl, rfl, rfl⟩ rfl (kR rfl) (by decide) (kR rfl) rfl dL_acts_492 ?_ 
  refine r_istore C (lo' := [(9, .int v3), (8, .int (a2 - a2 / 2 * 2)), (7, .int (F_X10_actionsLeft S)), (6, .int v2), (5, .int (a2 - a2 / (F_X10_slotCount S) * (F_X10_slotCount S))), (0, .ref (wAd w (7, 11, 6, 0))), (1, .int 7), (2, .int a2), (3, .int a3), (4, .int a4)]) (by decide) rfl dL_acts_495 ?_
  obtain ⟨e1, e2⟩ := Prod.mk.inj (Option.some.inj hF)
  rw [← e1, ← e2] at kk
  refine r_lo [5, 8, 1, 0] (lo' := [(0, .ref (wAd w (7, 11, 6, 0))), (3, .int a3), (8, .int (a2 - a2 / 2 * 2)), (9, .int v3)]) rfl ?_
  exact kk

def F_acts_t (N : Nat) (a3 g pd cq : Int32) (S : SS) : Option (Bool × SS) := (ob1 (fdR (F_X10_queueMessage N g S)) fun r1 => (ob1 (okI (F_X10_truncate 0 r1.2)) fun r2 => (if r2.1 = 0 then (om (if pd = 8 then (if r1.1 = (-3) then some (.inl ()) else some (.inr false)) else (if r1.1 = (pd + 1) then (ob1 (okI (F_X10_pendingLetter g pd (a3 - a3 / 5 * 5) r2.2)) fun v4 => (if v4 = cq then (ob1 (okI (F_X10_pendingLetter g pd ((a3 - a3 / 5 * 5) + 1) r2.2)) fun v5 => (if v5 = (-1) then some (.inl ()) else some (.inr false))) else some (.inr false))) else some (.inr false))) (fun r => some (r, r2.2)) (fun _ => some (true, r2.2))) else some (false, r2.2))))
theorem c_acts_t {w : WP} (hW : gW w) (hS : gS w) (hZ : gZ w) {S : SS} {o : HV × CT} (N : Nat) (a3 g pd cq : Int32) {v : Bool} {S' : SS} (hF : F_acts_t N a3 g pd cq S = some (v, S')) {X : CX} (C : gC w X cL_acts "HedgeMessagesLaw" (some .boolean) 10 12) (hD : gD w) {F0 : State → Prop} {c9 s9 : Nat} (hq0 : qOk X (F0, c9, s9)) (hq1 : qOk X (F0, c9 + 1, s9 + 6)) {iB iC : ID} {T : List Nat} {L b kq : Nat} (hIn : sbIn w (cA w (S, o)) iB iC T L) (hk31 : 30 ≤ iB.1) (hk30 : 30 ≤ iC.1) (hb : wAd w iB = b) (hasc : ∀ c ∈ T, c < 128) (hkq : kq < T.length) (hyk : a3 - a3 / 5 * 5 = nI kq) (hcq : cq = nI (T.getD kq 0)) (kk : gU w X (F0, c9 + 1, s9 + 6) (cA w (S', o)) 642 [] [.int (b2i v)]) : gU w X (F0, c9, s9) (cA w (S, o)) 554 [(0, .ref (wAd w (7, 11, 6, 0))), (3, .int a3), (8, .int g), (9, .int pd), (10, .ref b)] [] := by
  unfold F_acts_t at hF
  refine r_aload_n C (k := 0) rfl rfl dL_acts_554 ?_
  refine r_iconst C (v := 4) rfl dL_acts_555 ?_
  refine r_iload C (k := 2) rfl dL_acts_556 ?_
  refine r_iconst C (v := 0) rfl dL_acts_558 ?_
  obtain ⟨r1, hr1, hF⟩ := ob1_e hF
  refine r_callH C (d' := 8) [.ref (wAd w (7, 11, 6, 0)), .int 4, .int g, .int 0] (ny := 4) (c_does_4 (S' := r1.2) (v := r1.1) hW hS hZ N g 0 hr1) cwL_does rfl wm1_0 wm3_194 ⟨by decide, by decide, by decide +kernel⟩ wm3_193 rfl (by decide) (kR rfl) (kR rfl) rfl dL_acts_559 hq1 ?_
  refine r_istore C (lo' := [(11, .int r1.1), (0, .ref (wAd w (7, 11, 6, 0))), (3, .int a3), (8, .int g), (9, .int pd), (10, .ref b)]) (by decide) rfl dL_acts_562 ?_
  refine r_aload_n C (k := 1) rfl rfl dL_acts_564 ?_
  refine r_iconst C (v := 0) rfl dL_acts_565 ?_
  obtain ⟨r2, hr2, hF⟩ := ob1_e hF
  refine r_callV C (d' := 6) [.int 0] (c_X10_truncate (Ω := (r1.2, o)) hW hS rfl 0 (v := r2.1) (S' := r2.2) (okI_e hr2) rfl) myX10_truncate wm3_74 ⟨_, _, _, _, (hW.ok k7), rfl, rfl, rfl, rfl⟩ rfl (kR rfl) (by decide) (kR rfl) rfl dL_acts_566 ?_ hq1
  refine r_if_ne C (tgt := 641) rfl dL_acts_569 (fun hc => ?_) (fun hc => ?_)
  · rw [if_neg hc] at hF
    refine r_iconst C (v := 0) rfl dL_acts_641 ?_
    cases hF
    refine r_lo [] (lo' := []) rfl ?_
    exact kk
  · rw [if_pos hc] at hF
    refine r_iload C (k := 4) rfl dL_acts_572 ?_
    refine r_bipush C (v := 8) rfl dL_acts_574 ?_
    obtain ⟨q3, hq3, hF⟩ := om_e hF
    have kq3 : ∀ a : Unit, q3 = .inl a → gU w X (F0, c9 + 1, s9 + 6) (cA w (r2.2, o)) 637 [] [] := by
      rintro ⟨⟩ ha
      subst ha
      dsimp only [Sum.elim_inl] at hF
      refine r_iconst C (v := 1) rfl dL_acts_637 ?_
      refine r_goto C (tgt := 642) rfl dL_acts_638 ?_
      cases hF
      refine r_lo [] (lo' := []) rfl ?_
      exact kk
    refine r_icmp_ne C (tgt := 589) rfl dL_acts_576 (fun hc => ?_) (fun hc => ?_)
    · rw [if_neg hc] at hq3
      refine r_iload C (k := 0) rfl dL_acts_589 ?_
      refine r_iload C (k := 4) rfl dL_acts_591 ?_
      refine r_iconst C (v := 1) rfl dL_acts_593 ?_
      refine r_iadd C dL_acts_594 ?_
      refine r_icmp_ne C (tgt := 641) rfl dL_acts_595 (fun hc => ?_) (fun hc => ?_)
      · rw [if_neg hc] at hq3
        refine r_iconst C (v := 0) rfl dL_acts_641 ?_
        cases hq3
        change some _ = some _ at hF
        cases hF
        refine r_lo [] (lo' := []) rfl ?_
        exact kk
      · rw [if_pos hc] at hq3
        refine r_aload_n C (k := 1) rfl rfl dL_acts_598 ?_
        refine r_iload C (k := 3) rfl dL_acts_599 ?_
        refine r_iload C (k := 4) rfl dL_acts_601 ?_
        refine r_iload_n C (k := 2) rfl rfl dL_acts_603 ?_
        refine r_iconst C (v := 5) rfl dL_acts_604 ?_
        refine r_irem C (by decide) dL_acts_605 ?_
        obtain ⟨v4, hv4, hq3⟩ := ob1_e hq3
        refine r_callV C (d' := 7) [.int g, .int pd, .int (a3 - a3 / 5 * 5)] (c_X10_pendingLetter (Ω := (r2.2, o)) hW hS rfl g pd (a3 - a3 / 5 * 5) (okI_e hv4)) myX10_pendingLetter wm5_73 ⟨_, _, _, _, (hW.ok k7), rfl, rfl, rfl, rfl⟩ rfl (kR rfl) (by decide) (kR rfl) rfl dL_acts_606 ?_ hq1
        refine r_aload C (k := 5) rfl dL_acts_609 ?_
        refine r_iload_n C (k := 2) rfl rfl dL_acts_611 ?_
        refine r_iconst C (v := 5) rfl dL_acts_612 ?_
        refine r_irem C (by decide) dL_acts_613 ?_
        refine r_callB C (d' := 3) [.int (nI kq)] (c_sbCh hS hD (hIn.S (S' := r2.2) (by omega) (by omega)) hb hasc hkq) mbJ4_charAt_5068e (sel_tbl C wm6_221 rfl) wm6_219 (recB (hD.2.1 _ hIn.1) hb (hIn.S (S' := r2.2) (by omega) (by omega)).2.2.2.1) rfl (kR rfl) (by decide) (kR rfl) (by rw [hyk] <;> rfl) dL_acts_614 ?_ hq1
        refine r_st (st' := [.int cq, .int v4]) (by rw [← hcq] <;> rfl) ?_
        refine r_icmp_ne C (tgt := 641) rfl dL_acts_617 (fun hc => ?_) (fun hc => ?_)
        · rw [if_neg hc] at hq3
          refine r_iconst C (v := 0) rfl dL_acts_641 ?_
          cases hq3
          change some _ = some _ at hF
          cases hF
          refine r_lo [] (lo' := []) rfl ?_
          exact kk
        · rw [if_pos hc] at hq3
          refine r_aload_n C (k := 1) rfl rfl dL_acts_620 ?_
          refine r_iload C (k := 3) rfl dL_acts_621 ?_
          refine r_iload C (k := 4) rfl dL_acts_623 ?_
          refine r_iload_n C (k := 2) rfl rfl dL_acts_625 ?_
          refine r_iconst C (v := 5) rfl dL_acts_626 ?_
          refine r_irem C (by decide) dL_acts_627 ?_
          refine r_iconst C (v := 1) rfl dL_acts_628 ?_
          refine r_iadd C dL_acts_629 ?_
          obtain ⟨v5, hv5, hq3⟩ := ob1_e hq3
          refine r_callV C (d' := 7) [.int g, .int pd, .int ((a3 - a3 / 5 * 5) + 1)] (c_X10_pendingLetter (Ω := (r2.2, o)) hW hS rfl g pd ((a3 - a3 / 5 * 5) + 1) (okI_e hv5)) myX10_pendingLetter wm5_73 ⟨_, _, _, _, (hW.ok k7), rfl, rfl, rfl, rfl⟩ rfl (kR rfl) (by decide) (kR rfl) rfl dL_acts_630 ?_ hq1
          refine r_iconst C (v := (-1)) (by decide) dL_acts_633 ?_
          refine r_icmp_ne C (tgt := 641) rfl dL_acts_634 (fun hc => ?_) (fun hc => ?_)
          · rw [if_neg hc] at hq3
            refine r_iconst C (v := 0) rfl dL_acts_641 ?_
            cases hq3
            change some _ = some _ at hF
            cases hF
            refine r_lo [] (lo' := []) rfl ?_
            exact kk
          · rw [if_pos hc] at hq3
            cases hq3
            refine r_lo [] (lo' := []) rfl ?_
            exact kq3 _ rfl
    · rw [if_pos hc] at hq3
      refine r_iload C (k := 0) rfl dL_acts_579 ?_
      refine r_bipush C (v := (-3)) (by decide) dL_acts_581 ?_
      refine r_icmp_ne C (tgt := 641) rfl dL_acts_583 (fun hc => ?_) (fun hc => ?_)
      · rw [if_neg hc] at hq3
        refine r_iconst C (v := 0) rfl dL_acts_641 ?_
        cases hq3
        change some _ = some _ at hF
        cases hF
        refine r_lo [] (lo' := []) rfl ?_
        exact kk
      · rw [if_pos hc] at hq3
        refine r_goto C (tgt := 637) rfl dL_acts_586 ?_
        cases hq3
        refine r_lo [] (lo' := []) rfl ?_
        exact kq3 _ rfl
theorem cA_z9 {w : WP} {S : SS} {o : HV × CT} {c : CT} {z : ID} (h : 11 ≤ z.1 → c z = o.2 z) : cA w (S, (o.1, c)) z = cA w (S, o) z := by
  obtain ⟨k, j, p, a⟩ := z
  match k, h with
  | 0, _ => rfl
  | 1, _ => rfl
  | 2, _ => rfl
  | 3, _ => rfl
  | 4, _ => rfl
  | 5, _ => rfl
  | 6, _ => rfl
  | 7, _ => rfl
  | 8, _ => rfl
  | 9, _ => rfl
  | 10, _ => rfl
  | n + 11, h => exact h (by show 11 ≤ n + 11; omega)
theorem c_acts_6 {w : WP} (hW : gW w) (hS : gS w) (hZ : gZ w) (hY : gY w) (hfr : ∀ z : ID, 30 ≤ z.1 → ¬ wOk w z) {S S1 : SS} {o : HV × CT} (N : Nat) (a2 a4 : Int32) {yn : Nat} (hyn : yn < 100000) {g pd : Int32} {v : Bool} {S' : SS} (hF0 : F_acts_h N a2 S = some (g, pd)) (hF1 : F_comes (wlk yn (yn % 5 + 1)) 2 0 S = some S1) (hF2 : F_acts_t N (nI yn) g pd (nI ((wlk yn (yn % 5 + 1)).getD (yn % 5) 0)) S1 = some (v, S')) : gMg w 10 yL_acts cL_acts 12 (some .boolean) [.ref (wAd w (7, 11, 6, 0)), .int 6, .int a2, .int (nI yn), .int a4] (cA w (S, o)) (some (.int (b2i v))) (cA w (S', o)) 20 8000 := by
  refine gMg_of "HedgeMessagesLaw" rfl (by decide) (kR rfl) fun X C hT => ?_
  show gU w X _ _ 0 [(0, .ref (wAd w (7, 11, 6, 0))), (1, .int 6), (2, .int a2), (3, .int (nI yn)), (4, .int a4)] []
  refine c_acts_h6 hW hS N a2 (nI yn) a4 hF0 C ?_
  have C0 := C
  refine r_new C FJ4 wm5_233 rfl wm5_234 wm1_3 (31, 0, 0, 0) (hfr _ (by decide)) (fs := [.null, .int 0, .int 0, .int 0]) (fun j hj => by match j, hj with | 0, _ => rfl | 1, _ => rfl | 2, _ => rfl | 3, _ => rfl) dL_acts_497 (hT.q (show 0 + 1 ≤ 20 by decide) (show 0 + 4 ≤ 8000 by decide)) fun b hag hbh C1 => ?_
  have hb1 : adU w (31, 0, 0, 0) b (31, 0, 0, 0) = b := if_pos rfl
  have hI1 : ∀ z, one (31, 0, 0, 0) z → 30 ≤ z.1 := fun z hz => by rw [show z = (31, 0, 0, 0) from hz]; decide
  have hD1 := gD_C C1
  have hS1 := gS_N hS hag hI1
  have hn1 : ∀ z : ID, 30 ≤ z.1 → z ≠ (31, 0, 0, 0) → ¬ wOk (wM w (one (31, 0, 0, 0)) (adU w (31, 0, 0, 0) b)) z := fun z h1 h2 h3 => h3.elim (hfr z h1) h2
  refine r_dup C1 rfl dL_acts_500 ?_
  refine r_geI C1 (d' := 2) [] (c_sbN hS1 hY hD1 (iB := (31, 0, 0, 0)) (iV := (30, 0, 0, 0)) (Or.inr rfl) hb1 upE_s (hn1 _ (by decide) (by decide))) miJ4_init_da8c8 wm5_235 rfl (kR rfl) (by decide) (kR rfl) rfl dL_acts_501 (hT.q (show 0 + 1 + 1 ≤ 20 by decide) (show 0 + 4 + 1000 ≤ 8000 by decide)) ?_
  rintro I2 ad2 v2 ct2 ⟨rfl, rfl, hIn2, hf2⟩ hag2 hbh2 C2
  rw [wM_M] at C2 hIn2 ⊢
  show gU (wM w _ ad2) X (_, 2, 1004) ct2 504 [(0, .ref (wAd w (7, 11, 6, 0))), (3, .int (nI yn)), (8, .int g), (9, .int pd)] [.ref b]
  refine r_astore C2 (lo' := [(10, .ref b), (0, .ref (wAd w (7, 11, 6, 0))), (3, .int (nI yn)), (8, .int g), (9, .int pd)]) (by decide) rfl dL_acts_504 ?_
  refine r_iconst C2 (v := 0) rfl dL_acts_506 ?_
  refine r_istore C2 (lo' := [(11, .int 0), (10, .ref b), (0, .ref (wAd w (7, 11, 6, 0))), (3, .int (nI yn)), (8, .int g), (9, .int pd)]) (by decide) rfl dL_acts_507 ?_
  refine r_lo [2, 3, 4, 5, 1, 0] (lo' := [(0, .ref (wAd w (7, 11, 6, 0))), (3, .int (nI yn)), (8, .int g), (9, .int pd), (10, .ref b), (11, .int 0)]) rfl ?_
  refine r_wid (c' := 2) (s' := 1004) (Nat.le_refl _) (Nat.le_refl _) ?_
  refine la_w hS hY (ct0 := cA w (S, o)) (cE := 2 + (yn % 5 + 1)) (sE := 1004 + 1000 * (yn % 5 + 1)) hyn ?_ (yn % 5 + 1) 0 _ ad2 ct2 2 1004 (Nat.zero_add _) ⟨gAg_M hag hag2, gBh_M hbh hag2 hbh2, C2, ?_, ?_, (hag2.1 _ (Or.inr rfl)).trans hb1, by decide, (30, 0, 0, 0), 16, rfl, hIn2⟩ (fun z h1 h2 => ?_) (W0 := fun z => wOk w z ∨ z = (31, 0, 0, 0)) (fun z h1 h2 => ?_) (hT.q (by show 2 + (yn % 5 + 1) ≤ 20; omega) (by show 1004 + 1000 * (yn % 5 + 1) ≤ 8000; omega)) rfl rfl
  rotate_left
  · rintro z (hz | hz)
    · exact hI1 z hz
    · rw [show z = (30, 0, 0, 0) from hz]; decide
  · rintro m hm (hz | hz | hz)
    · exact hfr _ (Nat.le_refl 30) hz
    · cases hz
    · have h9 : m = 0 := congrArg (fun z : ID => z.2.1) hz
      omega
  · rw [hf2 z h2 (fun e => h1 (by rw [e])), upE_n h2]
  · rcases h2 with h2 | h2 | h2
    · exact Or.inl h2
    · exact Or.inr h2
    · exact absurd (by rw [show z = (30, 0, 0, 0) from h2]) h1
  intro I ad ct hTB hfc hw0
  obtain ⟨hag, hbh, C, hI, hfr2, hb, -, iC, L, hC, hIn⟩ := hTB
  have hS3 := gS_N hS hag hI
  have hD3 := gD_C C
  have hW3 := gW_N hW hI hD3
  have h7 : ad (7, 11, 6, 0) = wAd w (7, 11, 6, 0) := hag.2 _ (fun z => by have := hI _ z; simp at this)
  refine r_aload_n C (k := 0) rfl rfl dL_acts_545 ?_
  refine r_aload C (k := 4) rfl dL_acts_546 ?_
  have hok : ∀ z : ID, 30 ≤ z.1 → z.1 ≠ 30 → z ≠ (31, 0, 0, 0) → ¬ wOk (wM w I ad) z := fun z h1 h2 h3 h4 => (hw0 z h2 h4).elim (hfr z h1) h3
  refine r_geV C (d' := 5) [] (c_toS hS3 hY hD3 hIn hb wlk_lt (iS := (33, 0, 0, 0)) (iX := (33, 1, 0, 0)) (hok _ (by decide) (by decide) (by decide)) (hok _ (by decide) (by decide) (by decide)) (by decide) (by decide)) mbJ4_toString_0e30d (sel_tbl C wm6_94 rfl) wm6_92 (recB (hD3.2.1 _ hIn.1) hb hIn.2.2.2.1) rfl (kR rfl) (by decide) (kR rfl) rfl dL_acts_548 (hT.q (by show 2 + (yn % 5 + 1) + 2 ≤ 20; omega) (by show 1004 + 1000 * (yn % 5 + 1) + 1004 ≤ 8000; omega)) ?_
  rintro I4 ad4 v4 ct4 ⟨rfl, rfl, hst4, hf4⟩ hag4 hbh4 C4
  show gU (wM (wM w I ad) _ ad4) X (_, 2 + (yn % 5 + 1) + 2, 1004 + 1000 * (yn % 5 + 1) + 1004) ct4 551 [(0, .ref (wAd w (7, 11, 6, 0))), (3, .int (nI yn)), (8, .int g), (9, .int pd), (10, .ref b)] [.ref (ad4 (33, 0, 0, 0)), .ref (wAd w (7, 11, 6, 0))]
  have hI4 : ∀ z, (one (33, 0, 0, 0) z ∨ one (33, 1, 0, 0) z) → 30 ≤ z.1 := by
    rintro z (hz | hz)
    · rw [show z = (33, 0, 0, 0) from hz]; decide
    · rw [show z = (33, 1, 0, 0) from hz]; decide
  have hS5 := gS_N hS3 hag4 hI4
  have hD5 := gD_C C4
  have hW5 := gW_N hW3 hI4 hD5
  have h75 : wAd (wM (wM w I ad) (fun z => one (33, 0, 0, 0) z ∨ one (33, 1, 0, 0) z) ad4) (7, 11, 6, 0) = wAd w (7, 11, 6, 0) := (hag4.2 _ (fun z => by have := hI4 _ z; simp at this)).trans h7
  have hin5 : sbIn (wM (wM w I ad) _ ad4) ct4 (31, 0, 0, 0) iC (wlk yn (yn % 5 + 1)) L := hIn.m hD3 hag4 (hf4 _ (by decide) (by decide)) (hf4 _ (fun e => by rw [e] at hC; exact absurd hC (by decide)) (fun e => by rw [e] at hC; exact absurd hC (by decide)))
  have hb5 : ad4 (31, 0, 0, 0) = b := (hag4.1 _ (hD3.2.1 _ hIn.1)).trans hb
  have hct : ct4 = cA (wM (wM w I ad) _ ad4) (S, o.1, ct4) := cA_fr (Ω := (S, o)) (fun z hz => by
    rw [cA_N hag4 hI4, cA_N hag hI, hf4 z (fun e => by rw [e] at hz; exact absurd hz (by decide)) (fun e => by rw [e] at hz; exact absurd hz (by decide)), hfc z (by omega) (fun e => by rw [e] at hz; exact absurd hz (by decide))])
  rw [hct] at hst4 hin5 ⊢
  have hcm := c_comes (w := wM (wM w I ad) _ ad4) (iN := (34, 0, 0, 0)) (s := ad4 (33, 0, 0, 0)) hW5 hS5 hY rfl (by decide) (by decide) (fun h => h.elim (hok _ (by decide) (by decide) (by decide)) (fun h => h.elim (fun h => by cases h) (fun h => by cases h))) (by decide) 2 hF1 hst4
  rw [h75] at hcm
  have C := C4
  refine r_ggS C (d' := 7) [.ref (wAd w (7, 11, 6, 0)), .ref (ad4 (33, 0, 0, 0))] hcm myL_comes wm3_59 rfl (kR rfl) (by decide) (kR rfl) rfl dL_acts_551 (hT.q (by show 2 + (yn % 5 + 1) + 2 + 2 ≤ 20; omega) (by show 1004 + 1000 * (yn % 5 + 1) + 1004 + 5 * 2 ≤ 8000; omega)) ?_
  have hin6 := hin5.S (S' := S1) (by decide) (by rw [hC]; decide)
  have ht := c_acts_t (w := wM (wM w I ad) _ ad4) (o := (o.1, ct4)) hW5 hS5 hZ N (nI yn) g pd (nI ((wlk yn (yn % 5 + 1)).getD (yn % 5) 0)) hF2 C hD5 (F0 := qH1 w X (some (.int (b2i v)), cA w (S', o)) 20 8000) (c9 := 2 + (yn % 5 + 1) + 2 + 2) (s9 := 1004 + 1000 * (yn % 5 + 1) + 1004 + 5 * 2) (hT.q (by omega) (by omega)) (hT.q (by omega) (by omega)) hin6 (by decide) (by rw [hC]; decide) hb5 wlk_lt (kq := yn % 5) (by rw [wlk_len]; omega) (pk_rem (d := 5) (a := yn) (by omega) (by decide) (by decide)) rfl ?_
  · rw [h75] at ht
    exact ht
  refine r_forget hag4 ?_
  refine r_forget hag ?_
  rw [cA_N hag4 hI4, cA_N hag hI]
  refine r_same (ct' := cA w (S', o)) (fun z hz => ?_) ?_
  · rcases Nat.lt_or_ge z.1 30 with h9 | h9
    · have e4 : ct4 z = cA w (S, o) z := by rw [hf4 z (fun e => by rw [e] at h9; exact absurd h9 (by decide)) (fun e => by rw [e] at h9; exact absurd h9 (by decide)), hfc z (by omega) (fun e => by rw [e] at h9; exact absurd h9 (by decide))]
      exact cA_z9 (fun h11 => by rw [e4, cA_m h11])
    · exact absurd hz (hfr z h9)
  refine r_wid (c' := 20) (s' := 8000) (by omega) (by omega) ?_
  have C := C0
  exact r_hzreturn C v rfl dL_acts_642
theorem c_acts_7 {w : WP} (hW : gW w) (hS : gS w) (hZ : gZ w) (hY : gY w) (hfr : ∀ z : ID, 30 ≤ z.1 → ¬ wOk w z) {S S1 : SS} {o : HV × CT} (N : Nat) (a2 a4 : Int32) {yn : Nat} (hyn : yn < 100000) {g pd : Int32} {v : Bool} {S' : SS} (hF0 : F_acts_h N a2 S = some (g, pd)) (hF1 : F_comes (wlk yn (yn % 5 + 1)) 2 0 S = some S1) (hF2 : F_acts_t N (nI yn) g pd (nI ((wlk yn (yn % 5 + 1)).getD (yn % 5) 0)) S1 = some (v, S')) : gMg w 10 yL_acts cL_acts 12 (some .boolean) [.ref (wAd w (7, 11, 6, 0)), .int 7, .int a2, .int (nI yn), .int a4] (cA w (S, o)) (some (.int (b2i v))) (cA w (S', o)) 20 8000 := by
  refine gMg_of "HedgeMessagesLaw" rfl (by decide) (kR rfl) fun X C hT => ?_
  show gU w X _ _ 0 [(0, .ref (wAd w (7, 11, 6, 0))), (1, .int 7), (2, .int a2), (3, .int (nI yn)), (4, .int a4)] []
  refine c_acts_h7 hW hS N a2 (nI yn) a4 hF0 C ?_
  have C0 := C
  refine r_new C FJ4 wm5_233 rfl wm5_234 wm1_3 (31, 0, 0, 0) (hfr _ (by decide)) (fs := [.null, .int 0, .int 0, .int 0]) (fun j hj => by match j, hj with | 0, _ => rfl | 1, _ => rfl | 2, _ => rfl | 3, _ => rfl) dL_acts_497 (hT.q (show 0 + 1 ≤ 20 by decide) (show 0 + 4 ≤ 8000 by decide)) fun b hag hbh C1 => ?_
  have hb1 : adU w (31, 0, 0, 0) b (31, 0, 0, 0) = b := if_pos rfl
  have hI1 : ∀ z, one (31, 0, 0, 0) z → 30 ≤ z.1 := fun z hz => by rw [show z = (31, 0, 0, 0) from hz]; decide
  have hD1 := gD_C C1
  have hS1 := gS_N hS hag hI1
  have hn1 : ∀ z : ID, 30 ≤ z.1 → z ≠ (31, 0, 0, 0) → ¬ wOk (wM w (one (31, 0, 0, 0)) (adU w (31, 0, 0, 0) b)) z := fun z h1 h2 h3 => h3.elim (hfr z h1) h2
  refine r_dup C1 rfl dL_acts_500 ?_
  refine r_geI C1 (d' := 2) [] (c_sbN hS1 hY hD1 (iB := (31, 0, 0, 0)) (iV := (30, 0, 0, 0)) (Or.inr rfl) hb1 upE_s (hn1 _ (by decide) (by decide))) miJ4_init_da8c8 wm5_235 rfl (kR rfl) (by decide) (kR rfl) rfl dL_acts_501 (hT.q (show 0 + 1 + 1 ≤ 20 by decide) (show 0 + 4 + 1000 ≤ 8000 by decide)) ?_
  rintro I2 ad2 v2 ct2 ⟨rfl, rfl, hIn2, hf2⟩ hag2 hbh2 C2
  rw [wM_M] at C2 hIn2 ⊢
  show gU (wM w _ ad2) X (_, 2, 1004) ct2 504 [(0, .ref (wAd w (7, 11, 6, 0))), (3, .int (nI yn)), (8, .int g), (9, .int pd)] [.ref b]
  refine r_astore C2 (lo' := [(10, .ref b), (0, .ref (wAd w (7, 11, 6, 0))), (3, .int (nI yn)), (8, .int g), (9, .int pd)]) (by decide) rfl dL_acts_504 ?_
  refine r_iconst C2 (v := 0) rfl dL_acts_506 ?_
  refine r_istore C2 (lo' := [(11, .int 0), (10, .ref b), (0, .ref (wAd w (7, 11, 6, 0))), (3, .int (nI yn)), (8, .int g), (9, .int pd)]) (by decide) rfl dL_acts_507 ?_
  refine r_lo [2, 3, 4, 5, 1, 0] (lo' := [(0, .ref (wAd w (7, 11, 6, 0))), (3, .int (nI yn)), (8, .int g), (9, .int pd), (10, .ref b), (11, .int 0)]) rfl ?_
  refine r_wid (c' := 2) (s' := 1004) (Nat.le_refl _) (Nat.le_refl _) ?_
  refine la_w hS hY (ct0 := cA w (S, o)) (cE := 2 + (yn % 5 + 1)) (sE := 1004 + 1000 * (yn % 5 + 1)) hyn ?_ (yn % 5 + 1) 0 _ ad2 ct2 2 1004 (Nat.zero_add _) ⟨gAg_M hag hag2, gBh_M hbh hag2 hbh2, C2, ?_, ?_, (hag2.1 _ (Or.inr rfl)).trans hb1, by decide, (30, 0, 0, 0), 16, rfl, hIn2⟩ (fun z h1 h2 => ?_) (W0 := fun z => wOk w z ∨ z = (31, 0, 0, 0)) (fun z h1 h2 => ?_) (hT.q (by show 2 + (yn % 5 + 1) ≤ 20; omega) (by show 1004 + 1000 * (yn % 5 + 1) ≤ 8000; omega)) rfl rfl
  rotate_left
  · rintro z (hz | hz)
    · exact hI1 z hz
    · rw [show z = (30, 0, 0, 0) from hz]; decide
  · rintro m hm (hz | hz | hz)
    · exact hfr _ (Nat.le_refl 30) hz
    · cases hz
    · have h9 : m = 0 := congrArg (fun z : ID => z.2.1) hz
      omega
  · rw [hf2 z h2 (fun e => h1 (by rw [e])), upE_n h2]
  · rcases h2 with h2 | h2 | h2
    · exact Or.inl h2
    · exact Or.inr h2
    · exact absurd (by rw [show z = (30, 0, 0, 0) from h2]) h1
  intro I ad ct hTB hfc hw0
  obtain ⟨hag, hbh, C, hI, hfr2, hb, -, iC, L, hC, hIn⟩ := hTB
  have hS3 := gS_N hS hag hI
  have hD3 := gD_C C
  have hW3 := gW_N hW hI hD3
  have h7 : ad (7, 11, 6, 0) = wAd w (7, 11, 6, 0) := hag.2 _ (fun z => by have := hI _ z; simp at this)
  refine r_aload_n C (k := 0) rfl rfl dL_acts_545 ?_
  refine r_aload C (k := 4) rfl dL_acts_546 ?_
  have hok : ∀ z : ID, 30 ≤ z.1 → z.1 ≠ 30 → z ≠ (31, 0, 0, 0) → ¬ wOk (wM w I ad) z := fun z h1 h2 h3 h4 => (hw0 z h2 h4).elim (hfr z h1) h3
  refine r_geV C (d' := 5) [] (c_toS hS3 hY hD3 hIn hb wlk_lt (iS := (33, 0, 0, 0)) (iX := (33, 1, 0, 0)) (hok _ (by decide) (by decide) (by decide)) (hok _ (by decide) (by decide) (by decide)) (by decide) (by decide)) mbJ4_toString_0e30d (sel_tbl C wm6_94 rfl) wm6_92 (recB (hD3.2.1 _ hIn.1) hb hIn.2.2.2.1) rfl (kR rfl) (by decide) (kR rfl) rfl dL_acts_548 (hT.q (by show 2 + (yn % 5 + 1) + 2 ≤ 20; omega) (by show 1004 + 1000 * (yn % 5 + 1) + 1004 ≤ 8000; omega)) ?_
  rintro I4 ad4 v4 ct4 ⟨rfl, rfl, hst4, hf4⟩ hag4 hbh4 C4
  show gU (wM (wM w I ad) _ ad4) X (_, 2 + (yn % 5 + 1) + 2, 1004 + 1000 * (yn % 5 + 1) + 1004) ct4 551 [(0, .ref (wAd w (7, 11, 6, 0))), (3, .int (nI yn)), (8, .int g), (9, .int pd), (10, .ref b)] [.ref (ad4 (33, 0, 0, 0)), .ref (wAd w (7, 11, 6, 0))]
  have hI4 : ∀ z, (one (33, 0, 0, 0) z ∨ one (33, 1, 0, 0) z) → 30 ≤ z.1 := by
    rintro z (hz | hz)
    · rw [show z = (33, 0, 0, 0) from hz]; decide
    · rw [show z = (33, 1, 0, 0) from hz]; decide
  have hS5 := gS_N hS3 hag4 hI4
  have hD5 := gD_C C4
  have hW5 := gW_N hW3 hI4 hD5
  have h75 : wAd (wM (wM w I ad) (fun z => one (33, 0, 0, 0) z ∨ one (33, 1, 0, 0) z) ad4) (7, 11, 6, 0) = wAd w (7, 11, 6, 0) := (hag4.2 _ (fun z => by have := hI4 _ z; simp at this)).trans h7
  have hin5 : sbIn (wM (wM w I ad) _ ad4) ct4 (31, 0, 0, 0) iC (wlk yn (yn % 5 + 1)) L := hIn.m hD3 hag4 (hf4 _ (by decide) (by decide)) (hf4 _ (fun e => by rw [e] at hC; exact absurd hC (by decide)) (fun e => by rw [e] at hC; exact absurd hC (by decide)))
  have hb5 : ad4 (31, 0, 0, 0) = b := (hag4.1 _ (hD3.2.1 _ hIn.1)).trans hb
  have hct : ct4 = cA (wM (wM w I ad) _ ad4) (S, o.1, ct4) := cA_fr (Ω := (S, o)) (fun z hz => by
    rw [cA_N hag4 hI4, cA_N hag hI, hf4 z (fun e => by rw [e] at hz; exact absurd hz (by decide)) (fun e => by rw [e] at hz; exact absurd hz (by decide)), hfc z (by omega) (fun e => by rw [e] at hz; exact absurd hz (by decide))])
  rw [hct] at hst4 hin5 ⊢
  have hcm := c_comes (w := wM (wM w I ad) _ ad4) (iN := (34, 0, 0, 0)) (s := ad4 (33, 0, 0, 0)) hW5 hS5 hY rfl (by decide) (by decide) (fun h => h.elim (hok _ (by decide) (by decide) (by decide)) (fun h => h.elim (fun h => by cases h) (fun h => by cases h))) (by decide) 2 hF1 hst4
  rw [h75] at hcm
  have C := C4
  refine r_ggS C (d' := 7) [.ref (wAd w (7, 11, 6, 0)), .ref (ad4 (33, 0, 0, 0))] hcm myL_comes wm3_59 rfl (kR rfl) (by decide) (kR rfl) rfl dL_acts_551 (hT.q (by show 2 + (yn % 5 + 1) + 2 + 2 ≤ 20; omega) (by show 1004 + 1000 * (yn % 5 + 1) + 1004 + 5 * 2 ≤ 8000; omega)) ?_
  have hin6 := hin5.S (S' := S1) (by decide) (by rw [hC]; decide)
  have ht := c_acts_t (w := wM (wM w I ad) _ ad4) (o := (o.1, ct4)) hW5 hS5 hZ N (nI yn) g pd (nI ((wlk yn (yn % 5 + 1)).getD (yn % 5) 0)) hF2 C hD5 (F0 := qH1 w X (some (.int (b2i v)), cA w (S', o)) 20 8000) (c9 := 2 + (yn % 5 + 1) + 2 + 2) (s9 := 1004 + 1000 * (yn % 5 + 1) + 1004 + 5 * 2) (hT.q (by omega) (by omega)) (hT.q (by omega) (by omega)) hin6 (by decide) (by rw [hC]; decide) hb5 wlk_lt (kq := yn % 5) (by rw [wlk_len]; omega) (pk_rem (d := 5) (a := yn) (by omega) (by decide) (by decide)) rfl ?_
  · rw [h75] at ht
    exact ht
  refine r_forget hag4 ?_
  refine r_forget hag ?_
  rw [cA_N hag4 hI4, cA_N hag hI]
  refine r_same (ct' := cA w (S', o)) (fun z hz => ?_) ?_
  · rcases Nat.lt_or_ge z.1 30 with h9 | h9
    · have e4 : ct4 z = cA w (S, o) z := by rw [hf4 z (fun e => by rw [e] at h9; exact absurd h9 (by decide)) (fun e => by rw [e] at h9; exact absurd h9 (by decide)), hfc z (by omega) (fun e => by rw [e] at h9; exact absurd h9 (by decide))]
      exact cA_z9 (fun h11 => by rw [e4, cA_m h11])
    · exact absurd hz (hfr z h9)
  refine r_wid (c' := 20) (s' := 8000) (by omega) (by omega) ?_
  have C := C0
  exact r_hzreturn C v rfl dL_acts_642
