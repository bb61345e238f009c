/-! ===== comes: the script's cells, texts that come to the buffer ===== -/
theorem tdv (x : Int) (h1 : -2 ^ 31 ≤ x) (h2 : x < 2 ^ 31) : ∃ q r : Int, x.tdiv 100000 = q ∧ x = q * 100000 + r ∧ -100000 < r ∧ r < 100000 ∧ -2 ^ 31 ≤ q * 100000 ∧ q * 100000 < 2 ^ 31 ∧ -2 ^ 31 ≤ q ∧ q < 2 ^ 31 := by
  rcases Int.le_total 0 x with h | h
  · rw [Int.tdiv_eq_ediv_of_nonneg h]
    exact ⟨x / 100000, x % 100000, rfl, by omega, by omega, by omega, by omega, by omega, by omega, by omega⟩
  · obtain ⟨y, rfl⟩ : ∃ y, x = -y := ⟨-x, by omega⟩
    rw [Int.neg_tdiv, Int.tdiv_eq_ediv_of_nonneg (by omega)]
    exact ⟨-(y / 100000), -(y % 100000), rfl, by omega, by omega, by omega, by omega, by omega, by omega, by omega⟩
theorem cell_rem (v : Int32) : -100000 < (v - v / 100000 * 100000).toInt ∧ (v - v / 100000 * 100000).toInt < 100000 := by
  have h1 := Int32.le_toInt v
  have h2 := Int32.toInt_lt v
  obtain ⟨q, r, e1, e2, e3, e4, e5, e6, e7, e8⟩ := tdv v.toInt (by omega) (by omega)
  have hd : (v / 100000).toInt = q := by
    rw [Int32.toInt_div, show (100000 : Int32).toInt = 100000 from by decide, e1]
    exact Int.bmod_eq_of_le (by omega) (by omega)
  have hm : (v / 100000 * 100000).toInt = q * 100000 := by
    rw [Int32.toInt_mul, hd, show (100000 : Int32).toInt = 100000 from by decide]
    exact Int.bmod_eq_of_le (by omega) (by omega)
  have hs : (v - v / 100000 * 100000).toInt = r := by
    rw [Int32.toInt_sub, hm, show v.toInt - q * 100000 = r from by omega]
    exact Int.bmod_eq_of_le (by omega) (by omega)
  rw [hs]
  exact ⟨e3, e4⟩
theorem cell_lt (v : Int32) : ∃ n, n < 100000 ∧ (if 0 ≤ v - v / 100000 * 100000 then v - v / 100000 * 100000 else 0 - (v - v / 100000 * 100000)) = nI n := by
  obtain ⟨h1, h2⟩ := cell_rem v
  generalize v - v / 100000 * 100000 = x at h1 h2
  by_cases h : 0 ≤ x
  · rw [if_pos h]
    obtain ⟨n, hn, rfl⟩ := nI_of (x := x) (fun z => by
      rw [Int32.lt_iff_toInt_lt] at z
      rw [Int32.le_iff_toInt_le] at h
      omega)
    rw [nI_toInt hn] at h2
    exact ⟨n, by omega, rfl⟩
  · rw [if_neg h]
    have h3 : x.toInt < 0 := by
      rw [Int32.le_iff_toInt_le, show (0 : Int32).toInt = 0 from by decide] at h
      omega
    have h4 : (0 - x).toInt = -x.toInt := by
      rw [Int32.toInt_sub, show (0 : Int32).toInt = 0 from by decide]
      rw [show (0 : Int) - x.toInt = -x.toInt from by omega]
      exact Int.bmod_eq_of_le (by omega) (by omega)
    obtain ⟨n, hn, e⟩ := nI_of (x := 0 - x) (fun z => by
      rw [Int32.lt_iff_toInt_lt, h4, show (0 : Int32).toInt = 0 from by decide] at z
      omega)
    rw [e, nI_toInt hn] at h4
    exact ⟨n, by omega, e⟩
/-- what the law reads of the script -/
noncomputable def cellN (L : Nat) (xs : Nat → Int32) (i : Nat) : Nat := if L = 0 then 0 else (cell_lt (xs (i % L))).choose
theorem cellN_lt {L : Nat} {xs : Nat → Int32} {i : Nat} : cellN L xs i < 100000 := by
  unfold cellN
  split
  · decide
  · exact (cell_lt (xs (i % L))).choose_spec.1
/-- the script stands still -/
def gSc (w : WP) (b L : Nat) (xs : Nat → Int32) : Prop := L < 2 ^ 31 ∧ ∀ A U H, wE w A U H → va_T .int b L (fun j => .int (xs j)) A U H
theorem gSc.x {w : WP} {X : CX} {cc : ByteArray} {own : String} {ret : Option FieldType} {d nL b L : Nat} {xs : Nat → Int32} (h : gSc w b L xs) (C : gC w X cc own ret d nL) : gX w X (va_T .int b L (fun j => .int (xs j))) := by
  obtain ⟨p, e, R, s, m, args, below, meth, c, n, A⟩ := X
  exact h.2 _ _ _ C.2.2.2.2.2.2.2.2.2.2.2
theorem r_ialdA {w : WP} {X : CX} {cc : ByteArray} {own : String} {ret : Option FieldType} {d nL : Nat} {Q : QT} {ct : CT} {pc : Nat} {lo : List (Nat × Value)} {st : List Value} (C : gC w X cc own ret d nL) (i : ID) (hi : wOk w i) {a : Nat} (ha : wAd w i = a) {n : Nat} {f : Nat → Int32} (hct : ct i = .inl (wI w, n, .inl f)) {j v : Int32} (hin : vp_in j n) (hv : f j.toNatClampNeg = v) (hd : decode cc pc = .ok (.iaload, 1)) (kk : gU w X Q ct (pc + 1) lo (.int v :: st)) : gU w X Q ct pc lo (.int j :: .ref a :: st) := by
  subst ha
  subst hv
  exact r_iald C i hi 0 hct rfl hin hd kk
theorem r_iastA {w : WP} {X : CX} {cc : ByteArray} {own : String} {ret : Option FieldType} {d nL : Nat} {Q : QT} {ct : CT} {pc : Nat} {lo : List (Nat × Value)} {st : List Value} (C : gC w X cc own ret d nL) (i : ID) (hi : wFr w i) {a : Nat} (ha : wAd w i = a) {n : Nat} {f : Nat → Int32} (hct : ct i = .inl (wI w, n, .inl f)) {j x : Int32} (hin : vp_in j n) (hd : decode cc pc = .ok (.iastore, 1)) (kk : gU w X Q (upE ct i (.inl (wI w, n, .inl (upd f j.toNatClampNeg x)))) (pc + 1) lo st) : gU w X Q ct pc lo (.int x :: .int j :: .ref a :: st) := by
  subst ha
  exact r_iast C i hi 0 hct rfl hin hd (fun _ _ => rfl) kk
theorem dL_cell_0 : decode cL_cell 0 = .ok (.aload_n 0, 1) := by decide +kernel
theorem dL_cell_1 : decode cL_cell 1 = .ok (.arraylength, 1) := by decide +kernel
theorem dL_cell_2 : decode cL_cell 2 = .ok (.ifCond .ne 7, 3) := by decide +kernel
theorem dL_cell_5 : decode cL_cell 5 = .ok (.iconst 0, 1) := by decide +kernel
theorem dL_cell_6 : decode cL_cell 6 = .ok (.goto 15, 3) := by decide +kernel
theorem dL_cell_9 : decode cL_cell 9 = .ok (.aload_n 0, 1) := by decide +kernel
theorem dL_cell_10 : decode cL_cell 10 = .ok (.iload_n 1, 1) := by decide +kernel
theorem dL_cell_11 : decode cL_cell 11 = .ok (.aload_n 0, 1) := by decide +kernel
theorem dL_cell_12 : decode cL_cell 12 = .ok (.arraylength, 1) := by decide +kernel
theorem dL_cell_13 : decode cL_cell 13 = .ok (.irem, 1) := by decide +kernel
theorem dL_cell_14 : decode cL_cell 14 = .ok (.iaload, 1) := by decide +kernel
theorem dL_cell_15 : decode cL_cell 15 = .ok (.ldc 7, 2) := by decide +kernel
theorem dL_cell_17 : decode cL_cell 17 = .ok (.irem, 1) := by decide +kernel
theorem dL_cell_18 : decode cL_cell 18 = .ok (.invokestatic 8, 3) := by decide +kernel
theorem dL_cell_21 : decode cL_cell 21 = .ok (.ireturn, 1) := by decide +kernel
theorem dL_comes_0 : decode cL_comes 0 = .ok (.iconst 0, 1) := by decide +kernel
theorem dL_comes_1 : decode cL_comes 1 = .ok (.istore_n 2, 1) := by decide +kernel
theorem dL_comes_2 : decode cL_comes 2 = .ok (.iload_n 2, 1) := by decide +kernel
theorem dL_comes_3 : decode cL_comes 3 = .ok (.aload_n 1, 1) := by decide +kernel
theorem dL_comes_4 : decode cL_comes 4 = .ok (.invokevirtual 25, 3) := by decide +kernel
theorem dL_comes_7 : decode cL_comes 7 = .ok (.if_icmp .ge 89, 3) := by decide +kernel
theorem dL_comes_10 : decode cL_comes 10 = .ok (.iconst 5, 1) := by decide +kernel
theorem dL_comes_11 : decode cL_comes 11 = .ok (.newarray .int, 2) := by decide +kernel
theorem dL_comes_13 : decode cL_comes 13 = .ok (.astore_n 3, 1) := by decide +kernel
theorem dL_comes_14 : decode cL_comes 14 = .ok (.iconst 0, 1) := by decide +kernel
theorem dL_comes_15 : decode cL_comes 15 = .ok (.istore 4, 2) := by decide +kernel
theorem dL_comes_17 : decode cL_comes 17 = .ok (.iload 4, 2) := by decide +kernel
theorem dL_comes_19 : decode cL_comes 19 = .ok (.bipush 20, 2) := by decide +kernel
theorem dL_comes_21 : decode cL_comes 21 = .ok (.if_icmp .ge 48, 3) := by decide +kernel
theorem dL_comes_24 : decode cL_comes 24 = .ok (.aload_n 3, 1) := by decide +kernel
theorem dL_comes_25 : decode cL_comes 25 = .ok (.iload 4, 2) := by decide +kernel
theorem dL_comes_27 : decode cL_comes 27 = .ok (.iconst 4, 1) := by decide +kernel
theorem dL_comes_28 : decode cL_comes 28 = .ok (.idiv, 1) := by decide +kernel
theorem dL_comes_29 : decode cL_comes 29 = .ok (.aload_n 3, 1) := by decide +kernel
theorem dL_comes_30 : decode cL_comes 30 = .ok (.iload 4, 2) := by decide +kernel
theorem dL_comes_32 : decode cL_comes 32 = .ok (.iconst 4, 1) := by decide +kernel
theorem dL_comes_33 : decode cL_comes 33 = .ok (.idiv, 1) := by decide +kernel
theorem dL_comes_34 : decode cL_comes 34 = .ok (.iaload, 1) := by decide +kernel
theorem dL_comes_35 : decode cL_comes 35 = .ok (.bipush 8, 2) := by decide +kernel
theorem dL_comes_37 : decode cL_comes 37 = .ok (.ishl, 1) := by decide +kernel
theorem dL_comes_38 : decode cL_comes 38 = .ok (.iload_n 2, 1) := by decide +kernel
theorem dL_comes_39 : decode cL_comes 39 = .ok (.iload 4, 2) := by decide +kernel
theorem dL_comes_41 : decode cL_comes 41 = .ok (.iadd, 1) := by decide +kernel
theorem dL_comes_42 : decode cL_comes 42 = .ok (.aload_n 1, 1) := by decide +kernel
theorem dL_comes_43 : decode cL_comes 43 = .ok (.invokevirtual 25, 3) := by decide +kernel
theorem dL_comes_46 : decode cL_comes 46 = .ok (.if_icmp .ge 14, 3) := by decide +kernel
theorem dL_comes_49 : decode cL_comes 49 = .ok (.aload_n 1, 1) := by decide +kernel
theorem dL_comes_50 : decode cL_comes 50 = .ok (.iload_n 2, 1) := by decide +kernel
theorem dL_comes_51 : decode cL_comes 51 = .ok (.iload 4, 2) := by decide +kernel
theorem dL_comes_53 : decode cL_comes 53 = .ok (.iadd, 1) := by decide +kernel
theorem dL_comes_54 : decode cL_comes 54 = .ok (.invokevirtual 30, 3) := by decide +kernel
theorem dL_comes_57 : decode cL_comes 57 = .ok (.goto 4, 3) := by decide +kernel
theorem dL_comes_60 : decode cL_comes 60 = .ok (.iconst 0, 1) := by decide +kernel
theorem dL_comes_61 : decode cL_comes 61 = .ok (.ior, 1) := by decide +kernel
theorem dL_comes_62 : decode cL_comes 62 = .ok (.iastore, 1) := by decide +kernel
theorem dL_comes_63 : decode cL_comes 63 = .ok (.iinc 4 1, 3) := by decide +kernel
theorem dL_comes_66 : decode cL_comes 66 = .ok (.goto (-49), 3) := by decide +kernel
theorem dL_comes_69 : decode cL_comes 69 = .ok (.aload_n 0, 1) := by decide +kernel
theorem dL_comes_70 : decode cL_comes 70 = .ok (.aload_n 3, 1) := by decide +kernel
theorem dL_comes_71 : decode cL_comes 71 = .ok (.iconst 0, 1) := by decide +kernel
theorem dL_comes_72 : decode cL_comes 72 = .ok (.iaload, 1) := by decide +kernel
theorem dL_comes_73 : decode cL_comes 73 = .ok (.aload_n 3, 1) := by decide +kernel
theorem dL_comes_74 : decode cL_comes 74 = .ok (.iconst 1, 1) := by decide +kernel
theorem dL_comes_75 : decode cL_comes 75 = .ok (.iaload, 1) := by decide +kernel
theorem dL_comes_76 : decode cL_comes 76 = .ok (.aload_n 3, 1) := by decide +kernel
theorem dL_comes_77 : decode cL_comes 77 = .ok (.iconst 2, 1) := by decide +kernel
theorem dL_comes_78 : decode cL_comes 78 = .ok (.iaload, 1) := by decide +kernel
theorem dL_comes_79 : decode cL_comes 79 = .ok (.aload_n 3, 1) := by decide +kernel
theorem dL_comes_80 : decode cL_comes 80 = .ok (.iconst 3, 1) := by decide +kernel
theorem dL_comes_81 : decode cL_comes 81 = .ok (.iaload, 1) := by decide +kernel
theorem dL_comes_82 : decode cL_comes 82 = .ok (.aload_n 3, 1) := by decide +kernel
theorem dL_comes_83 : decode cL_comes 83 = .ok (.iconst 4, 1) := by decide +kernel
theorem dL_comes_84 : decode cL_comes 84 = .ok (.iaload, 1) := by decide +kernel
theorem dL_comes_85 : decode cL_comes 85 = .ok (.invokevirtual 34, 3) := by decide +kernel
theorem dL_comes_88 : decode cL_comes 88 = .ok (.istore 4, 2) := by decide +kernel
theorem dL_comes_90 : decode cL_comes 90 = .ok (.iinc 2 20, 3) := by decide +kernel
theorem dL_comes_93 : decode cL_comes 93 = .ok (.goto (-91), 3) := by decide +kernel
theorem dL_comes_96 : decode cL_comes 96 = .ok (.aload_n 0, 1) := by decide +kernel
theorem dL_comes_97 : decode cL_comes 97 = .ok (.aload_n 1, 1) := by decide +kernel
theorem dL_comes_98 : decode cL_comes 98 = .ok (.invokevirtual 25, 3) := by decide +kernel
theorem dL_comes_101 : decode cL_comes 101 = .ok (.invokevirtual 38, 3) := by decide +kernel
theorem dL_comes_104 : decode cL_comes 104 = .ok (.istore_n 2, 1) := by decide +kernel
theorem dL_comes_105 : decode cL_comes 105 = .ok (.return_, 1) := by decide +kernel
theorem dL_load_0 : decode cL_load 0 = .ok (.aload_n 0, 1) := by decide +kernel
theorem dL_load_1 : decode cL_load 1 = .ok (.aload_n 1, 1) := by decide +kernel
theorem dL_load_2 : decode cL_load 2 = .ok (.invokestatic 41, 3) := by decide +kernel
theorem dL_load_5 : decode cL_load 5 = .ok (.aload_n 0, 1) := by decide +kernel
theorem dL_load_6 : decode cL_load 6 = .ok (.invokestatic 47, 3) := by decide +kernel
theorem dL_load_9 : decode cL_load 9 = .ok (.ireturn, 1) := by decide +kernel

theorem c_cell {w : WP} {b L : Nat} {xs : Nat → Int32} (hX : gSc w b L xs) {ct : CT} {i : Nat} (hi : i < 2 ^ 31) : gM w 1 yL_cell cL_cell 2 (some .int) [.ref b, .int (nI i)] ct (some (.int (nI (cellN L xs i)))) ct := by
  refine gM_of "HedgeMessagesLaw" rfl (by decide) (kR rfl) fun X C => ?_
  show gV w X _ _ 0 [(0, .ref b), (1, .int (nI i))] []
  refine r_aload_n C (k := 0) rfl rfl dL_cell_0 ?_
  refine r_tlen C (hX.x C) dL_cell_1 ?_
  refine r_if_ne C (tgt := 9) rfl dL_cell_2 (fun h1 => ?_) (fun h1 => ?_)
  · have h0 : ¬ L = 0 := fun z => h1 (by rw [z]; rfl)
    refine r_aload_n C (k := 0) rfl rfl dL_cell_9 ?_
    refine r_iload_n C (k := 1) rfl rfl dL_cell_10 ?_
    refine r_aload_n C (k := 0) rfl rfl dL_cell_11 ?_
    refine r_tlen C (hX.x C) dL_cell_12 ?_
    refine r_irem C (fun z => h0 (by rw [show (0 : Int32) = nI 0 from rfl] at z; exact (nI_eq hX.1 (by decide)).mp z)) dL_cell_13 ?_
    refine r_st (st' := [.int (nI (i % L)), .ref b]) (by rw [pk_rem hi (by omega) hX.1] <;> rfl) ?_
    refine r_ti C (hX.x C) (vp_in_nI (Nat.mod_lt _ (by omega)) hX.1) (v := .int (xs (i % L))) (by rw [nI_clamp (Nat.lt_trans (Nat.mod_lt _ (by omega)) hX.1)]) dL_cell_14 ?_
    refine r_ldcI C wm3_52 dL_cell_15 ?_
    refine r_irem C (by decide) dL_cell_17 ?_
    refine r_mabs C (by decide) wm3_53 (kR rfl) dL_cell_18 ?_
    refine r_st (st' := [.int (nI (cellN L xs i))]) (by rw [show cellN L xs i = (cell_lt (xs (i % L))).choose from if_neg h0, ← (cell_lt (xs (i % L))).choose_spec.2]) ?_
    exact r_ireturn C dL_cell_21
  · have h0 : L = 0 := (nI_eq hX.1 (by decide)).mp h1
    refine r_iconst C (v := 0) rfl dL_cell_5 ?_
    refine r_goto C (tgt := 21) rfl dL_cell_6 ?_
    refine r_st (st' := [.int (nI (cellN L xs i))]) (by rw [show cellN L xs i = 0 from if_pos h0]; rfl) ?_
    exact r_ireturn C dL_cell_21
/-- the character at n, nought behind the end -/
def chN (T : List Nat) (n : Nat) : Int32 := if n < T.length then nI (T.getD n 0) else 0
/-- five words of twenty characters from k on, the first i laid -/
def inn (T : List Nat) (k : Nat) : Nat → Nat → Int32
  | 0 => fun _ => 0
  | i + 1 => upd (inn T k i) (i / 4) ((inn T k i (i / 4)) <<< ((8 : Int32) &&& 31) ||| chN T (k + i))
theorem stIn.up {w : WP} {ct : CT} {iS iX iN : ID} {T : List Nat} {e : va_E} (h : stIn w ct iS iX T) (h1 : iS ≠ iN) (h2 : iX ≠ iN) : stIn w (upE ct iN e) iS iX T := by
  obtain ⟨a1, a2, a3, g, a4, a5⟩ := h
  exact ⟨a1, a2, (upE_n h1).trans a3, g, (upE_n h2).trans a4, a5⟩
theorem stIn.m {w : WP} {ct : CT} {iS iX : ID} {T : List Nat} (h : stIn w ct iS iX T) {I : ID → Prop} {ad : ID → Nat} (hag : gAg w I ad) : stIn (wM w I ad) ct iS iX T := by
  obtain ⟨a1, a2, a3, g, a4, a5⟩ := h
  exact ⟨Or.inl a1, Or.inl a2, by rw [a3]; show _ = Sum.inr (8, [Value.ref (ad iX), _, _, _]); rw [hag.1 iX a2], g, a4, a5⟩
theorem nI_d4 {i : Nat} (h : i < 20) : nI i / (4 : Int32) = nI (i / 4) := pk_div (d := 4) (by omega) (by decide) (by decide)
theorem lc_in {w : WP} (hS : gS w) (hD : gD w) {X : CX} (C : gC w X cL_comes "HedgeMessagesLaw" none 7 5) {Q : QT} (hQ : qOk X Q) {ct0 : CT} {T : List Nat} {iS iX iN : ID} {p s q k : Nat} (hIn : stIn w ct0 iS iX T) (hs : wAd w iS = s) (h1 : iS ≠ iN) (h2 : iX ≠ iN) (hN : wFr w iN) (hq : wAd w iN = q) (hk : k ≤ 1000) (kk : gU w X Q (upE ct0 iN (.inl (wI w, 5, .inl (inn T k 20)))) 69 [(0, .ref p), (1, .ref s), (2, .int (nI k)), (3, .ref q), (4, .int (nI 20))] []) : ∀ m i, i + m = 20 → gU w X Q (upE ct0 iN (.inl (wI w, 5, .inl (inn T k i)))) 17 [(0, .ref p), (1, .ref s), (2, .int (nI k)), (3, .ref q), (4, .int (nI i))] [] := by
  intro m
  induction m with
  | zero =>
    intro i hi
    obtain rfl : i = 20 := hi
    refine r_iload C (k := 4) rfl dL_comes_17 ?_
    refine r_bipush C (v := 20) rfl dL_comes_19 ?_
    refine r_icmp_ge C (tgt := 69) rfl dL_comes_21 (fun _ => ?_) (fun h => absurd (show nI 20 ≤ nI 20 from by decide) h)
    exact kk
  | succ m ih =>
    intro i hi
    replace ih := fun i hi => ih i hi
    have hT0 := hIn.2.2.2.choose_spec.2.2.1
    refine r_iload C (k := 4) rfl dL_comes_17 ?_
    refine r_bipush C (v := 20) rfl dL_comes_19 ?_
    refine r_icmp_ge C (tgt := 69) rfl dL_comes_21 (fun h => absurd h (show ¬ nI 20 ≤ nI i from fun z => by have := (nI_leI (by decide) (by omega)).mp z; omega)) (fun _ => ?_)
    refine r_aload_n C (k := 3) rfl rfl dL_comes_24 ?_
    refine r_iload C (k := 4) rfl dL_comes_25 ?_
    refine r_iconst C (v := 4) rfl dL_comes_27 ?_
    refine r_idiv C (by decide) dL_comes_28 ?_
    refine r_st (st' := [.int (nI (i / 4)), .ref q]) (by rw [nI_d4 (by omega)] <;> rfl) ?_
    refine r_aload_n C (k := 3) rfl rfl dL_comes_29 ?_
    refine r_iload C (k := 4) rfl dL_comes_30 ?_
    refine r_iconst C (v := 4) rfl dL_comes_32 ?_
    refine r_idiv C (by decide) dL_comes_33 ?_
    refine r_st (st' := [.int (nI (i / 4)), .ref q, .int (nI (i / 4)), .ref q]) (by rw [nI_d4 (by omega)] <;> rfl) ?_
    refine r_ialdA C iN (hD.2.1 iN hN) hq upE_s (vp_in_nI (by omega) (by decide)) (v := inn T k i (i / 4)) (by rw [nI_clamp (by omega)]) dL_comes_34 ?_
    refine r_bipush C (v := 8) rfl dL_comes_35 ?_
    refine r_ishl C dL_comes_37 ?_
    refine r_iload_n C (k := 2) rfl rfl dL_comes_38 ?_
    refine r_iload C (k := 4) rfl dL_comes_39 ?_
    refine r_iadd C dL_comes_41 ?_
    refine r_st (st' := [.int (nI (k + i)), .int ((inn T k i (i / 4)) <<< (8 &&& 31)), .int (nI (i / 4)), .ref q]) (by rw [nI_add k i] <;> rfl) ?_
    refine r_aload_n C (k := 1) rfl rfl dL_comes_42 ?_
    have hT := hIn.up (e := .inl (wI w, 5, .inl (inn T k i))) h1 h2
    refine r_callV C (d' := 1) [] (c_mlen hS hT hs) myJ0_length_8abf5 wm3_62 (recS hT.1 hs hT.2.2.1) rfl (kR rfl) (by decide) (kR rfl) rfl dL_comes_43 ?_
    refine r_icmp_ge C (tgt := 60) rfl dL_comes_46 (fun h8 => ?_) (fun h8 => ?_)
    · have h9 : T.length ≤ k + i := (nI_leI (by omega) (by omega)).mp h8
      refine r_iconst C (v := 0) rfl dL_comes_60 ?_
      refine r_ior C dL_comes_61 ?_
      refine r_iastA C iN hN hq upE_s (vp_in_nI (by omega) (by decide)) dL_comes_62 ?_
      refine r_ct (ct' := upE ct0 iN (.inl (wI w, 5, .inl (inn T k (i + 1))))) (by rw [upE_upE, nI_clamp (by omega)]; show upE ct0 iN (.inl (wI w, 5, .inl (upd _ _ (_ ||| 0)))) = upE ct0 iN (.inl (wI w, 5, .inl (upd _ _ (_ ||| chN T (k + i))))); rw [show chN T (k + i) = 0 from if_neg (by omega)]) ?_
      refine r_iinc C (k := 4) (v := nI (i + 1)) (lo' := [(4, .int (nI (i + 1))), (0, .ref p), (1, .ref s), (2, .int (nI k)), (3, .ref q)]) rfl (by exact nI_add i 1) (by decide) rfl dL_comes_63 ?_
      refine r_goto C (tgt := 17) rfl dL_comes_66 ?_
      refine r_lo [1, 2, 3, 4, 0] (lo' := [(0, .ref p), (1, .ref s), (2, .int (nI k)), (3, .ref q), (4, .int (nI (i + 1)))]) rfl ?_
      exact ih (i + 1) (by omega)
    · have h9 : k + i < T.length := by
        rcases Nat.lt_or_ge (k + i) T.length with z | z
        · exact z
        · exact absurd ((nI_leI (by omega) (by omega)).mpr z) h8
      refine r_aload_n C (k := 1) rfl rfl dL_comes_49 ?_
      refine r_iload_n C (k := 2) rfl rfl dL_comes_50 ?_
      refine r_iload C (k := 4) rfl dL_comes_51 ?_
      refine r_iadd C dL_comes_53 ?_
      refine r_st (st' := [.int (nI (k + i)), .ref s, .int ((inn T k i (i / 4)) <<< (8 &&& 31)), .int (nI (i / 4)), .ref q]) (by rw [nI_add k i] <;> rfl) ?_
      refine r_callV C (d' := 3) [.int (nI (k + i))] (c_mch hS hT hs h9) myJ0_charAt_5068e wm3_63 (recS hT.1 hs hT.2.2.1) rfl (kR rfl) (by decide) (kR rfl) rfl dL_comes_54 ?_
      refine r_goto C (tgt := 61) rfl dL_comes_57 ?_
      refine r_ior C dL_comes_61 ?_
      refine r_iastA C iN hN hq upE_s (vp_in_nI (by omega) (by decide)) dL_comes_62 ?_
      refine r_ct (ct' := upE ct0 iN (.inl (wI w, 5, .inl (inn T k (i + 1))))) (by rw [upE_upE, nI_clamp (by omega)]; show upE ct0 iN (.inl (wI w, 5, .inl (upd _ _ (_ ||| nI (T.getD (k + i) 0))))) = upE ct0 iN (.inl (wI w, 5, .inl (upd _ _ (_ ||| chN T (k + i))))); rw [show chN T (k + i) = nI (T.getD (k + i) 0) from if_pos h9]) ?_
      refine r_iinc C (k := 4) (v := nI (i + 1)) (lo' := [(4, .int (nI (i + 1))), (0, .ref p), (1, .ref s), (2, .int (nI k)), (3, .ref q)]) rfl (by exact nI_add i 1) (by decide) rfl dL_comes_63 ?_
      refine r_goto C (tgt := 17) rfl dL_comes_66 ?_
      refine r_lo [1, 2, 3, 4, 0] (lo' := [(0, .ref p), (1, .ref s), (2, .int (nI k)), (3, .ref q), (4, .int (nI (i + 1)))]) rfl ?_
      exact ih (i + 1) (by omega)
/-- the text comes: n turns at most, from the k-th character on -/
def F_comes (T : List Nat) : Nat → Nat → SS → Option SS
  | 0, _, _ => none
  | n + 1, k, S => if T.length ≤ k then (ob1 (okI (F_X10_truncate (nI T.length) S)) fun r => some r.2)
      else ob1 (okI (F_X10_append (inn T k 20 0) (inn T k 20 1) (inn T k 20 2) (inn T k 20 3) (inn T k 20 4) S)) fun r => F_comes T n (k + 20) r.2
theorem stIn.S {w : WP} {S S' : SS} {o : HV × CT} {iS iX : ID} {T : List Nat} (h : stIn w (cA w (S, o)) iS iX T) (h1 : 11 ≤ iS.1) (h2 : 11 ≤ iX.1) : stIn w (cA w (S', o)) iS iX T := by
  obtain ⟨a1, a2, a3, g, a4, a5⟩ := h
  exact ⟨a1, a2, by rw [cA_m h1] at a3 ⊢; exact a3, g, by rw [cA_m h2] at a4 ⊢; exact a4, a5⟩
theorem qOk_le {X : CX} {F F' : State → Prop} {a b c d : Nat} (h : qOk X (F, c, d)) (h1 : a ≤ c) (h2 : b ≤ d) : qOk X (F', a, b) := by
  obtain ⟨p, e, R, s, m, args, below, meth, c9, n, A⟩ := X
  exact ⟨Nat.le_trans h1 h.1, Nat.le_trans h2 h.2⟩
theorem lc_out {w : WP} (hW : gW w) (hS : gS w) (hY : gY w) {X : CX} (C : gC w X cL_comes "HedgeMessagesLaw" none 7 5) {F0 : State → Prop} {o : HV × CT} {T : List Nat} {iS iX iN : ID} {s : Nat} (hs : wAd w iS = s) (hkS : 30 ≤ iS.1) (hkX : 30 ≤ iX.1) (hN : ¬ wOk w iN) (hkN : 30 ≤ iN.1) {S' : SS} : ∀ n k (S : SS) c9 s9, k ≤ 1020 → F_comes T n k S = some S' → qOk X (F0, c9 + n, s9 + 5 * n) → stIn w (cA w (S, o)) iS iX T → (∀ c s, c ≤ c9 + n → s ≤ s9 + 5 * n → gU w X (F0, c, s) (cA w (S', o)) 105 [] []) → gU w X (F0, c9, s9) (cA w (S, o)) 2 [(0, .ref (wAd w (7, 11, 6, 0))), (1, .ref s), (2, .int (nI k))] [] := by
  intro n
  induction n with
  | zero => intro k S c9 s9 _ hF; cases hF
  | succ n ih =>
    intro k S c9 s9 hk hF hq9 hIn kk
    have hT0 := hIn.2.2.2.choose_spec.2.2.1
    have hq : qOk X (F0, c9, s9) := qOk_le hq9 (by omega) (by omega)
    unfold F_comes at hF
    refine r_iload_n C (k := 2) rfl rfl dL_comes_2 ?_
    refine r_aload_n C (k := 1) rfl rfl dL_comes_3 ?_
    refine r_callV C (d' := 1) [] (c_mlen hS hIn hs) myJ0_length_8abf5 wm3_62 (recS hIn.1 hs hIn.2.2.1) rfl (kR rfl) (by decide) (kR rfl) rfl dL_comes_4 ?_
    refine r_icmp_ge C (tgt := 96) rfl dL_comes_7 (fun h8 => ?_) (fun h8 => ?_)
    · have h9 : T.length ≤ k := (nI_leI (by omega) (by omega)).mp h8
      rw [if_pos h9] at hF
      obtain ⟨r, hr, hF⟩ := ob1_e hF
      cases hF
      refine r_aload_n C (k := 0) rfl rfl dL_comes_96 ?_
      refine r_aload_n C (k := 1) rfl rfl dL_comes_97 ?_
      refine r_callV C (d' := 1) [] (c_mlen hS hIn hs) myJ0_length_8abf5 wm3_62 (recS hIn.1 hs hIn.2.2.1) rfl (kR rfl) (by decide) (kR rfl) rfl dL_comes_98 ?_
      refine r_callV C (d' := 6) [.int (nI T.length)] (c_X10_truncate (Ω := (S, o)) hW hS rfl (nI T.length) (okI_e hr) rfl) myX10_truncate wm3_74 ⟨_, _, _, _, (hW.ok k7), rfl, rfl, rfl, rfl⟩ rfl (kR rfl) (by decide) (kR rfl) rfl dL_comes_101 ?_ hq
      refine r_istore_n C (lo' := [(2, .int r.1), (0, .ref (wAd w (7, 11, 6, 0))), (1, .ref s)]) rfl (by decide) rfl dL_comes_104 ?_
      refine r_lo [] (lo' := []) rfl ?_
      exact kk c9 s9 (by omega) (by omega)
    · have h9 : ¬ T.length ≤ k := fun z => h8 ((nI_leI (by omega) (by omega)).mpr z)
      rw [if_neg h9] at hF
      obtain ⟨r, hr, hF⟩ := ob1_e hF
      refine r_iconst C (v := 5) rfl dL_comes_10 ?_
      refine r_newI C hY iN hN (by decide) (N := 5) rfl (by decide) dL_comes_11 (qOk_le hq9 (by show c9 + 1 ≤ c9 + (n + 1); omega) (by show s9 + 5 ≤ s9 + 5 * (n + 1); omega)) fun q hag hbh C2 => ?_
      have hq2 : adU w iN q iN = q := if_pos rfl
      have hI0 : ∀ z, one iN z → 30 ≤ z.1 := fun z hz => by rw [show z = iN from hz]; exact hkN
      have hS2 := gS_N hS hag hI0
      have hD2 := gD_C C2
      have hW2 := gW_N hW hI0 hD2
      have h7 : wAd (wM w (one iN) (adU w iN q)) (7, 11, 6, 0) = wAd w (7, 11, 6, 0) := hag.2 _ (fun z => by have := hI0 _ z; simp at this)
      have hs2 : wAd (wM w (one iN) (adU w iN q)) iS = s := (hag.1 iS hIn.1).trans hs
      have h1 : iS ≠ iN := fun z => hN (z ▸ hIn.1)
      have h2 : iX ≠ iN := fun z => hN (z ▸ hIn.2.1)
      refine r_astore_n C2 (lo' := [(3, .ref q), (0, .ref (wAd w (7, 11, 6, 0))), (1, .ref s), (2, .int (nI k))]) rfl (by decide) rfl dL_comes_13 ?_
      refine r_iconst C2 (v := 0) rfl dL_comes_14 ?_
      refine r_istore C2 (lo' := [(4, .int 0), (3, .ref q), (0, .ref (wAd w (7, 11, 6, 0))), (1, .ref s), (2, .int (nI k))]) (by decide) rfl dL_comes_15 ?_
      refine r_lo [2, 3, 4, 1, 0] (lo' := [(0, .ref (wAd w (7, 11, 6, 0))), (1, .ref s), (2, .int (nI k)), (3, .ref q), (4, .int (nI 0))]) rfl ?_
      refine lc_in hS2 hD2 C2 (qOk_le hq9 (by show c9 + 1 ≤ c9 + (n + 1); omega) (by show s9 + 5 ≤ s9 + 5 * (n + 1); omega)) (hIn.m hag) hs2 h1 h2 (Or.inr rfl) hq2 (by omega) ?_ 20 0 rfl
      refine r_ct (ct' := cA (wM w (one iN) (adU w iN q)) (S, o.1, upE o.2 iN (.inl (wI w, 5, .inl (inn T k 20))))) (by rw [cA_up (by omega), cA_N hag hI0] <;> rfl) ?_
      refine r_aload_n C2 (k := 0) rfl rfl dL_comes_69 ?_
      have hiN : cA (wM w (one iN) (adU w iN q)) (S, o.1, upE o.2 iN (.inl (wI w, 5, .inl (inn T k 20)))) iN = .inl (wI (wM w (one iN) (adU w iN q)), 5, .inl (inn T k 20)) := by rw [cA_m (by omega)]; exact upE_s
      refine r_aload_n C2 (k := 3) rfl rfl dL_comes_70 ?_
      refine r_iconst C2 (v := 0) rfl dL_comes_71 ?_
      refine r_ialdA C2 iN (Or.inr rfl) hq2 hiN (j := 0) (vpb_in (by decide)) (v := inn T k 20 0) rfl dL_comes_72 ?_
      refine r_aload_n C2 (k := 3) rfl rfl dL_comes_73 ?_
      refine r_iconst C2 (v := 1) rfl dL_comes_74 ?_
      refine r_ialdA C2 iN (Or.inr rfl) hq2 hiN (j := 1) (vpb_in (by decide)) (v := inn T k 20 1) rfl dL_comes_75 ?_
      refine r_aload_n C2 (k := 3) rfl rfl dL_comes_76 ?_
      refine r_iconst C2 (v := 2) rfl dL_comes_77 ?_
      refine r_ialdA C2 iN (Or.inr rfl) hq2 hiN (j := 2) (vpb_in (by decide)) (v := inn T k 20 2) rfl dL_comes_78 ?_
      refine r_aload_n C2 (k := 3) rfl rfl dL_comes_79 ?_
      refine r_iconst C2 (v := 3) rfl dL_comes_80 ?_
      refine r_ialdA C2 iN (Or.inr rfl) hq2 hiN (j := 3) (vpb_in (by decide)) (v := inn T k 20 3) rfl dL_comes_81 ?_
      refine r_aload_n C2 (k := 3) rfl rfl dL_comes_82 ?_
      refine r_iconst C2 (v := 4) rfl dL_comes_83 ?_
      refine r_ialdA C2 iN (Or.inr rfl) hq2 hiN (j := 4) (vpb_in (by decide)) (v := inn T k 20 4) rfl dL_comes_84 ?_
      have hA := c_X10_append (w := wM w (one iN) (adU w iN q)) (Ω := (S, o.1, upE o.2 iN (.inl (wI w, 5, .inl (inn T k 20))))) hW2 hS2 rfl _ _ _ _ _ (okI_e hr) rfl
      rw [h7] at hA
      refine r_callV C2 (d' := 6) [.int (inn T k 20 0), .int (inn T k 20 1), .int (inn T k 20 2), .int (inn T k 20 3), .int (inn T k 20 4)] hA myX10_append wm3_64 ⟨(7, 11, 6, 0), _, _, _, (hW2.ok k7), h7, rfl, rfl, rfl⟩ rfl (kR rfl) (by decide) (kR rfl) rfl dL_comes_85 ?_ (qOk_le hq9 (by show c9 + 1 ≤ c9 + (n + 1); omega) (by show s9 + 5 ≤ s9 + 5 * (n + 1); omega))
      refine r_forget hag ?_
      rw [cA_N hag hI0]
      refine r_same (ct' := cA w (r.2, o)) (fun z hz => ?_) ?_
      · have e := congrFun (cA_up (w := w) (Ω := (r.2, o)) (i := iN) (e := .inl (wI w, 5, .inl (inn T k 20))) (by omega)) z
        rw [upE_n (fun y => hN (by rw [← y]; exact hz))] at e
        exact e.symm
      refine r_istore C (lo' := [(4, .int r.1), (0, .ref (wAd w (7, 11, 6, 0))), (1, .ref s), (2, .int (nI k)), (3, .ref q)]) (by decide) rfl dL_comes_88 ?_
      refine r_iinc C (k := 3) (v := nI (k + 20)) (lo' := [(2, .int (nI (k + 20))), (4, .int r.1), (0, .ref (wAd w (7, 11, 6, 0))), (1, .ref s), (3, .ref q)]) rfl (by exact nI_add k 20) (by decide) rfl dL_comes_90 ?_
      refine r_goto C (tgt := 2) rfl dL_comes_93 ?_
      refine r_lo [2, 3, 0] (lo' := [(0, .ref (wAd w (7, 11, 6, 0))), (1, .ref s), (2, .int (nI (k + 20)))]) rfl ?_
      exact ih (k + 20) r.2 (c9 + 1) (s9 + 5) (by omega) hF (qOk_le hq9 (by omega) (by omega)) (hIn.S (by omega) (by omega)) (fun c s h1 h2 => kk c s (by omega) (by omega))
theorem c_comes {w : WP} (hW : gW w) (hS : gS w) (hY : gY w) {o : HV × CT} {T : List Nat} {iS iX iN : ID} {s : Nat} (hs : wAd w iS = s) (hkS : 30 ≤ iS.1) (hkX : 30 ≤ iX.1) (hN : ¬ wOk w iN) (hkN : 30 ≤ iN.1) {S S' : SS} (n : Nat) (hF : F_comes T n 0 S = some S') (hIn : stIn w (cA w (S, o)) iS iX T) : gMg w 7 yL_comes cL_comes 5 none [.ref (wAd w (7, 11, 6, 0)), .ref s] (cA w (S, o)) none (cA w (S', o)) n (5 * n) := by
  refine gMg_of "HedgeMessagesLaw" rfl (by decide) (kR rfl) fun X C hT => ?_
  show gU w X _ _ 0 [(0, .ref (wAd w (7, 11, 6, 0))), (1, .ref s)] []
  refine r_iconst C (v := 0) rfl dL_comes_0 ?_
  refine r_istore_n C (lo' := [(2, .int 0), (0, .ref (wAd w (7, 11, 6, 0))), (1, .ref s)]) rfl (by decide) rfl dL_comes_1 ?_
  refine r_lo [1, 2, 0] (lo' := [(0, .ref (wAd w (7, 11, 6, 0))), (1, .ref s), (2, .int (nI 0))]) rfl ?_
  refine lc_out hW hS hY C hs hkS hkX hN hkN n 0 S 0 0 (by decide) hF (hT.q (by omega) (by omega)) hIn fun c s h1 h2 => ?_
  refine r_wid (c' := n) (s' := 5 * n) (by omega) (by omega) ?_
  exact r_hvreturn C dL_comes_105
theorem c_loads {w : WP} (hW : gW w) (hS : gS w) (hY : gY w) {o : HV × CT} {T : List Nat} {iS iX iN : ID} {s : Nat} (hs : wAd w iS = s) (hkS : 30 ≤ iS.1) (hkX : 30 ≤ iX.1) (hN : ¬ wOk w iN) (hkN : 30 ≤ iN.1) {S S1 S' : SS} (n N : Nat) {v : Int32} (hF : F_comes T n 0 S = some S1) (hF2 : F_X10_load N S1 = some (.inl (v, S'))) (hIn : stIn w (cA w (S, o)) iS iX T) : gMg w 9 yL_load cL_load 2 (some .int) [.ref (wAd w (7, 11, 6, 0)), .ref s] (cA w (S, o)) (some (.int v)) (cA w (S', o)) n (5 * n) := by
  refine gMg_of "HedgeMessagesLaw" rfl (by decide) (kR rfl) fun X C hT => ?_
  show gU w X _ _ 0 [(0, .ref (wAd w (7, 11, 6, 0))), (1, .ref s)] []
  refine r_aload_n C (k := 0) rfl rfl dL_load_0 ?_
  refine r_aload_n C (k := 1) rfl rfl dL_load_1 ?_
  refine r_ggS C (d' := 7) [.ref (wAd w (7, 11, 6, 0)), .ref s] (c_comes hW hS hY hs hkS hkX hN hkN n hF hIn) myL_comes wm3_59 rfl (kR rfl) (by decide) (kR rfl) rfl dL_load_2 (hT.q (by show 0 + n ≤ n; omega) (by show 0 + 5 * n ≤ 5 * n; omega)) ?_
  refine r_aload_n C (k := 0) rfl rfl dL_load_5 ?_
  refine r_callH C (d' := 8) [.ref (wAd w (7, 11, 6, 0))] (ny := 1) (k_reads hW hS N hF2) cwL_reads rfl wm1_0 wm3_95 ⟨by decide, by decide, by decide +kernel⟩ wm3_94 rfl (by decide) (kR rfl) (kR rfl) rfl dL_load_6 (hT.q (by show 0 + n + 0 ≤ n; omega) (by show 0 + 5 * n + 0 ≤ 5 * n; omega)) ?_
  refine r_wid (c' := n) (s' := 5 * n) (by show 0 + n + 0 ≤ n; omega) (by show 0 + 5 * n + 0 ≤ 5 * n; omega) ?_
  exact r_hreturn C dL_load_9
