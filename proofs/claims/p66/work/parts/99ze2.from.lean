/-! ===== the world at the law's entry ===== -/
theorem SX_ok {args : Array Value} {s : State} {C : String} {k n : Nat} {tx : List Int32} {A : Nat → Prop} (h : SX args s C k n tx) (hn : n < 2 ^ 31) (hA : ∀ a : Nat, a < s.heap.size → ¬ A a) : ∃ q : Nat × Nat, (Term.string C k).eval args s none [] s = some (.ref q.1) ∧ va_O "java/lang/String" q.1 A s s.heap ∧ va_OF "java/lang/String" "coder" "B" (.int 0) q.1 A s s.heap ∧ va_OF "java/lang/String" "value" "[B" (.ref q.2) q.1 A s s.heap ∧ va_T .byte q.2 n (fun j => .int (tx.getD j 0)) A s s.heap := by
  obtain ⟨h1, h2, h3, h4, h5⟩ := h
  obtain ⟨a, c, cA, kA, q1, q2, q3, q4, q5, q6, -⟩ := Cond.exactly_spec (args := args) (first := s) (o := none) (s := s) (idx := []) (t := Term.string C k) (cls := "java/lang/String") h1
  obtain ⟨t, ht, hT⟩ := va_Tof (f := fun j => .int (tx.getD j 0)) (A := A) hn h3 (va_eqt h4) (fun j hj => va_eqt (h5 j hj)) hA
  exact ⟨(a, t), q1, ⟨cA, q3, q5, by rw [q6]; exact q2, hA a (Array.getElem?_eq_some_iff.mp q3).1⟩, vk_OFof q1 (va_eqt h2) hA, vk_OFof q1 ht hA, hT⟩
def YY (U : State) : Prop := (∀ a, (Cond.arrayClass FieldType.int).before a U = true) ∧ ((∀ a, (Cond.arrayClass FieldType.byte).before a U = true) ∧ (∀ a, (Cond.arrayClass FieldType.boolean).before a U = true)) ∧ va_AO "HedgeMessages$Hedge" U ∧ va_AO "HedgeMessages$CommandForm" U
/-- all that stands still, the script with it -/
def E00 (w : WP) (b L : Nat) (xs : Nat → Int32) (A : Nat → Prop) (U : State) (H : Heap) : Prop := (EXs w A U H ∧ EXd w A U H) ∧ EXx w A U H ∧ YY U ∧ va_T .int b L (fun j => .int (xs j)) A U H
theorem E00_w {w : WP} {b L : Nat} {xs : Nat → Int32} {A : Nat → Prop} {u U : State} {H : Heap} (hW : u.WarmedH U.vm) (h : E00 w b L xs A u H) : E00 w b L xs A U H := by
  have hvm := hW.alike
  obtain ⟨⟨⟨s1, s2, s3, s4⟩, ⟨e1, e2, e3, e4, e5⟩⟩, ⟨x1, x2, x3, x4, x5, x6⟩, y, v⟩ := h
  refine ⟨⟨⟨va_Z.moved hvm s1, va_Z.moved hvm s2, fun i hi => vk_R.warm hW (s3 i hi), fun i hi => ?_⟩, ⟨va_Z.moved hvm e1, va_T.moved hvm e2, va_Z.moved hvm e3, va_T.moved hvm e4, fun y hy => word_at hW (Or.inl rfl) (e5 y hy)⟩⟩, ⟨vx_Zq.moved hvm x1, vx_Zq.moved hvm x2, va_Nc.moved hvm x3, va_Nc.moved hvm x4, va_Nc.moved hvm x5, va_Nc.moved hvm x6⟩, ⟨fun a => word_at hW (Or.inr ⟨_, rfl⟩) (y.1 a), ⟨fun a => word_at hW (Or.inr ⟨_, rfl⟩) (y.2.1.1 a), fun a => word_at hW (Or.inr ⟨_, rfl⟩) (y.2.1.2 a)⟩, va_AO.moved hvm y.2.2.1, va_AO.moved hvm y.2.2.2⟩, va_T.moved hvm v⟩
  obtain ⟨a, b, c, d⟩ := s4 i hi
  exact ⟨va_O.moved hvm a, va_OF.moved hvm b, va_OF.moved hvm c, va_T.moved hvm d⟩
theorem E00_k {w : WP} {b L : Nat} {xs : Nat → Int32} {A : Nat → Prop} {U : State} {H H1 : Heap} (hk : ∀ a, a < H.size → ¬ A a → H1[a]? = H[a]?) (h : E00 w b L xs A U H) : E00 w b L xs A U H1 := by
  obtain ⟨⟨⟨s1, s2, s3, s4⟩, ⟨e1, e2, e3, e4, e5⟩⟩, ⟨x1, x2, x3, x4, x5, x6⟩, y, v⟩ := h
  refine ⟨⟨⟨s1.kept hk, s2.kept hk, s3, fun i hi => ?_⟩, ⟨e1.kept hk, e2.kept hk, e3.kept hk, e4.kept hk, e5⟩⟩, ⟨x1.kept hk, x2.kept hk, x3, x4, x5, x6⟩, y, v.kept hk⟩
  obtain ⟨a, b, c, d⟩ := s4 i hi
  exact ⟨a.kept hk, b.kept hk, c.kept hk, d.kept hk⟩
theorem E00_n {w : WP} {b L : Nat} {xs : Nat → Int32} {A B : Nat → Prop} {U : State} {H : Heap} (hk : ∀ q, B q → A q) (h : E00 w b L xs A U H) : E00 w b L xs B U H := by
  obtain ⟨⟨⟨s1, s2, s3, s4⟩, ⟨e1, e2, e3, e4, e5⟩⟩, ⟨x1, x2, x3, x4, x5, x6⟩, y, v⟩ := h
  refine ⟨⟨⟨s1.narrow hk, s2.narrow hk, s3, fun i hi => ?_⟩, ⟨e1.narrow hk, e2.narrow hk, e3.narrow hk, e4.narrow hk, e5⟩⟩, ⟨x1.narrow hk, x2.narrow hk, x3, x4, x5, x6⟩, y, v.narrow hk⟩
  obtain ⟨a, b, c, d⟩ := s4 i hi
  exact ⟨a.narrow hk, b.narrow hk, c.narrow hk, d.narrow hk⟩
theorem E00_g {w : WP} {b L : Nat} {xs : Nat → Int32} : gE (E00 w b L xs) := by
  refine ⟨fun A s U H h hW => E00_w hW h, fun A u U H h e => ?_, fun A U H H1 h hk => E00_k hk h, fun A B U H h hk => E00_n hk h⟩
  have hW : u.WarmedH U.vm := by
    rw [← e]
    exact State.WarmedH.refl u
  exact E00_w hW h
theorem n_s0 {args : Array Value} {s : State} (hts : ∀ w ∈ lw_tbl, w.before args s = true) : (Cond.selects "java/lang/StringBuilder" yJ5_newCapacity_0f7a4 yJ5_newCapacity_0f7a4).before args s = true := sel_priv (y0 := yJ5_isLatin1_aae02) (y := yJ5_newCapacity_0f7a4) rfl ⟨by decide, by decide⟩ (hts _ wm6_62) (hts (Cond.privateMethod yJ5_newCapacity_0f7a4) (in_t6 (List.mem_of_getElem? (i := 35) rfl))) (hts (Cond.instanceMethod yJ5_newCapacity_0f7a4) (in_t6 (List.mem_of_getElem? (i := 36) rfl)))
theorem n_s1 {args : Array Value} {s : State} (hts : ∀ w ∈ lw_tbl, w.before args s = true) : (Cond.selects "java/lang/StringBuilder" yJ5_ensureCapacityInternal_d00df yJ5_ensureCapacityInternal_d00df).before args s = true := sel_priv (y0 := yJ5_isLatin1_aae02) (y := yJ5_ensureCapacityInternal_d00df) rfl ⟨by decide, by decide⟩ (hts _ wm6_62) (hts (Cond.privateMethod yJ5_ensureCapacityInternal_d00df) (in_t6 (List.mem_of_getElem? (i := 31) rfl))) (hts (Cond.instanceMethod yJ5_ensureCapacityInternal_d00df) (in_t6 (List.mem_of_getElem? (i := 32) rfl)))
theorem n_s2 {args : Array Value} {s : State} (hts : ∀ w ∈ lw_tbl, w.before args s = true) : (Cond.selects "java/lang/StringBuilder" yJ5_putStringAt_47b60 yJ5_putStringAt_47b60).before args s = true := sel_priv (y0 := yJ5_isLatin1_aae02) (y := yJ5_putStringAt_47b60) rfl ⟨by decide, by decide⟩ (hts _ wm6_62) (hts (Cond.privateMethod yJ5_putStringAt_47b60) (in_t6 (List.mem_of_getElem? (i := 182) rfl))) (hts (Cond.instanceMethod yJ5_putStringAt_47b60) (in_t6 (List.mem_of_getElem? (i := 183) rfl)))
theorem n_s3 {args : Array Value} {s : State} (hts : ∀ w ∈ lw_tbl, w.before args s = true) : (Cond.selects "java/lang/StringBuilder" yJ5_inflateIfNeededFor_a7421 yJ5_inflateIfNeededFor_a7421).before args s = true := sel_priv (y0 := yJ5_isLatin1_aae02) (y := yJ5_inflateIfNeededFor_a7421) rfl ⟨by decide, by decide⟩ (hts _ wm6_62) (hts (Cond.privateMethod yJ5_inflateIfNeededFor_a7421) (in_t6 (List.mem_of_getElem? (i := 186) rfl))) (hts (Cond.instanceMethod yJ5_inflateIfNeededFor_a7421) (in_t6 (List.mem_of_getElem? (i := 187) rfl)))
def adS (aS : Nat → Nat × Nat) (tC tM qF : Nat) : ID → Nat := fun i => match i.1 with
  | 15 => (aS i.2.1).1
  | 16 => (aS i.2.1).2
  | 17 => tC
  | 18 => tM
  | 19 => qF
  | _ => 0
set_option maxRecDepth 8000 in
theorem w_still {args : Array Value} {s : State} (hts : ∀ w ∈ lw_tbl, w.before args s = true) (hn : narrow_1.before args s = true) {A : Nat → Prop} (hA : ∀ a : Nat, a < s.heap.size → ¬ A a) {b L : Nat} {xs : Nat → Int32} (hX : va_X b L xs s s.heap) : ∃ ad : ID → Nat, ∀ w : WP, wAd w = ad → E00 w b L xs A s s.heap := by
  have h0 : ∀ i : Nat, ∃ q : Nat × Nat, i < 32 → (Term.string (sTab.getD i ("", 0, "")).1 (sTab.getD i ("", 0, "")).2.1).eval args s none [] s = some (.ref q.1) ∧ va_O "java/lang/String" q.1 A s s.heap ∧ va_OF "java/lang/String" "coder" "B" (.int 0) q.1 A s s.heap ∧ va_OF "java/lang/String" "value" "[B" (.ref q.2) q.1 A s s.heap ∧ va_T .byte q.2 (sTx i).length (fun j => .int ((sTx i).getD j 0)) A s s.heap := by
    intro i
    by_cases hi : i < 32
    · obtain ⟨q, hq⟩ := SX_ok (A := A) (nS_all hn i hi) (sTx_len i hi) hA
      exact ⟨q, fun _ => hq⟩
    · exact ⟨(0, 0), fun h => absurd h hi⟩
  obtain ⟨aS, haS⟩ := Classical.axiomOfChoice h0
  obtain ⟨tC, eC, TC⟩ := va_Tof (N := 100) (f := fun j => .int (dg1 j)) (A := A) (by decide) (n_g5 hn) (va_eqt (n_g6 hn)) (fun j hj => va_eqt (n_DigitOnes hn j hj)) hA
  obtain ⟨tM, eM, TM⟩ := va_Tof (N := 100) (f := fun j => .int (dg2 j)) (A := A) (by decide) (n_g7 hn) (va_eqt (n_g8 hn)) (fun j hj => va_eqt (n_DigitTens hn j hj)) hA
  obtain ⟨qF, hqF⟩ : ∃ q, va_Z "jdk/internal/util/Preconditions" "SIOOBE_FORMATTER" "Ljava/util/function/BiFunction;" (sfV q) A s s.heap := by
    rcases va_Zqof (hts _ n_l2) (hts _ (in_t1 (List.mem_of_getElem? (i := 9) rfl))) (n_g2 hn) hA with h | ⟨t, h⟩
    · exact ⟨0, by rw [sfV_0 rfl]; exact h⟩
    · exact ⟨t + 1, by rw [sfV_n (Nat.succ_ne_zero t)]; exact h⟩
  have hXT : va_T .int b L (fun j => .int (xs j)) A s s.heap := by
    obtain ⟨scr, h1, h2, h3, h4, h5⟩ := hX
    exact ⟨scr, h1, h2, h3, Nat.le_of_eq h4.symm, by rw [h4], h5, hA b (Array.getElem?_eq_some_iff.mp h1).1⟩
  refine ⟨adS aS tC tM qF, fun w hw => ?_⟩
  have k15 : ∀ k, sAd w k = (aS k).1 := fun k => by show wAd w (15, k, 0, 0) = _; rw [hw]; rfl
  have k16 : ∀ k, wAd w (16, k, 0, 0) = (aS k).2 := fun k => by rw [hw]; rfl
  have k17 : wAd w (17, 0, 0, 0) = tC := by rw [hw]; rfl
  have k18 : wAd w (18, 0, 0, 0) = tM := by rw [hw]; rfl
  have k19 : wAd w (19, 0, 0, 0) = qF := by rw [hw]; rfl
  refine ⟨⟨⟨va_Zof (hts _ n_l1) (hts _ (in_t1 (List.mem_of_getElem? (i := 4) rfl))) (va_eqt (n_g1 hn)) hA, by rw [k19]; exact hqF, fun i hi => ?_, fun i hi => ?_⟩, ⟨by rw [k17]; exact va_Zref (hts _ n_l5) (hts _ (in_t1 (List.mem_of_getElem? (i := 11) rfl))) eC hA, by rw [k17]; exact TC, by rw [k18]; exact va_Zref (hts _ n_l6) (hts _ (in_t1 (List.mem_of_getElem? (i := 11) rfl))) eM hA, by rw [k18]; exact TM, fun y hy => ?_⟩⟩, ⟨vx_Zqof (hts _ n_l3) (hts _ (in_t1 (List.mem_of_getElem? (i := 20) rfl))) (n_g3 hn) hA, vx_Zqof (hts _ n_l4) (hts _ (in_t1 (List.mem_of_getElem? (i := 20) rfl))) (n_g4 hn) hA, va_Nc.of (n_g9 hn), va_Nc.of (n_g10 hn), va_Nc.of (n_g11 hn), va_Nc.of (n_g12 hn)⟩, ⟨fun a => word_at (State.WarmedH.refl s) (Or.inr ⟨_, rfl⟩) (hts _ (in_t1 (List.mem_of_getElem? (i := 51) rfl))), ⟨fun a => word_at (State.WarmedH.refl s) (Or.inr ⟨_, rfl⟩) (hts _ (in_t2 (List.mem_of_getElem? (i := 186) rfl))), fun a => word_at (State.WarmedH.refl s) (Or.inr ⟨_, rfl⟩) (hts _ (in_t7 (List.mem_of_getElem? (i := 20) rfl)))⟩, va_AO.of (hts _ n_o1), va_AO.of (hts _ n_o2)⟩, hXT⟩
  · rw [k15]
    exact vk_R.of (hts _ (nR_all i hi)) (haS i hi).1
  · rw [k15, k16]
    exact (haS i hi).2
  · rcases List.mem_cons.mp hy with rfl | hy
    · exact va_Nw.of rfl (n_s0 hts)
    rcases List.mem_cons.mp hy with rfl | hy
    · exact va_Nw.of rfl (n_s1 hts)
    rcases List.mem_cons.mp hy with rfl | hy
    · exact va_Nw.of rfl (n_s2 hts)
    rcases List.mem_cons.mp hy with rfl | hy
    · exact va_Nw.of rfl (n_s3 hts)
    · cases hy
theorem w_start {args : Array Value} {s : State} (hts : ∀ w ∈ lw_tbl, w.before args s = true) (hn : narrow_1.before args s = true) (l : Launch) (hst : l.stackTraces = false) {b L : Nat} {xs : Nat → Int32} (hX : va_X b L xs s s.heap) (hL : L < 2 ^ 31) : ∃ w : WP, wL w = l ∧ (∀ i, ¬ wOk w i) ∧ (∀ i, ¬ wFr w i) ∧ gK w s ∧ gD w ∧ gS w ∧ gZ w ∧ gY w ∧ gSc w b L xs ∧ wE w (gA w s.heap.size) s s.heap := by
  obtain ⟨ad, had⟩ := w_still hts hn (A := fun q => s.heap.size ≤ q) (fun a h h2 => absurd h2 (Nat.not_le.mpr h)) hX
  obtain ⟨cX2, iX2, hX2⟩ := u_known (C := RX2) (T := TX2) (N := 5) (n := 5) hts (fun c hc => (inF2 c hc).1) (hts _ (in_t2 (List.mem_of_getElem? (i := 30) rfl)))
  obtain ⟨cX4, iX4, hX4⟩ := u_known (C := RX4) (T := TX4) (N := 10) (n := 10) hts (fun c hc => (inF4 c hc).1) (hts _ (in_t1 (List.mem_of_getElem? (i := 53) rfl)))
  obtain ⟨cX5, iX5, hX5⟩ := u_known (C := RX5) (T := TX5) (N := 19) (n := 19) hts (fun c hc => (inF5 c hc).1) (hts _ (in_t1 (List.mem_of_getElem? (i := 36) rfl)))
  obtain ⟨cX6, iX6, hX6⟩ := u_known (C := RX6) (T := TX6) (N := 3) (n := 3) hts (fun c hc => (inF6 c hc).1) (hts _ (in_t1 (List.mem_of_getElem? (i := 208) rfl)))
  obtain ⟨cX7, iX7, hX7⟩ := u_known (C := RX7) (T := TX7) (N := 4) (n := 4) hts (fun c hc => (inF7 c hc).1) (hts _ (in_t1 (List.mem_of_getElem? (i := 108) rfl)))
  obtain ⟨cX8, iX8, hX8⟩ := u_known (C := RX8) (T := TX8) (N := 1) (n := 1) hts (fun c hc => (inF8 c hc).1) (hts _ (in_t1 (List.mem_of_getElem? (i := 42) rfl)))
  obtain ⟨cX9, iX9, hX9⟩ := u_known (C := RX9) (T := TX9) (N := 9) (n := 9) hts (fun c hc => (inF9 c hc).1) (hts _ (in_t1 (List.mem_of_getElem? (i := 228) rfl)))
  obtain ⟨cX10, iX10, hX10⟩ := u_known (C := RX10) (T := TX10) (N := 9) (n := 9) hts (fun c hc => (inF10 c hc).1) (hts _ (in_t1 (List.mem_of_getElem? (i := 28) rfl)))
  obtain ⟨cJ0, iJ0, hJ0⟩ := u_known (C := RJ0) (T := TJ0) (N := 4) (n := 4) hts (fun c hc => (inFJ0 c hc).1) (hts _ (in_t6 (List.mem_of_getElem? (i := 97) rfl)))
  obtain ⟨cJ4, iJ4, hJ4⟩ := u_known (C := RJ4) (T := TJ4) (N := 4) (n := 4) hts (fun c hc => (inFJ4 c hc).1) (hts _ (in_t5 (List.mem_of_getElem? (i := 234) rfl)))
  obtain ⟨cI, kI, pI, a1, a2, a3⟩ := Cond.arrayClass_spec (args := args) (first := s) (o := none) (s := s) (idx := []) (hts _ (in_t1 (List.mem_of_getElem? (i := 51) rfl)))
  obtain ⟨cJ, kJ, pJ, b1, b2, b3⟩ := Cond.arrayClass_spec (args := args) (first := s) (o := none) (s := s) (idx := []) (hts _ (in_t2 (List.mem_of_getElem? (i := 186) rfl)))
  obtain ⟨cZ, kZ, pZ, z1, z2, z3⟩ := Cond.arrayClass_spec (args := args) (first := s) (o := none) (s := s) (idx := []) (hts _ (in_t7 (List.mem_of_getElem? (i := 20) rfl)))
  obtain ⟨pH, cH, kH, d1, d2, d3, d4, d5⟩ := Cond.arrayOver_spec (args := args) (first := s) (o := none) (s := s) (idx := []) (hts _ n_o1)
  obtain ⟨pF, cF, kF, f1, f2, f3, f4, f5⟩ := Cond.arrayOver_spec (args := args) (first := s) (o := none) (s := s) (idx := []) (hts _ n_o2)
  obtain ⟨D, hD⟩ : ∃ D : va_G, ∀ (k : Nat) (q : vw_C), vwCl[k]? = some q → u_Kn s q.1 q.2.1 q.2.2 (D.1 k) (D.2 k) := by
    refine ⟨(fun k => if k = 0 then cX2 else if k = 1 then cX4 else if k = 2 then cX5 else if k = 3 then cX6 else if k = 4 then cX7 else if k = 5 then cX8 else if k = 6 then cX9 else if k = 7 then cX10 else if k = 8 then cJ0 else cJ4, fun k => if k = 0 then iX2 else if k = 1 then iX4 else if k = 2 then iX5 else if k = 3 then iX6 else if k = 4 then iX7 else if k = 5 then iX8 else if k = 6 then iX9 else if k = 7 then iX10 else if k = 8 then iJ0 else iJ4), fun k q hq => ?_⟩
    match k, hq with
    | 0, hq => cases hq; exact hX2
    | 1, hq => cases hq; exact hX4
    | 2, hq => cases hq; exact hX5
    | 3, hq => cases hq; exact hX6
    | 4, hq => cases hq; exact hX7
    | 5, hq => cases hq; exact hX8
    | 6, hq => cases hq; exact hX9
    | 7, hq => cases hq; exact hX10
    | 8, hq => cases hq; exact hJ0
    | 9, hq => cases hq; exact hJ4
    | k + 10, hq => cases hq
  refine ⟨(l, D, (fun _ => False), (fun _ => False), ad, (cI, cH, cF, cJ, cZ), E00 (l, D, (fun _ => False), (fun _ => False), ad, (cI, cH, cF, cJ, cZ), fun _ _ _ => True) b L xs), rfl, fun _ h => h, fun _ h => h, ⟨TK.of hts, hD, fun k q hq => ?_⟩, ⟨fun _ _ h => h.elim, fun _ h => h, E00_g⟩, fun A U H h => ⟨h.1.1, h.1.2⟩, ⟨hst, fun A U H h => h.2.1⟩, fun A U H h => h.2.2.1, ⟨hL, fun A U H h => h.2.2.2⟩, ?_⟩
  · match k, hq with
    | 0, hq => cases hq; exact ⟨fun N z => ⟨(fun k h => by cases h), kI, a2, pI, a3⟩, a1⟩
    | 1, hq => cases hq; exact ⟨fun N z => ⟨(fun k h => by cases h), kH, d3, pH, d4⟩, kH, pH, d3, d4, d1, d5⟩
    | 2, hq => cases hq; exact ⟨fun N z => ⟨(fun k h => by cases h), kF, f3, pF, f4⟩, kF, pF, f3, f4, f1, f5⟩
    | 3, hq => cases hq; exact ⟨fun N z => ⟨(fun k h => by cases h), kJ, b2, pJ, b3⟩, b1⟩
    | 4, hq => cases hq; exact ⟨fun N z => ⟨(fun k h => by cases h), kZ, z2, pZ, z3⟩, z1⟩
    | k + 5, hq => cases hq
  · exact E00_n (fun q hq => hq.elim (fun ⟨i, h, _⟩ => h.elim) id) (had _ rfl)
