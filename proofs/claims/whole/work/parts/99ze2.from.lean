/-! ===== the world at the law's entry ===== -/
theorem SX_ok {args : Array Value} {s : State} {C : String} {k n : Nat} {tx : List Int32} {A : Nat → Prop} (h : SX args s C k n tx) (hn : n < 2 ^ 31) (hA : ∀ a : Nat, a < s.heap.size → ¬ A a) : ∃ q : Nat × Nat, (Term.string C k).eval args s none [] s = some (.ref q.1) ∧ va_O "java/lang/String" q.1 A s s.heap ∧ va_OF "java/lang/String" "coder" "B" (.int 0) q.1 A s s.heap ∧ va_OF "java/lang/String" "value" "[B" (.ref q.2) q.1 A s s.heap ∧ va_T .byte q.2 n (fun j => .int (tx.getD j 0)) A s s.heap := by
  obtain ⟨h1, h2, h3, h4, h5⟩ := h
  obtain ⟨a, c, cA, kA, q1, q2, q3, q4, q5, q6, -⟩ := Cond.exactly_spec (args := args) (first := s) (o := none) (s := s) (idx := []) (t := Term.string C k) (cls := "java/lang/String") h1
  obtain ⟨t, ht, hT⟩ := va_Tof (f := fun j => .int (tx.getD j 0)) (A := A) hn h3 (va_eqt h4) (fun j hj => va_eqt (h5 j hj)) hA
  exact ⟨(a, t), q1, ⟨cA, q3, q5, by rw [q6]; exact q2, hA a (Array.getElem?_eq_some_iff.mp q3).1⟩, vk_OFof q1 (va_eqt h2) hA, vk_OFof q1 ht hA, hT⟩
def YY (U : State) : Prop := (∀ a, (Cond.arrayClass FieldType.int).before a U = true) ∧ (∀ a, (Cond.arrayClass FieldType.long).before a U = true) ∧ va_AO "HedgeMessages$Hedge" U ∧ va_AO "HedgeMessages$CommandForm" U
/-- all that stands still -/
def E00 (w : WP) (A : Nat → Prop) (U : State) (H : Heap) : Prop := EXs w A U H ∧ EXe w A U H ∧ EXx w A U H ∧ YY U
theorem E00_w {w : WP} {A : Nat → Prop} {u U : State} {H : Heap} (hW : u.WarmedH U.vm) (h : E00 w A u H) : E00 w A U H := by
  have hvm := hW.alike
  obtain ⟨⟨s1, s2, s3, s4⟩, ⟨e1, e2, e3, e4, e5, e6, e7⟩, ⟨x1, x2, x3, x4, x5, x6⟩, y⟩ := h
  refine ⟨⟨va_Z.moved hvm s1, va_Z.moved hvm s2, fun i hi => vk_R.warm hW (s3 i hi), fun i hi => ?_⟩, ⟨va_Z.moved hvm e1, va_T.moved hvm e2, va_Z.moved hvm e3, va_T.moved hvm e4, fun k hk => ?_, fun k hk => va_Z.moved hvm (e6 k hk), e7⟩, ⟨vx_Zq.moved hvm x1, vx_Zq.moved hvm x2, va_Nc.moved hvm x3, va_Nc.moved hvm x4, va_Nc.moved hvm x5, va_Nc.moved hvm x6⟩, fun a => word_at hW (Or.inr ⟨_, rfl⟩) (y.1 a), fun a => word_at hW (Or.inr ⟨_, rfl⟩) (y.2.1 a), va_AO.moved hvm y.2.2.1, va_AO.moved hvm y.2.2.2⟩
  · obtain ⟨a, b, c, d⟩ := s4 i hi
    exact ⟨va_O.moved hvm a, va_OF.moved hvm b, va_OF.moved hvm c, va_T.moved hvm d⟩
  · obtain ⟨a, b, c, d, e, f, g⟩ := e5 k hk
    exact ⟨va_O.moved hvm a, va_OF.moved hvm b, va_OF.moved hvm c, va_OF.moved hvm d, va_OF.moved hvm e, va_OF.moved hvm f, va_OF.moved hvm g⟩
theorem E00_k {w : WP} {A : Nat → Prop} {U : State} {H H1 : Heap} (hk : ∀ a, a < H.size → ¬ A a → H1[a]? = H[a]?) (h : E00 w A U H) : E00 w A U H1 := by
  obtain ⟨⟨s1, s2, s3, s4⟩, ⟨e1, e2, e3, e4, e5, e6, e7⟩, ⟨x1, x2, x3, x4, x5, x6⟩, y⟩ := h
  refine ⟨⟨s1.kept hk, s2.kept hk, s3, fun i hi => ?_⟩, ⟨e1.kept hk, e2.kept hk, e3.kept hk, e4.kept hk, fun k hi => ?_, fun k hi => (e6 k hi).kept hk, e7⟩, ⟨x1.kept hk, x2.kept hk, x3, x4, x5, x6⟩, y⟩
  · obtain ⟨a, b, c, d⟩ := s4 i hi
    exact ⟨a.kept hk, b.kept hk, c.kept hk, d.kept hk⟩
  · obtain ⟨a, b, c, d, e, f, g⟩ := e5 k hi
    exact ⟨a.kept hk, b.kept hk, c.kept hk, d.kept hk, e.kept hk, f.kept hk, g.kept hk⟩
theorem E00_n {w : WP} {A B : Nat → Prop} {U : State} {H : Heap} (hk : ∀ q, B q → A q) (h : E00 w A U H) : E00 w B U H := by
  obtain ⟨⟨s1, s2, s3, s4⟩, ⟨e1, e2, e3, e4, e5, e6, e7⟩, ⟨x1, x2, x3, x4, x5, x6⟩, y⟩ := h
  refine ⟨⟨s1.narrow hk, s2.narrow hk, s3, fun i hi => ?_⟩, ⟨e1.narrow hk, e2.narrow hk, e3.narrow hk, e4.narrow hk, fun k hi => ?_, fun k hi => (e6 k hi).narrow hk, e7⟩, ⟨x1.narrow hk, x2.narrow hk, x3, x4, x5, x6⟩, y⟩
  · obtain ⟨a, b, c, d⟩ := s4 i hi
    exact ⟨a.narrow hk, b.narrow hk, c.narrow hk, d.narrow hk⟩
  · obtain ⟨a, b, c, d, e, f, g⟩ := e5 k hi
    exact ⟨a.narrow hk, b.narrow hk, c.narrow hk, d.narrow hk, e.narrow hk, f.narrow hk, g.narrow hk⟩
theorem E00_g {w : WP} : gE (E00 w) := by
  refine ⟨fun A s U H h hW => E00_w hW h, fun A u U H h e => ?_, fun A U H H1 h hk => E00_k hk h, fun A B U H h hk => E00_n hk h⟩
  have hW : u.WarmedH U.vm := by
    rw [← e]
    exact State.WarmedH.refl u
  exact E00_w hW h
def adS (aF : Nat → Nat) (aS : Nat → Nat × Nat) (tC tM qF : Nat) : ID → Nat := fun i => match i.1 with
  | 13 => aF i.2.1
  | 15 => (aS i.2.1).1
  | 16 => (aS i.2.1).2
  | 17 => tC
  | 18 => tM
  | 19 => qF
  | _ => 0
set_option maxRecDepth 8000 in
theorem w_still {args : Array Value} {s : State} (hts : ∀ w ∈ lw_tbl, w.before args s = true) (hn : narrow_1.before args s = true) {A : Nat → Prop} (hA : ∀ a : Nat, a < s.heap.size → ¬ A a) : ∃ ad : ID → Nat, ∀ w : WP, wAd w = ad → E00 w A s s.heap := by
  have h0 : ∀ i : Nat, ∃ q : Nat × Nat, i < 46 → (Term.string (sTab.getD i ("", 0, "")).1 (sTab.getD i ("", 0, "")).2.1).eval args s none [] s = some (.ref q.1) ∧ va_O "java/lang/String" q.1 A s s.heap ∧ va_OF "java/lang/String" "coder" "B" (.int 0) q.1 A s s.heap ∧ va_OF "java/lang/String" "value" "[B" (.ref q.2) q.1 A s s.heap ∧ va_T .byte q.2 (sTx i).length (fun j => .int ((sTx i).getD j 0)) A s s.heap := by
    intro i
    by_cases hi : i < 46
    · obtain ⟨q, hq⟩ := SX_ok (A := A) (nS_all hn i hi) (sTx_len i hi) hA
      exact ⟨q, fun _ => hq⟩
    · exact ⟨(0, 0), fun h => absurd h hi⟩
  obtain ⟨aS, haS⟩ := Classical.axiomOfChoice h0
  have h1 : ∀ k : Nat, ∃ q : Nat, k < 8 → (stF k).eval args s none [] s = some (.ref q) ∧ va_O "HedgeMessages$CommandForm" q A s s.heap := by
    intro k
    by_cases hk : k < 8
    · obtain ⟨a, c, cA, kA, q1, q2, q3, q4, q5, q6, -⟩ := Cond.exactly_spec (args := args) (first := s) (o := none) (s := s) (idx := []) (t := stF k) (cls := "HedgeMessages$CommandForm") (nE_all hn k hk).1
      exact ⟨a, fun _ => ⟨q1, cA, q3, q5, by rw [q6]; exact q2, hA a (Array.getElem?_eq_some_iff.mp q3).1⟩⟩
    · exact ⟨0, fun h => absurd h hk⟩
  obtain ⟨aF, haF⟩ := Classical.axiomOfChoice h1
  obtain ⟨tC, eC, TC⟩ := va_Tof (N := 8) (f := fun j => .ref (aF j)) (A := A) (by decide) (n_g5 hn) (va_eqt (n_g6 hn)) (fun j hj => va_eqv (nE_all hn j hj).2.2.2.2.2.2.2.1 (haF j hj).1) hA
  obtain ⟨tM, eM, TM⟩ := va_Tof (N := 8) (f := fun j => .int (nI (j + 1))) (A := A) (by decide) (n_g7 hn) (va_eqt (n_g8 hn)) (fun j hj => va_eqt (nE_all hn j hj).2.2.2.2.2.2.2.2) hA
  obtain ⟨qF, hqF⟩ : ∃ q, va_Z "jdk/internal/util/Preconditions" "SIOOBE_FORMATTER" "Ljava/util/function/BiFunction;" (sfV q) A s s.heap := by
    rcases va_Zqof (hts _ n_l2) (hts _ wm1_11) (n_g2 hn) hA with h | ⟨t, h⟩
    · exact ⟨0, by rw [sfV_0 rfl]; exact h⟩
    · exact ⟨t + 1, by rw [sfV_n (Nat.succ_ne_zero t)]; exact h⟩
  refine ⟨adS aF aS tC tM qF, fun w hw => ?_⟩
  have k13 : ∀ k, fAd w k = aF k := fun k => by show wAd w (13, k, 0, 0) = _; rw [hw]; rfl
  have k15 : ∀ k, sAd w k = (aS k).1 := fun k => by show wAd w (15, k, 0, 0) = _; rw [hw]; rfl
  have k16 : ∀ k, wAd w (16, k, 0, 0) = (aS k).2 := fun k => by rw [hw]; rfl
  have k17 : wAd w (17, 0, 0, 0) = tC := by rw [hw]; rfl
  have k18 : wAd w (18, 0, 0, 0) = tM := by rw [hw]; rfl
  have k19 : wAd w (19, 0, 0, 0) = qF := by rw [hw]; rfl
  refine ⟨⟨va_Zof (hts _ n_l1) (hts _ wm1_9) (va_eqt (n_g1 hn)) hA, by rw [k19]; exact hqF, fun i hi => ?_, fun i hi => ?_⟩, ⟨by rw [k17]; exact va_Zref (hts _ n_l5) (hts _ wm1_1) eC hA, ?_, by rw [k18]; exact va_Zref (hts _ n_l6) (hts _ wm1_21) eM hA, by rw [k18]; exact TM, fun k hk => ?_, fun k hk => ?_, fun j k hj hk e => ?_⟩, ⟨vx_Zqof (hts _ n_l3) (hts _ wm1_15) (n_g3 hn) hA, vx_Zqof (hts _ n_l4) (hts _ wm1_15) (n_g4 hn) hA, va_Nc.of (n_g9 hn), va_Nc.of (n_g10 hn), va_Nc.of (n_g11 hn), va_Nc.of (n_g12 hn)⟩, fun a => word_at (State.WarmedH.refl s) (Or.inr ⟨_, rfl⟩) (hts _ wm1_50), fun a => word_at (State.WarmedH.refl s) (Or.inr ⟨_, rfl⟩) (hts _ wm9_194), va_AO.of (hts _ n_o1), va_AO.of (hts _ n_o2)⟩
  · rw [k15]
    exact vk_R.of (hts _ (nR_all i hi)) (haS i hi).1
  · rw [k15, k16]
    exact (haS i hi).2
  · rw [k17, show (fun j => Value.ref (fAd w j)) = fun j => .ref (aF j) from funext fun j => by rw [k13]]
    exact TC
  · obtain ⟨x1, x2, x3, x4, x5, x6, x7, x8, x9⟩ := nE_all hn k hk
    obtain ⟨y1, y2⟩ := haF k hk
    have hc : cfW.getD k 0 < 46 := by
      match k, hk with
      | 0, _ | 1, _ | 2, _ | 3, _ | 4, _ | 5, _ | 6, _ | 7, _ => decide
      | k + 8, h => exact absurd h (by omega)
    rw [k13, k15]
    exact ⟨y2, vk_OFof y1 (va_eqt x2) hA, vk_OFof y1 (va_eqv x3 (haS _ hc).1) hA, vk_OFof y1 (va_eqt x4) hA, vk_OFof y1 (va_eqt x5) hA, vk_OFof y1 (va_eqt x6) hA, vk_OFof y1 (va_eqt x7) hA⟩
  · rw [k13]
    exact va_Zref (hts _ (nL_all k hk)) (hts _ wm1_23) (haF k hk).1 hA
  · rw [k13, k13] at e
    by_cases h1 : j < k
    · exact absurd e (va_neR (nD_all hn k hk j h1) (haF j hj).1 (haF k hk).1)
    · by_cases h2 : k < j
      · exact absurd e.symm (va_neR (nD_all hn j hj k h2) (haF k hk).1 (haF j hj).1)
      · omega
theorem w_start {args : Array Value} {s : State} (hts : ∀ w ∈ lw_tbl, w.before args s = true) (hn : narrow_1.before args s = true) (l : Launch) (hst : l.stackTraces = false) : ∃ w : WP, wL w = l ∧ (∀ i, ¬ wOk w i) ∧ (∀ i, ¬ wFr w i) ∧ gK w s ∧ gD w ∧ gS w ∧ gZ w ∧ gY w ∧ wE w (gA w s.heap.size) s s.heap := by
  obtain ⟨ad, had⟩ := w_still hts hn (A := fun q => s.heap.size ≤ q) (fun a h h2 => absurd h2 (Nat.not_le.mpr h))
  obtain ⟨c2, i2, h2⟩ := u_known (C := RX2) (T := TX2) (N := 5) (n := 5) hts (fun c hc => (inF2 c hc).1) (hts _ (in_t2 (List.mem_of_getElem? (i := 34) rfl)))
  obtain ⟨c4, i4, h4⟩ := u_known (C := RX4) (T := TX4) (N := 10) (n := 10) hts (fun c hc => (inF4 c hc).1) (hts _ (in_t1 (List.mem_of_getElem? (i := 52) rfl)))
  obtain ⟨c5, i5, h5⟩ := u_known (C := RX5) (T := TX5) (N := 19) (n := 19) hts (fun c hc => (inF5 c hc).1) (hts _ (in_t1 (List.mem_of_getElem? (i := 35) rfl)))
  obtain ⟨c6, i6, h6⟩ := u_known (C := RX6) (T := TX6) (N := 3) (n := 3) hts (fun c hc => (inF6 c hc).1) (hts _ (in_t1 (List.mem_of_getElem? (i := 207) rfl)))
  obtain ⟨c7, i7, h7⟩ := u_known (C := RX7) (T := TX7) (N := 4) (n := 4) hts (fun c hc => (inF7 c hc).1) (hts _ (in_t1 (List.mem_of_getElem? (i := 107) rfl)))
  obtain ⟨c8, i8, h8⟩ := u_known (C := RX8) (T := TX8) (N := 1) (n := 1) hts (fun c hc => (inF8 c hc).1) (hts _ (in_t1 (List.mem_of_getElem? (i := 41) rfl)))
  obtain ⟨c9, i9, h9⟩ := u_known (C := RX9) (T := TX9) (N := 9) (n := 9) hts (fun c hc => (inF9 c hc).1) (hts _ (in_t1 (List.mem_of_getElem? (i := 227) rfl)))
  obtain ⟨c10, i10, h10⟩ := u_known (C := RX10) (T := TX10) (N := 9) (n := 9) hts (fun c hc => (inF10 c hc).1) (hts _ (in_t1 (List.mem_of_getElem? (i := 27) rfl)))
  obtain ⟨c11, i11, h11⟩ := u_known (C := RX11) (T := TX11) (N := 23) (n := 23) hts (fun c hc => (inF11 c hc).1) (hts _ (in_t6 (List.mem_of_getElem? (i := 170) rfl)))
  obtain ⟨cI, kI, pI, a1, a2, a3⟩ := Cond.arrayClass_spec (args := args) (first := s) (o := none) (s := s) (idx := []) (hts _ wm1_50)
  obtain ⟨cJ, kJ, pJ, b1, b2, b3⟩ := Cond.arrayClass_spec (args := args) (first := s) (o := none) (s := s) (idx := []) (hts _ wm9_194)
  obtain ⟨pH, cH, kH, d1, d2, d3, d4, d5⟩ := Cond.arrayOver_spec (args := args) (first := s) (o := none) (s := s) (idx := []) (hts _ n_o1)
  obtain ⟨pF, cF, kF, f1, f2, f3, f4, f5⟩ := Cond.arrayOver_spec (args := args) (first := s) (o := none) (s := s) (idx := []) (hts _ n_o2)
  obtain ⟨D, hD⟩ : ∃ D : va_G, ∀ (k : Nat) (q : vw_C), vwCl[k]? = some q → u_Kn s q.1 q.2.1 q.2.2 (D.1 k) (D.2 k) := by
    refine ⟨(fun k => if k = 0 then c2 else if k = 1 then c4 else if k = 2 then c5 else if k = 3 then c6 else if k = 4 then c7 else if k = 5 then c8 else if k = 6 then c9 else if k = 7 then c10 else c11, fun k => if k = 0 then i2 else if k = 1 then i4 else if k = 2 then i5 else if k = 3 then i6 else if k = 4 then i7 else if k = 5 then i8 else if k = 6 then i9 else if k = 7 then i10 else i11), fun k q hq => ?_⟩
    match k, hq with
    | 0, hq => cases hq; exact h2
    | 1, hq => cases hq; exact h4
    | 2, hq => cases hq; exact h5
    | 3, hq => cases hq; exact h6
    | 4, hq => cases hq; exact h7
    | 5, hq => cases hq; exact h8
    | 6, hq => cases hq; exact h9
    | 7, hq => cases hq; exact h10
    | 8, hq => cases hq; exact h11
    | k + 9, hq => cases hq
  refine ⟨(l, D, (fun _ => False), (fun _ => False), ad, (cI, cH, cF, cJ), E00 (l, D, (fun _ => False), (fun _ => False), ad, (cI, cH, cF, cJ), fun _ _ _ => True)), rfl, fun _ h => h, fun _ h => h, ⟨TK.of hts, hD, fun k q hq => ?_⟩, ⟨fun _ _ h => h.elim, fun _ h => h, E00_g⟩, fun A U H h => ⟨h.1, h.2.1⟩, ⟨hst, fun A U H h => h.2.2.1⟩, fun A U H h => h.2.2.2, ?_⟩
  · match k, hq with
    | 0, hq => cases hq; exact ⟨fun N z => ⟨(fun k h => by cases h), kI, a2, pI, a3⟩, a1⟩
    | 1, hq => cases hq; exact ⟨fun N z => ⟨(fun k h => by cases h), kH, d3, pH, d4⟩, kH, pH, d3, d4, d1, d5⟩
    | 2, hq => cases hq; exact ⟨fun N z => ⟨(fun k h => by cases h), kF, f3, pF, f4⟩, kF, pF, f3, f4, f1, f5⟩
    | 3, hq => cases hq; exact ⟨fun N z => ⟨(fun k h => by cases h), kJ, b2, pJ, b3⟩, b1⟩
    | k + 4, hq => cases hq
  · exact E00_n (fun q hq => hq.elim (fun ⟨i, h, _⟩ => h.elim) id) (had _ rfl)
