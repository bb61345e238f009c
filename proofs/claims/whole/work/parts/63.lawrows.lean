/-! ===== lawrows: the law's own walk: the script, the answer, calls of methods with handlers ===== -/
theorem lgself (x : Int64) : lg_cmp x x = 0 := by
  unfold lg_cmp
  simp
/-- the script stands still -/
def gSc (X : CX) (b L : Nat) (xs : Nat → Int32) : Prop := match X with
  | (p, e, R, s, m, args, below, meth, c, n, A) => va_X b L xs s s.heap ∧ b < s.heap.size ∧ ¬ A b
section LAWROWS
variable {w : WP} {X : CX} {cc : ByteArray} {own : String} {ret : Option FieldType} {d nL : Nat} {Q : QT} {ct : CT} {pc : Nat} {lo : List (Nat × Value)} {st : List Value} {Ω : OM}
theorem r_sld (C : gC w X cc own ret d nL) {b L : Nat} {xs : Nat → Int32} (hX : gSc X b L xs) {x v : Int32} (hin : vp_in x L) (hv : xs x.toNatClampNeg = v) (hd : decode cc pc = .ok (.iaload, 1)) (kk : gU w X Q ct (pc + 1) lo (.int v :: st)) : gU w X Q ct pc lo (.int x :: .ref b :: st) := by
  obtain ⟨p, e, R, s, m, args, below, meth, c, n, A⟩ := X
  subst hv
  exact fun H locs ls hP hS hl => va_sld C.1 C.2.1 hX.1 hX.2.1 hX.2.2 hS hin hd (kk H locs ls hP hS hl)
theorem r_slen (C : gC w X cc own ret d nL) {b L : Nat} {xs : Nat → Int32} (hX : gSc X b L xs) (hd : decode cc pc = .ok (.arraylength, 1)) (kk : gU w X Q ct (pc + 1) lo (.int (nI L) :: st)) : gU w X Q ct pc lo (.ref b :: st) := by
  obtain ⟨p, e, R, s, m, args, below, meth, c, n, A⟩ := X
  exact fun H locs ls hP hS hl => va_slen C.1 C.2.1 hX.1 hX.2.1 hX.2.2 hS hd (kk H locs ls hP hS hl)
theorem r_lald (C : gC w X cc own ret d nL) (hok : wOk w (14, 13, 0, 0)) {o : Nat → Int64} (e : Ω.2.2 = o) (hd : decode cc pc = .ok (.laload, 1)) (kk : gU w X Q (cA w Ω) (pc + 1) lo (.long (o 0) :: st)) : gU w X Q (cA w Ω) pc lo (.int 0 :: .ref (wAd w (14, 13, 0, 0)) :: st) := by
  subst e
  obtain ⟨p, e, R, s, m, args, below, meth, c, n, A⟩ := X
  intro H locs ls hP hS hl
  have h1 := hP _ hok
  exact va_lald (tys := wTy w) C.1 C.2.1 C.2.2.2.2.1.2 (one_P h1) 0 3 rfl rfl (vpb_in (by decide)) hd (kk H locs ls hP hS hl)
theorem r_callH (C : gC w X cc own ret d nL) {y : MethodName} {ccy : ByteArray} {nLy ny idx d' mc ms : Nat} {rety : Option FieldType} {hh : List (Nat × Nat × Nat × Nat)} {v : Option Value} {ct' : CT} (As : List Value) (hM : gMh w d' y ccy nLy rety hh As ct v ct' mc ms) (hcw : Cond.codeWith y ccy nLy rety hh ∈ lw_tbl) (hck : tkw (Cond.codeWith y ccy nLy rety hh) = true) (hini : Cond.initialized y.cls ∈ lw_tbl) (hsta : Cond.static y ∈ lw_tbl) (hy : y.cls ≠ "java/lang/invoke/MethodHandle" ∧ y.cls ≠ "java/lang/invoke/VarHandle" ∧ (parseMethodDescriptor y.desc).map (fun d => d.parameters.length) = some ny) (hli : Cond.methodLink own idx y ∈ lw_tbl) (hn : As.length = ny) (hdd : d' + 1 ≤ d) (hnl : nLy ≤ 21) (hst : (st.map fun v => v.category).sum ≤ 8) {stk : List Value} (hstk : stk = As.reverse ++ st) (hd : decode cc pc = .ok (.invokestatic idx, 3)) (hq : qOk X (Q.1, Q.2.1 + mc, Q.2.2 + ms)) (k : gU w X (Q.1, Q.2.1 + mc, Q.2.2 + ms) ct' (pc + 3) lo (v.toList ++ st)) : gU w X Q ct pc lo stk := by
  obtain ⟨p, e, R, s, m, args, below, meth, c, n, A⟩ := X
  intro H locs ls hP hS hl T hT X9
  have hA : A = gA w s.heap.size := C.2.2.2.2.2.2.2.2.2.1
  subst hA
  have hR := C.2.2.2.2.2.2.2.2.2.2.1
  have hr := vx_runSW (As := As) (rest := st) (Ts := []) (own := own) (locs := locs) (cells := Q.2.1) (slots := Q.2.2) (p := p) (e := e) (R := R) (args := args) (below := below) (meth := meth) (c := c) (g := F0 m pc ls stk) (cc := cc) (nL := nL) (H := H) ⟨C.1, C.2.1, C.2.2.1, C.2.2.2.1, fun _ h => by cases h⟩ (hM H.size) ⟨⟨rfl, rfl, Nat.le_trans hdd hR.1, by have := hR.2; show 8 + (nLy + 11) + 40 * d' ≤ R.locals; omega, fun c9 hc a' U hW => by rw [List.mem_singleton.mp hc]; exact (C.2.2.2.2.1.1.warm hW).use hcw hck, List.mem_cons_self⟩, C.2.2.2.2.1.1.use hcw hck, C.2.2.2.2.1.1.use hini rfl, ⟨hy.1, hy.2.1⟩, fun sig h => by have h2 := hy.2.2; rw [h] at h2; exact (Option.some.inj h2).symm, C.2.2.2.2.1.1.use hli rfl, C.2.2.2.2.1.1.use hsta rfl⟩ ⟨(gPc C.2.2.2.2.1 C.2.2.2.2.2.1 hP C.2.2.2.2.2.2.2.2.2.2.2 hS).1, (gPc C.2.2.2.2.1 C.2.2.2.2.2.1 hP C.2.2.2.2.2.2.2.2.2.2.2 hS).2⟩ rfl hn (by show ls.size = nL; rw [hl.1]; exact C.2.2.2.2.2.2.2.2.1) hstk (lv_room hst) hd hq
  have hA9 : ∀ q, q < H.size → gA w H.size q → gA w s.heap.size q := fun q h1 h2 => h2.elim Or.inl (fun h => absurd h (Nat.not_le.mpr h1))
  have hf : ∀ q, gA w H.size q → gA w s.heap.size q := fun q h2 => h2.elim Or.inl (fun h => Or.inr (Nat.le_trans hS.1 h))
  obtain ⟨v9, st₀, t, T', L, h0, X', hL, e1, e2, ⟨⟨hv, hp⟩, hz, hk⟩, st9⟩ := hr T hT X9
  cases hv
  rw [h0] at hz hk
  obtain ⟨t2, a1, b1⟩ := k T'.heap (locs ++ L) ls (by rw [e1]; exact hp) ⟨Nat.le_trans hS.1 (by rw [e1]; exact hz), fun q h1 h2 => by rw [e1, hk q (Nat.lt_of_lt_of_le h1 hS.1) (fun z => h2 (hA9 q (Nat.lt_of_lt_of_le h1 hS.1) z))]; exact hS.2.1 q h1 h2, fun q hq => by
      rcases List.mem_append.mp hq with h | h
      · exact hS.2.2 q h
      · exact hf _ (hL q h)⟩ hl T' rfl X'
  exact ⟨t2, st9 t2 a1, b1⟩
theorem r_dstore (C : gC w X cc own ret d nL) {i : Nat} {x : UInt64} {lo' : List (Nat × Value)} (hn : i + 1 < nL) (hl : (i, Value.double x) :: lo.filter (fun q => !(q.1 == i) && (!(q.1 == i + 1) && !(q.1 + 1 == i && q.2.category == 2))) = lo') (hd : decode cc pc = .ok (.dstore i, 2)) (k : gU w X Q ct (pc + 2) lo' st) : gU w X Q ct pc lo (.double x :: st) := by
  obtain ⟨p, e, R, s, m, args, below, meth, c, n, A⟩ := X
  exact fun H locs ls hP hS hl9 => lv_dstore C.1 C.2.1 hd hl9 (by rw [C.2.2.2.2.2.2.2.2.1]; exact hn) hl (fun ls9 h9 => k H locs ls9 hP hS h9)
theorem r_dload (C : gC w X cc own ret d nL) {i k : Nat} {x : UInt64} (hl : lo[k]? = some (i, .double x)) (hd : decode cc pc = .ok (.dload i, 2)) (kk : gU w X Q ct (pc + 2) lo (.double x :: st)) : gU w X Q ct pc lo st := by
  obtain ⟨p, e, R, s, m, args, below, meth, c, n, A⟩ := X
  exact fun H locs ls hP hS hl9 => lv_dload C.1 C.2.1 hd (lv_at hl9 k hl) (kk H locs ls hP hS hl9)
theorem r_dcmp (C : gC w X cc own ret d nL) {x y : UInt64} {op : CmpOp} {v : Int32} (hv : Op.cmpValue (FP.dcmp x y) op = v) (hd : decode cc pc = .ok (.dcmp op, 1)) (kk : gU w X Q ct (pc + 1) lo (.int v :: st)) : gU w X Q ct pc lo (.double y :: .double x :: st) := by
  obtain ⟨p, e, R, s, m, args, below, meth, c, n, A⟩ := X
  subst hv
  exact fun H locs ls hP hS hl => lv_dcmp C.1 C.2.1 hd (kk H locs ls hP hS hl)
end LAWROWS
