/-! ===== does: methods with handlers: reads, does ===== -/
section WRAP
variable {w : WP} {X : CX} {cc : ByteArray} {own : String} {ret : Option FieldType} {d nL : Nat} {Q : QT} {ct : CT} {pc : Nat} {lo : List (Nat × Value)} {st : List Value} {Ω : OM}
/-- a contract of a method with handlers: c cells, n slots may be made -/
def gMh (w : WP) (d : Nat) (y : MethodName) (cc : ByteArray) (nL : Nat) (ret : Option FieldType) (hh : List (Nat × Nat × Nat × Nat)) (av : List Value) (ct : CT) (v : Option Value) (ct' : CT) (mc ms : Nat) : Prop :=
  ∀ sz, Met (wL w) y [.codeWith y cc nL ret hh] { frames := d, cells := mc, slots := ms, locals := 40 * d } (va_Pc av (fun U => U.heap.size = sz ∧ gK w U ∧ gP w ct U.heap ∧ gD w ∧ wE w (gA w sz) U U.heap)) (gQ w v ct' (gA w sz)) mc ms (gA w sz)
/-- the room of such a method, and its handlers -/
def gTh (X : CX) (hh : List (Nat × Nat × Nat × Nat)) (mc ms : Nat) : Prop := match X with
  | (p, e, R, s, m, args, below, meth, c, n, A) => mc ≤ R.cells ∧ ms ≤ R.slots ∧ c.exceptionTable.toList = Jvm.tableOf hh
theorem gMh_of {d : Nat} {y : MethodName} {cc : ByteArray} {nL : Nat} {ret : Option FieldType} {hh : List (Nat × Nat × Nat × Nat)} {av : List Value} {ct : CT} {v : Option Value} {ct' : CT} {mc ms : Nat} (own : String) (hown : y.cls = own) (hy : plainName y.cls = true) (hn : (lg_sl av).length ≤ nL)
    (body : ∀ X : CX, gC w X cc own ret d nL → gTh X hh mc ms → gU w X (qH1 w X (v, ct') mc ms, 0, 0) ct 0 (lv_args 0 av) []) : gMh w d y cc nL ret hh av ct v ct' mc ms := by
  intro sz
  refine va_MetW (cc := cc) (maxL := nL) (ret := ret) (hh := hh) hy rfl ?_
  intro p e s m args below meth c s₁ B hml hv
  obtain ⟨rfl, hsz, hK, hP, hD, hE⟩ := hv
  subst hsz
  subst hown
  have hl := lv_entry av (n := nL) hn
  have hown : s.vm.findClass y.cls = some m.cls := findClass_of_methodNamed B.named
  have ht := vx_table (x := y) B (atoms_spec (ws := [.codeWith y cc nL ret hh]) B.pre _ List.mem_cons_self)
  have hb := body (p, e, { frames := d, cells := mc, slots := ms, locals := 40 * d }, s, m, av.toArray, below, meth, c, nL, gA w s.heap.size) ⟨B.exec, B.bytes, hml, hown, hK, hD, B.returns, B.notSynchronized, rfl, rfl, ⟨Nat.le_refl _, Nat.le_refl _⟩, hE⟩ ⟨Nat.le_refl _, Nat.le_refl _, ht⟩ s.heap [] _ hP va_S.rf hl
  rw [lg_entry_eq]
  exact hb
/-- a reference kept in a local that is no longer read -/
theorem r_callC (C : gC w X cc own ret d nL) {hh : List (Nat × Nat × Nat × Nat)} (hT9 : gTh X hh 1 6) {Q1 : State → Prop} {y : MethodName} {ccy : ByteArray} {nLy ny idx d' b : Nat} {rety : Option FieldType} {E : String} {ct' : CT} (As : List Value) (hM : gMx w d' y ccy nLy rety (.ref b :: As) ct E ct') (Y : gYV y ccy nLy rety ny) (hli : Cond.methodLink own idx y ∈ lw_tbl) (hrc : gRc w ct b y.cls) (hn : As.length = ny) (hdd : d' + 1 ≤ d) (hnl : nLy ≤ 21) (hst : (st.map fun v => v.category).sum ≤ 8) {stk : List Value} (hstk : stk = As.reverse ++ .ref b :: st) (hd : decode cc pc = .ok (.invokevirtual idx, 3))
    (pre suf : List ExceptionTableEntry) (x : ExceptionTableEntry) (hsplit : Jvm.tableOf hh = pre ++ x :: suf) (hpass : gX w X (fun _ U _ => ∀ z ∈ pre, covers z pc = false ∨ (z.catchType ≠ 0 ∧ ∃ nm : String, Cond.classLink own z.catchType nm ∈ lw_tbl ∧ tkw (Cond.classLink own z.catchType nm) = true ∧ va_Nc E nm U))) (hx : covers x pc = true) (h0 : x.catchType ≠ 0) (hlink : Cond.classLink own x.catchType E ∈ lw_tbl) (hlk : tkw (Cond.classLink own x.catchType E) = true) (hcast : Cond.castable E E ∈ lw_tbl)
    (kk : ∀ q : Nat, gU w X (Q1, 1, 6) ct' x.handlerPc lo [.ref q]) : gU w X (Q1, 0, 0) ct pc lo stk := by
  obtain ⟨p, e, R, s, m, args, below, meth, c, n, A⟩ := X
  intro H locs ls hP hS hl T hT X9
  have hA : A = gA w s.heap.size := C.2.2.2.2.2.2.2.2.2.1
  subst hA
  obtain ⟨i, ci, fs, q, g1, g2, g3, g4, g5⟩ := hrc
  have h1 := hP i g1
  rw [g3] at h1
  have hrec : ∃ cell : Cell, H[b]? = some cell ∧ cell.vm.isStatics = false ∧ s.vm.findClass y.cls = some cell.cls := by
    have := va_recv C.2.2.2.2.1.2 (one_P h1) (q0 := 0) g4 rfl
    rw [g2, g5] at this
    exact this
  have hr := vx_runV (As := As) (rest := st) (Ts := []) (own := own) (locs := locs) (cells := 0) (slots := 0) (p := p) (e := e) (R := R) (args := args) (below := below) (meth := meth) (c := c) (g := F0 m pc ls stk) (cc := cc) (nL := nL) ⟨C.1, C.2.1, C.2.2.1, C.2.2.2.1, fun _ h => by cases h⟩ (hM H.size) ⟨gBx C.2.2.2.2.1.1 Y.1 Y.2.1 Y.2.2.1 hli C.2.2.2.2.2.2.2.2.2.2.1 hdd hnl, C.2.2.2.2.1.1.use Y.2.2.2.1 rfl, C.2.2.2.2.1.1.use Y.2.2.2.2 rfl⟩ ⟨(gPc C.2.2.2.2.1 C.2.2.2.2.2.1 hP C.2.2.2.2.2.2.2.2.2.2.2 hS).1, hrec, (gPc C.2.2.2.2.1 C.2.2.2.2.2.1 hP C.2.2.2.2.2.2.2.2.2.2.2 hS).2⟩ rfl hn (by show ls.size = nL; rw [hl.1]; exact C.2.2.2.2.2.2.2.2.1) hstk (lv_room hst) hd ⟨by rw [Nat.zero_add]; exact hT9.1, by rw [Nat.zero_add]; exact hT9.2.1⟩
  rcases hr T hT X9 with ⟨v, st₀, t, T', L, h0, X', hL, e1, e2, hF, st9⟩ | ⟨q9, st₀, t, T', L, E', ce, h9, X', hL, e1, e2, ⟨hE, hp, hz, hk⟩, hce, hcv, hcl, st9⟩
  · exact hF.elim
  · subst hE
    rw [h9] at hz hk
    have hf : ∀ q, gA w H.size q → gA w s.heap.size q := fun q h2 => h2.elim Or.inl (fun h => Or.inr (Nat.le_trans hS.1 h))
    obtain ⟨t2, a1, b1⟩ := vx_catch (p := p) (l := wL w) (e := e) (R := R) (args := args) (own := own) (name := E') (E := E') (cells := 0 + 1) (slots := 0 + 6) (Q := Q1) (rest := st) (pc := pc) (H := T'.heap) (locs := locs ++ L) (ls := ls) C.2.2.2.1 pre x suf (hT9.2.2.trans hsplit)
      (fun z hz => (hpass z hz).elim Or.inl (fun h => Or.inr ⟨h.1, by obtain ⟨nm, n1, n2, n3⟩ := h.2; exact ⟨nm, C.2.2.2.2.1.1.use n1 n2, n3⟩⟩)) hx h0 (C.2.2.2.2.1.1.use hlink hlk) (C.2.2.2.2.1.1.use hcast rfl) (by rw [e1]; exact hce) hcv hcl
      (kk q9 T'.heap (locs ++ L) ls (by rw [e1]; exact hp) ⟨by rw [e1]; exact Nat.le_trans hS.1 hz, fun q h1 h2 => by rw [e1, hk q (Nat.lt_of_lt_of_le h1 hS.1) (fun z => h2 (hf q z))]; exact hS.2.1 q h1 h2, fun z hz => (List.mem_append.mp hz).elim (hS.2.2 z) (fun h => hf _ (hL z h))⟩ hl) T' rfl X'
    exact ⟨t2, st9.trans a1, b1⟩
theorem r_callH (C : gC w X cc own ret d nL) {y : MethodName} {ccy : ByteArray} {nLy ny idx d' mc ms : Nat} {rety : Option FieldType} {hh : List (Nat × Nat × Nat × Nat)} {v : Option Value} {ct' : CT} (As : List Value) (hM : gMh w d' y ccy nLy rety hh As ct v ct' mc ms) (hcw : Cond.codeWith y ccy nLy rety hh ∈ lw_tbl) (hck : tkw (Cond.codeWith y ccy nLy rety hh) = true) (hini : Cond.initialized y.cls ∈ lw_tbl) (hsta : Cond.static y ∈ lw_tbl) (hy : y.cls ≠ "java/lang/invoke/MethodHandle" ∧ y.cls ≠ "java/lang/invoke/VarHandle" ∧ (parseMethodDescriptor y.desc).map (fun d => d.parameters.length) = some ny) (hli : Cond.methodLink own idx y ∈ lw_tbl) (hn : As.length = ny) (hdd : d' + 1 ≤ d) (hnl : nLy ≤ 21) (hst : (st.map fun v => v.category).sum ≤ 8) {stk : List Value} (hstk : stk = As.reverse ++ st) (hd : decode cc pc = .ok (.invokestatic idx, 3)) (hq : qOk X (Q.1, Q.2.1 + mc, Q.2.2 + ms)) (k : gU w X (Q.1, Q.2.1 + mc, Q.2.2 + ms) ct' (pc + 3) lo (v.toList ++ st)) : gU w X Q ct pc lo stk := by
  obtain ⟨p, e, R, s, m, args, below, meth, c, n, A⟩ := X
  intro H locs ls hP hS hl T hT X9
  have hA : A = gA w s.heap.size := C.2.2.2.2.2.2.2.2.2.1
  subst hA
  have hR := C.2.2.2.2.2.2.2.2.2.2.1
  have hr := vx_runSW (As := As) (rest := st) (Ts := []) (own := own) (locs := locs) (cells := Q.2.1) (slots := Q.2.2) (p := p) (e := e) (R := R) (args := args) (below := below) (meth := meth) (c := c) (g := F0 m pc ls stk) (cc := cc) (nL := nL) (H := H) ⟨C.1, C.2.1, C.2.2.1, C.2.2.2.1, fun _ h => by cases h⟩ (hM H.size) ⟨⟨rfl, rfl, Nat.le_trans hdd hR.1, by have := hR.2; show 8 + (nLy + 11) + 40 * d' ≤ R.locals; omega, fun c9 hc a' U hW => by rw [List.mem_singleton.mp hc]; exact (C.2.2.2.2.1.1.warm hW).use hcw hck, List.mem_cons_self⟩, C.2.2.2.2.1.1.use hcw hck, C.2.2.2.2.1.1.use hini rfl, ⟨hy.1, hy.2.1⟩, fun sig h => by have h2 := hy.2.2; rw [h] at h2; exact (Option.some.inj h2).symm, C.2.2.2.2.1.1.use hli rfl, C.2.2.2.2.1.1.use hsta rfl⟩ ⟨(gPc C.2.2.2.2.1 C.2.2.2.2.2.1 hP C.2.2.2.2.2.2.2.2.2.2.2 hS).1, (gPc C.2.2.2.2.1 C.2.2.2.2.2.1 hP C.2.2.2.2.2.2.2.2.2.2.2 hS).2⟩ rfl hn (by show ls.size = nL; rw [hl.1]; exact C.2.2.2.2.2.2.2.2.1) hstk (lv_room hst) hd hq
  have hA9 : ∀ q, q < H.size → gA w H.size q → gA w s.heap.size q := fun q h1 h2 => h2.elim Or.inl (fun h => absurd h (Nat.not_le.mpr h1))
  have hf : ∀ q, gA w H.size q → gA w s.heap.size q := fun q h2 => h2.elim Or.inl (fun h => Or.inr (Nat.le_trans hS.1 h))
  obtain ⟨v9, st₀, t, T', L, h0, X', hL, e1, e2, ⟨⟨hv, hp⟩, hz, hk⟩, st9⟩ := hr T hT X9
  cases hv
  rw [h0] at hz hk
  obtain ⟨t2, a1, b1⟩ := k T'.heap (locs ++ L) ls (by rw [e1]; exact hp) ⟨Nat.le_trans hS.1 (by rw [e1]; exact hz), fun q h1 h2 => by rw [e1, hk q (Nat.lt_of_lt_of_le h1 hS.1) (fun z => h2 (hA9 q (Nat.lt_of_lt_of_le h1 hS.1) z))]; exact hS.2.1 q h1 h2, fun q hq => by
      rcases List.mem_append.mp hq with h | h
      · exact hS.2.2 q h
      · exact hf _ (hL q h)⟩ hl T' rfl X'
  exact ⟨t2, st9 t2 a1, b1⟩
end WRAP
theorem gXt {w : WP} {X : CX} {F : (Nat → Prop) → State → Heap → Prop} (h : ∀ {A U H}, F A U H) : gX w X F := by
  obtain ⟨p, e, R, s, m, args, below, meth, c, n, A⟩ := X
  exact h
theorem gZ.x {w : WP} {X : CX} {cc : ByteArray} {own : String} {ret : Option FieldType} {d nL : Nat} (h : gZ w) (C : gC w X cc own ret d nL) : gX w X (EXx w) := by
  obtain ⟨p, e, R, s, m, args, below, meth, c, n, A⟩ := X
  exact h.2 _ _ _ C.2.2.2.2.2.2.2.2.2.2.2
theorem xfz {P : ExceptionTableEntry → Prop} {a : ExceptionTableEntry} {l : List ExceptionTableEntry} (h : P a) (t : ∀ c ∈ l, P c) : ∀ c ∈ a :: l, P c := fun c hc => (List.mem_cons.mp hc).elim (fun e => by rw [e]; exact h) (t c)
abbrev SS : Type := Nat → Nat → HV
/-- what the law makes of an answer or an exception -/
def fdR (x : Option ((Int32 × SS) ⊕ (Nat × SS))) : Option (Int32 × SS) := match x with
  | none => none
  | some (.inl r) => some r
  | some (.inr (1, S)) => some (-3, S)
  | some (.inr (2, S)) => some (-2, S)
  | some (.inr (3, S)) => some (-1, S)
  | some (.inr _) => none
theorem fdR_e {x : Option ((Int32 × SS) ⊕ (Nat × SS))} {v : Int32} {S : SS} (h : fdR x = some (v, S)) : x = some (.inl (v, S)) ∨ (v = -3 ∧ x = some (.inr (1, S))) ∨ (v = -2 ∧ x = some (.inr (2, S))) ∨ (v = -1 ∧ x = some (.inr (3, S))) := by
  unfold fdR at h
  split at h
  · cases h
  · cases h; exact Or.inl rfl
  · cases h; exact Or.inr (Or.inl ⟨rfl, rfl⟩)
  · cases h; exact Or.inr (Or.inr (Or.inl ⟨rfl, rfl⟩))
  · cases h; exact Or.inr (Or.inr (Or.inr ⟨rfl, rfl⟩))
  · cases h

theorem dL_reads_0 : decode cL_reads 0 = .ok (.aload_n 0, 1) := by decide +kernel
theorem dL_reads_1 : decode cL_reads 1 = .ok (.invokevirtual 14, 3) := by decide +kernel
theorem dL_reads_4 : decode cL_reads 4 = .ok (.ireturn, 1) := by decide +kernel
theorem dL_reads_5 : decode cL_reads 5 = .ok (.astore_n 1, 1) := by decide +kernel
theorem dL_reads_6 : decode cL_reads 6 = .ok (.iconst (-1), 1) := by decide +kernel
theorem dL_reads_7 : decode cL_reads 7 = .ok (.ireturn, 1) := by decide +kernel
theorem cwL_reads : Cond.codeWith yL_reads method_3_code 2 (Option.some Jvm.ClassFile.FieldType.int) [(0, 4, 5, 20)] ∈ lw_tbl := in_t3 (List.mem_of_getElem? (i := 96) rfl)
theorem dL_does_0 : decode cL_does 0 = .ok (.iload_n 1, 1) := by decide +kernel
theorem dL_does_1 : decode cL_does 1 = .ok (.tableswitch 99 0 7 #[47, 54, 60, 67, 74, 80, 87, 93], 47) := by decide +kernel
theorem dL_does_48 : decode cL_does 48 = .ok (.aload_n 0, 1) := by decide +kernel
theorem dL_does_49 : decode cL_does 49 = .ok (.iload_n 2, 1) := by decide +kernel
theorem dL_does_50 : decode cL_does 50 = .ok (.iload_n 3, 1) := by decide +kernel
theorem dL_does_51 : decode cL_does 51 = .ok (.invokevirtual 54, 3) := by decide +kernel
theorem dL_does_54 : decode cL_does 54 = .ok (.ireturn, 1) := by decide +kernel
theorem dL_does_55 : decode cL_does 55 = .ok (.aload_n 0, 1) := by decide +kernel
theorem dL_does_56 : decode cL_does 56 = .ok (.iload_n 2, 1) := by decide +kernel
theorem dL_does_57 : decode cL_does 57 = .ok (.invokevirtual 58, 3) := by decide +kernel
theorem dL_does_60 : decode cL_does 60 = .ok (.ireturn, 1) := by decide +kernel
theorem dL_does_61 : decode cL_does 61 = .ok (.aload_n 0, 1) := by decide +kernel
theorem dL_does_62 : decode cL_does 62 = .ok (.iload_n 2, 1) := by decide +kernel
theorem dL_does_63 : decode cL_does 63 = .ok (.iload_n 3, 1) := by decide +kernel
theorem dL_does_64 : decode cL_does 64 = .ok (.invokevirtual 61, 3) := by decide +kernel
theorem dL_does_67 : decode cL_does 67 = .ok (.ireturn, 1) := by decide +kernel
theorem dL_does_68 : decode cL_does 68 = .ok (.aload_n 0, 1) := by decide +kernel
theorem dL_does_69 : decode cL_does 69 = .ok (.iload_n 2, 1) := by decide +kernel
theorem dL_does_70 : decode cL_does 70 = .ok (.iload_n 3, 1) := by decide +kernel
theorem dL_does_71 : decode cL_does 71 = .ok (.invokevirtual 64, 3) := by decide +kernel
theorem dL_does_74 : decode cL_does 74 = .ok (.ireturn, 1) := by decide +kernel
theorem dL_does_75 : decode cL_does 75 = .ok (.aload_n 0, 1) := by decide +kernel
theorem dL_does_76 : decode cL_does 76 = .ok (.iload_n 2, 1) := by decide +kernel
theorem dL_does_77 : decode cL_does 77 = .ok (.invokevirtual 67, 3) := by decide +kernel
theorem dL_does_80 : decode cL_does 80 = .ok (.ireturn, 1) := by decide +kernel
theorem dL_does_81 : decode cL_does 81 = .ok (.aload_n 0, 1) := by decide +kernel
theorem dL_does_82 : decode cL_does 82 = .ok (.iload_n 2, 1) := by decide +kernel
theorem dL_does_83 : decode cL_does 83 = .ok (.iload_n 3, 1) := by decide +kernel
theorem dL_does_84 : decode cL_does 84 = .ok (.invokevirtual 70, 3) := by decide +kernel
theorem dL_does_87 : decode cL_does 87 = .ok (.ireturn, 1) := by decide +kernel
theorem dL_does_88 : decode cL_does 88 = .ok (.aload_n 0, 1) := by decide +kernel
theorem dL_does_89 : decode cL_does 89 = .ok (.iload_n 2, 1) := by decide +kernel
theorem dL_does_90 : decode cL_does 90 = .ok (.invokevirtual 73, 3) := by decide +kernel
theorem dL_does_93 : decode cL_does 93 = .ok (.ireturn, 1) := by decide +kernel
theorem dL_does_94 : decode cL_does 94 = .ok (.aload_n 0, 1) := by decide +kernel
theorem dL_does_95 : decode cL_does 95 = .ok (.iload_n 2, 1) := by decide +kernel
theorem dL_does_96 : decode cL_does 96 = .ok (.invokevirtual 76, 3) := by decide +kernel
theorem dL_does_99 : decode cL_does 99 = .ok (.ireturn, 1) := by decide +kernel
theorem dL_does_100 : decode cL_does 100 = .ok (.aload_n 0, 1) := by decide +kernel
theorem dL_does_101 : decode cL_does 101 = .ok (.invokevirtual 79, 3) := by decide +kernel
theorem dL_does_104 : decode cL_does 104 = .ok (.ireturn, 1) := by decide +kernel
theorem dL_does_105 : decode cL_does 105 = .ok (.astore 4, 2) := by decide +kernel
theorem dL_does_107 : decode cL_does 107 = .ok (.iconst (-1), 1) := by decide +kernel
theorem dL_does_108 : decode cL_does 108 = .ok (.ireturn, 1) := by decide +kernel
theorem dL_does_109 : decode cL_does 109 = .ok (.astore 4, 2) := by decide +kernel
theorem dL_does_111 : decode cL_does 111 = .ok (.bipush (-2), 2) := by decide +kernel
theorem dL_does_113 : decode cL_does 113 = .ok (.ireturn, 1) := by decide +kernel
theorem dL_does_114 : decode cL_does 114 = .ok (.astore 4, 2) := by decide +kernel
theorem dL_does_116 : decode cL_does 116 = .ok (.bipush (-3), 2) := by decide +kernel
theorem dL_does_118 : decode cL_does 118 = .ok (.ireturn, 1) := by decide +kernel
theorem cwL_does : Cond.codeWith yL_does method_8_code 5 (Option.some Jvm.ClassFile.FieldType.int) [(0, 54, 105, 82), (55, 60, 105, 82), (61, 67, 105, 82), (68, 74, 105, 82), (75, 80, 105, 82), (81, 87, 105, 82), (88, 93, 105, 82), (94, 99, 105, 82), (100, 104, 105, 82), (0, 54, 109, 20), (55, 60, 109, 20), (61, 67, 109, 20), (68, 74, 109, 20), (75, 80, 109, 20), (81, 87, 109, 20), (88, 93, 109, 20), (94, 99, 109, 20), (100, 104, 109, 20), (0, 54, 114, 84), (55, 60, 114, 84), (61, 67, 114, 84), (68, 74, 114, 84), (75, 80, 114, 84), (81, 87, 114, 84), (88, 93, 114, 84), (94, 99, 114, 84), (100, 104, 114, 84)] ∈ lw_tbl := in_t3 (List.mem_of_getElem? (i := 195) rfl)
theorem k_reads {w : WP} (hW : gW w) (hS : gS w) {S : SS} {o : HV × CT} (N : Nat) {v : Int32} {S' : SS} (hF : F_X10_load N S = some (.inl (v, S'))) : gMh w 8 yL_reads cL_reads 2 (some .int) [(0, 4, 5, 20)] [.ref (wAd w (7, 11, 6, 0))] (cA w (S, o)) (some (.int v)) (cA w (S', o)) 0 0 := by
  refine gMh_of "HedgeMessagesLaw" rfl (by decide) (kR rfl) fun X C hT9 => ?_
  show gU w X _ _ 0 [(0, .ref (wAd w (7, 11, 6, 0)))] []
  refine r_aload_n C (k := 0) rfl rfl dL_reads_0 ?_
  refine r_callV C (d' := 7) [] (c_X10_load (Ω := (S, o)) hW hS rfl N hF rfl) myX10_load wm3_98 ⟨_, _, _, _, (hW.ok k7), rfl, rfl, rfl, rfl⟩ rfl (kR rfl) (by decide) (kR rfl) rfl dL_reads_1 ?_
  exact r_hreturn C dL_reads_4
theorem n_does_0 {w : WP} (hW : gW w) (hS : gS w) {S : SS} {o : HV × CT} (N : Nat) (a b : Int32) {v : Int32} {S' : SS} (hF : F_X10_plant N a b S = some (.inl (v, S'))) : gMh w 8 yL_does cL_does 5 (some .int) [(0, 54, 105, 82), (55, 60, 105, 82), (61, 67, 105, 82), (68, 74, 105, 82), (75, 80, 105, 82), (81, 87, 105, 82), (88, 93, 105, 82), (94, 99, 105, 82), (100, 104, 105, 82), (0, 54, 109, 20), (55, 60, 109, 20), (61, 67, 109, 20), (68, 74, 109, 20), (75, 80, 109, 20), (81, 87, 109, 20), (88, 93, 109, 20), (94, 99, 109, 20), (100, 104, 109, 20), (0, 54, 114, 84), (55, 60, 114, 84), (61, 67, 114, 84), (68, 74, 114, 84), (75, 80, 114, 84), (81, 87, 114, 84), (88, 93, 114, 84), (94, 99, 114, 84), (100, 104, 114, 84)] [.ref (wAd w (7, 11, 6, 0)), .int 0, .int a, .int b] (cA w (S, o)) (some (.int v)) (cA w (S', o)) 1 6 := by
  refine gMh_of "HedgeMessagesLaw" rfl (by decide) (kR rfl) fun X C hT9 => ?_
  show gU w X _ _ 0 [(0, .ref (wAd w (7, 11, 6, 0))), (1, .int 0), (2, .int a), (3, .int b)] []
  refine r_iload_n C (k := 1) rfl rfl dL_does_0 ?_
  refine r_tabIn C (v := 0) (tgt := 48) (off := 47) rfl dL_does_1 (by decide) (by decide) (by decide) (by decide) ?_
  refine r_aload_n C (k := 0) rfl rfl dL_does_48 ?_
  refine r_iload_n C (k := 2) rfl rfl dL_does_49 ?_
  refine r_iload_n C (k := 3) rfl rfl dL_does_50 ?_
  refine r_callV C (d' := 7) [.int a, .int b] (c_X10_plant (Ω := (S, o)) hW hS rfl N a b hF rfl) myX10_plant wm3_198 ⟨_, _, _, _, (hW.ok k7), rfl, rfl, rfl, rfl⟩ rfl (kR rfl) (by decide) (kR rfl) rfl dL_does_51 ?_
  refine r_wid (c' := 1) (s' := 6) (by decide) (by decide) ?_
  exact r_hreturn C dL_does_54
theorem x_does_0_1 {w : WP} (hW : gW w) (hS : gS w) (hZ : gZ w) {S : SS} {o : HV × CT} (N : Nat) (a b : Int32) {S' : SS} (hF : F_X10_plant N a b S = some (.inr (1, S'))) : gMh w 8 yL_does cL_does 5 (some .int) [(0, 54, 105, 82), (55, 60, 105, 82), (61, 67, 105, 82), (68, 74, 105, 82), (75, 80, 105, 82), (81, 87, 105, 82), (88, 93, 105, 82), (94, 99, 105, 82), (100, 104, 105, 82), (0, 54, 109, 20), (55, 60, 109, 20), (61, 67, 109, 20), (68, 74, 109, 20), (75, 80, 109, 20), (81, 87, 109, 20), (88, 93, 109, 20), (94, 99, 109, 20), (100, 104, 109, 20), (0, 54, 114, 84), (55, 60, 114, 84), (61, 67, 114, 84), (68, 74, 114, 84), (75, 80, 114, 84), (81, 87, 114, 84), (88, 93, 114, 84), (94, 99, 114, 84), (100, 104, 114, 84)] [.ref (wAd w (7, 11, 6, 0)), .int 0, .int a, .int b] (cA w (S, o)) (some (.int (-3))) (cA w (S', o)) 1 6 := by
  refine gMh_of "HedgeMessagesLaw" rfl (by decide) (kR rfl) fun X C hT9 => ?_
  show gU w X _ _ 0 [(0, .ref (wAd w (7, 11, 6, 0))), (1, .int 0), (2, .int a), (3, .int b)] []
  refine r_iload_n C (k := 1) rfl rfl dL_does_0 ?_
  refine r_tabIn C (v := 0) (tgt := 48) (off := 47) rfl dL_does_1 (by decide) (by decide) (by decide) (by decide) ?_
  refine r_aload_n C (k := 0) rfl rfl dL_does_48 ?_
  refine r_iload_n C (k := 2) rfl rfl dL_does_49 ?_
  refine r_iload_n C (k := 3) rfl rfl dL_does_50 ?_
  refine r_callC C hT9 (d' := 7) (E := xN 1) [.int a, .int b] (x_X10_plant (Ω := (S, o)) hW hS hZ rfl N a b hF rfl) myX10_plant wm3_198 ⟨_, _, _, _, (hW.ok k7), rfl, rfl, rfl, rfl⟩ rfl (kR rfl) (by decide) (kR rfl) rfl dL_does_51 [⟨0, 54, 105, 82⟩, ⟨55, 60, 105, 82⟩, ⟨61, 67, 105, 82⟩, ⟨68, 74, 105, 82⟩, ⟨75, 80, 105, 82⟩, ⟨81, 87, 105, 82⟩, ⟨88, 93, 105, 82⟩, ⟨94, 99, 105, 82⟩, ⟨100, 104, 105, 82⟩, ⟨0, 54, 109, 20⟩, ⟨55, 60, 109, 20⟩, ⟨61, 67, 109, 20⟩, ⟨68, 74, 109, 20⟩, ⟨75, 80, 109, 20⟩, ⟨81, 87, 109, 20⟩, ⟨88, 93, 109, 20⟩, ⟨94, 99, 109, 20⟩, ⟨100, 104, 109, 20⟩] [⟨55, 60, 114, 84⟩, ⟨61, 67, 114, 84⟩, ⟨68, 74, 114, 84⟩, ⟨75, 80, 114, 84⟩, ⟨81, 87, 114, 84⟩, ⟨88, 93, 114, 84⟩, ⟨94, 99, 114, 84⟩, ⟨100, 104, 114, 84⟩] ⟨0, 54, 114, 84⟩ rfl ((gZ.x hZ C).imp fun _ _ _ h => xfz (Or.inr ⟨by decide, _, wm3_196, rfl, h.2.2.2.1⟩) <| xfz (Or.inl (by decide)) <| xfz (Or.inl (by decide)) <| xfz (Or.inl (by decide)) <| xfz (Or.inl (by decide)) <| xfz (Or.inl (by decide)) <| xfz (Or.inl (by decide)) <| xfz (Or.inl (by decide)) <| xfz (Or.inl (by decide)) <| xfz (Or.inr ⟨by decide, _, wm3_97, rfl, h.2.2.1⟩) <| xfz (Or.inl (by decide)) <| xfz (Or.inl (by decide)) <| xfz (Or.inl (by decide)) <| xfz (Or.inl (by decide)) <| xfz (Or.inl (by decide)) <| xfz (Or.inl (by decide)) <| xfz (Or.inl (by decide)) <| xfz (Or.inl (by decide)) <| fun _ h => nomatch h) (by decide) (by decide) wm3_197 rfl wm2_220 fun q => ?_
  refine r_astore C (lo' := [(4, .ref q), (0, .ref (wAd w (7, 11, 6, 0))), (1, .int 0), (2, .int a), (3, .int b)]) (by decide) rfl dL_does_114 ?_
  refine r_bipush C (v := (-3)) (by decide) dL_does_116 ?_
  exact r_hreturn C dL_does_118
theorem x_does_0_2 {w : WP} (hW : gW w) (hS : gS w) (hZ : gZ w) {S : SS} {o : HV × CT} (N : Nat) (a b : Int32) {S' : SS} (hF : F_X10_plant N a b S = some (.inr (2, S'))) : gMh w 8 yL_does cL_does 5 (some .int) [(0, 54, 105, 82), (55, 60, 105, 82), (61, 67, 105, 82), (68, 74, 105, 82), (75, 80, 105, 82), (81, 87, 105, 82), (88, 93, 105, 82), (94, 99, 105, 82), (100, 104, 105, 82), (0, 54, 109, 20), (55, 60, 109, 20), (61, 67, 109, 20), (68, 74, 109, 20), (75, 80, 109, 20), (81, 87, 109, 20), (88, 93, 109, 20), (94, 99, 109, 20), (100, 104, 109, 20), (0, 54, 114, 84), (55, 60, 114, 84), (61, 67, 114, 84), (68, 74, 114, 84), (75, 80, 114, 84), (81, 87, 114, 84), (88, 93, 114, 84), (94, 99, 114, 84), (100, 104, 114, 84)] [.ref (wAd w (7, 11, 6, 0)), .int 0, .int a, .int b] (cA w (S, o)) (some (.int (-2))) (cA w (S', o)) 1 6 := by
  refine gMh_of "HedgeMessagesLaw" rfl (by decide) (kR rfl) fun X C hT9 => ?_
  show gU w X _ _ 0 [(0, .ref (wAd w (7, 11, 6, 0))), (1, .int 0), (2, .int a), (3, .int b)] []
  refine r_iload_n C (k := 1) rfl rfl dL_does_0 ?_
  refine r_tabIn C (v := 0) (tgt := 48) (off := 47) rfl dL_does_1 (by decide) (by decide) (by decide) (by decide) ?_
  refine r_aload_n C (k := 0) rfl rfl dL_does_48 ?_
  refine r_iload_n C (k := 2) rfl rfl dL_does_49 ?_
  refine r_iload_n C (k := 3) rfl rfl dL_does_50 ?_
  refine r_callC C hT9 (d' := 7) (E := xN 2) [.int a, .int b] (x_X10_plant (Ω := (S, o)) hW hS hZ rfl N a b hF rfl) myX10_plant wm3_198 ⟨_, _, _, _, (hW.ok k7), rfl, rfl, rfl, rfl⟩ rfl (kR rfl) (by decide) (kR rfl) rfl dL_does_51 [⟨0, 54, 105, 82⟩, ⟨55, 60, 105, 82⟩, ⟨61, 67, 105, 82⟩, ⟨68, 74, 105, 82⟩, ⟨75, 80, 105, 82⟩, ⟨81, 87, 105, 82⟩, ⟨88, 93, 105, 82⟩, ⟨94, 99, 105, 82⟩, ⟨100, 104, 105, 82⟩] [⟨55, 60, 109, 20⟩, ⟨61, 67, 109, 20⟩, ⟨68, 74, 109, 20⟩, ⟨75, 80, 109, 20⟩, ⟨81, 87, 109, 20⟩, ⟨88, 93, 109, 20⟩, ⟨94, 99, 109, 20⟩, ⟨100, 104, 109, 20⟩, ⟨0, 54, 114, 84⟩, ⟨55, 60, 114, 84⟩, ⟨61, 67, 114, 84⟩, ⟨68, 74, 114, 84⟩, ⟨75, 80, 114, 84⟩, ⟨81, 87, 114, 84⟩, ⟨88, 93, 114, 84⟩, ⟨94, 99, 114, 84⟩, ⟨100, 104, 114, 84⟩] ⟨0, 54, 109, 20⟩ rfl ((gZ.x hZ C).imp fun _ _ _ h => xfz (Or.inr ⟨by decide, _, wm3_196, rfl, h.2.2.2.2.1⟩) <| xfz (Or.inl (by decide)) <| xfz (Or.inl (by decide)) <| xfz (Or.inl (by decide)) <| xfz (Or.inl (by decide)) <| xfz (Or.inl (by decide)) <| xfz (Or.inl (by decide)) <| xfz (Or.inl (by decide)) <| xfz (Or.inl (by decide)) <| fun _ h => nomatch h) (by decide) (by decide) wm3_97 rfl wm3_80 fun q => ?_
  refine r_astore C (lo' := [(4, .ref q), (0, .ref (wAd w (7, 11, 6, 0))), (1, .int 0), (2, .int a), (3, .int b)]) (by decide) rfl dL_does_109 ?_
  refine r_bipush C (v := (-2)) (by decide) dL_does_111 ?_
  exact r_hreturn C dL_does_113
theorem x_does_0_3 {w : WP} (hW : gW w) (hS : gS w) (hZ : gZ w) {S : SS} {o : HV × CT} (N : Nat) (a b : Int32) {S' : SS} (hF : F_X10_plant N a b S = some (.inr (3, S'))) : gMh w 8 yL_does cL_does 5 (some .int) [(0, 54, 105, 82), (55, 60, 105, 82), (61, 67, 105, 82), (68, 74, 105, 82), (75, 80, 105, 82), (81, 87, 105, 82), (88, 93, 105, 82), (94, 99, 105, 82), (100, 104, 105, 82), (0, 54, 109, 20), (55, 60, 109, 20), (61, 67, 109, 20), (68, 74, 109, 20), (75, 80, 109, 20), (81, 87, 109, 20), (88, 93, 109, 20), (94, 99, 109, 20), (100, 104, 109, 20), (0, 54, 114, 84), (55, 60, 114, 84), (61, 67, 114, 84), (68, 74, 114, 84), (75, 80, 114, 84), (81, 87, 114, 84), (88, 93, 114, 84), (94, 99, 114, 84), (100, 104, 114, 84)] [.ref (wAd w (7, 11, 6, 0)), .int 0, .int a, .int b] (cA w (S, o)) (some (.int (-1))) (cA w (S', o)) 1 6 := by
  refine gMh_of "HedgeMessagesLaw" rfl (by decide) (kR rfl) fun X C hT9 => ?_
  show gU w X _ _ 0 [(0, .ref (wAd w (7, 11, 6, 0))), (1, .int 0), (2, .int a), (3, .int b)] []
  refine r_iload_n C (k := 1) rfl rfl dL_does_0 ?_
  refine r_tabIn C (v := 0) (tgt := 48) (off := 47) rfl dL_does_1 (by decide) (by decide) (by decide) (by decide) ?_
  refine r_aload_n C (k := 0) rfl rfl dL_does_48 ?_
  refine r_iload_n C (k := 2) rfl rfl dL_does_49 ?_
  refine r_iload_n C (k := 3) rfl rfl dL_does_50 ?_
  refine r_callC C hT9 (d' := 7) (E := xN 3) [.int a, .int b] (x_X10_plant (Ω := (S, o)) hW hS hZ rfl N a b hF rfl) myX10_plant wm3_198 ⟨_, _, _, _, (hW.ok k7), rfl, rfl, rfl, rfl⟩ rfl (kR rfl) (by decide) (kR rfl) rfl dL_does_51 [] [⟨55, 60, 105, 82⟩, ⟨61, 67, 105, 82⟩, ⟨68, 74, 105, 82⟩, ⟨75, 80, 105, 82⟩, ⟨81, 87, 105, 82⟩, ⟨88, 93, 105, 82⟩, ⟨94, 99, 105, 82⟩, ⟨100, 104, 105, 82⟩, ⟨0, 54, 109, 20⟩, ⟨55, 60, 109, 20⟩, ⟨61, 67, 109, 20⟩, ⟨68, 74, 109, 20⟩, ⟨75, 80, 109, 20⟩, ⟨81, 87, 109, 20⟩, ⟨88, 93, 109, 20⟩, ⟨94, 99, 109, 20⟩, ⟨100, 104, 109, 20⟩, ⟨0, 54, 114, 84⟩, ⟨55, 60, 114, 84⟩, ⟨61, 67, 114, 84⟩, ⟨68, 74, 114, 84⟩, ⟨75, 80, 114, 84⟩, ⟨81, 87, 114, 84⟩, ⟨88, 93, 114, 84⟩, ⟨94, 99, 114, 84⟩, ⟨100, 104, 114, 84⟩] ⟨0, 54, 105, 82⟩ rfl (gXt (fun _ h => nomatch h)) (by decide) (by decide) wm3_196 rfl wm3_212 fun q => ?_
  refine r_astore C (lo' := [(4, .ref q), (0, .ref (wAd w (7, 11, 6, 0))), (1, .int 0), (2, .int a), (3, .int b)]) (by decide) rfl dL_does_105 ?_
  refine r_iconst C (v := (-1)) (by decide) dL_does_107 ?_
  exact r_hreturn C dL_does_108
theorem c_does_0 {w : WP} (hW : gW w) (hS : gS w) (hZ : gZ w) {S : SS} {o : HV × CT} (N : Nat) (a b : Int32) {v : Int32} {S' : SS} (hF : fdR (F_X10_plant N a b S) = some (v, S')) : gMh w 8 yL_does cL_does 5 (some .int) [(0, 54, 105, 82), (55, 60, 105, 82), (61, 67, 105, 82), (68, 74, 105, 82), (75, 80, 105, 82), (81, 87, 105, 82), (88, 93, 105, 82), (94, 99, 105, 82), (100, 104, 105, 82), (0, 54, 109, 20), (55, 60, 109, 20), (61, 67, 109, 20), (68, 74, 109, 20), (75, 80, 109, 20), (81, 87, 109, 20), (88, 93, 109, 20), (94, 99, 109, 20), (100, 104, 109, 20), (0, 54, 114, 84), (55, 60, 114, 84), (61, 67, 114, 84), (68, 74, 114, 84), (75, 80, 114, 84), (81, 87, 114, 84), (88, 93, 114, 84), (94, 99, 114, 84), (100, 104, 114, 84)] [.ref (wAd w (7, 11, 6, 0)), .int 0, .int a, .int b] (cA w (S, o)) (some (.int v)) (cA w (S', o)) 1 6 := by
  rcases fdR_e hF with h | ⟨rfl, h⟩ | ⟨rfl, h⟩ | ⟨rfl, h⟩
  · exact n_does_0 hW hS N a b h
  · exact x_does_0_1 hW hS hZ N a b h
  · exact x_does_0_2 hW hS hZ N a b h
  · exact x_does_0_3 hW hS hZ N a b h
theorem n_does_1 {w : WP} (hW : gW w) (hS : gS w) {S : SS} {o : HV × CT} (a b : Int32) {v : Int32} {S' : SS} (hF : F_X10_remove a S = some (.inl (v, S'))) : gMh w 8 yL_does cL_does 5 (some .int) [(0, 54, 105, 82), (55, 60, 105, 82), (61, 67, 105, 82), (68, 74, 105, 82), (75, 80, 105, 82), (81, 87, 105, 82), (88, 93, 105, 82), (94, 99, 105, 82), (100, 104, 105, 82), (0, 54, 109, 20), (55, 60, 109, 20), (61, 67, 109, 20), (68, 74, 109, 20), (75, 80, 109, 20), (81, 87, 109, 20), (88, 93, 109, 20), (94, 99, 109, 20), (100, 104, 109, 20), (0, 54, 114, 84), (55, 60, 114, 84), (61, 67, 114, 84), (68, 74, 114, 84), (75, 80, 114, 84), (81, 87, 114, 84), (88, 93, 114, 84), (94, 99, 114, 84), (100, 104, 114, 84)] [.ref (wAd w (7, 11, 6, 0)), .int 1, .int a, .int b] (cA w (S, o)) (some (.int v)) (cA w (S', o)) 1 6 := by
  refine gMh_of "HedgeMessagesLaw" rfl (by decide) (kR rfl) fun X C hT9 => ?_
  show gU w X _ _ 0 [(0, .ref (wAd w (7, 11, 6, 0))), (1, .int 1), (2, .int a), (3, .int b)] []
  refine r_iload_n C (k := 1) rfl rfl dL_does_0 ?_
  refine r_tabIn C (v := 1) (tgt := 55) (off := 54) rfl dL_does_1 (by decide) (by decide) (by decide) (by decide) ?_
  refine r_aload_n C (k := 0) rfl rfl dL_does_55 ?_
  refine r_iload_n C (k := 2) rfl rfl dL_does_56 ?_
  refine r_callV C (d' := 7) [.int a] (c_X10_remove (Ω := (S, o)) hW hS rfl a hF rfl) myX10_remove wm4_24 ⟨_, _, _, _, (hW.ok k7), rfl, rfl, rfl, rfl⟩ rfl (kR rfl) (by decide) (kR rfl) rfl dL_does_57 ?_
  refine r_wid (c' := 1) (s' := 6) (by decide) (by decide) ?_
  exact r_hreturn C dL_does_60
theorem x_does_1_1 {w : WP} (hW : gW w) (hS : gS w) (hZ : gZ w) {S : SS} {o : HV × CT} (a b : Int32) {S' : SS} (hF : F_X10_remove a S = some (.inr (1, S'))) : gMh w 8 yL_does cL_does 5 (some .int) [(0, 54, 105, 82), (55, 60, 105, 82), (61, 67, 105, 82), (68, 74, 105, 82), (75, 80, 105, 82), (81, 87, 105, 82), (88, 93, 105, 82), (94, 99, 105, 82), (100, 104, 105, 82), (0, 54, 109, 20), (55, 60, 109, 20), (61, 67, 109, 20), (68, 74, 109, 20), (75, 80, 109, 20), (81, 87, 109, 20), (88, 93, 109, 20), (94, 99, 109, 20), (100, 104, 109, 20), (0, 54, 114, 84), (55, 60, 114, 84), (61, 67, 114, 84), (68, 74, 114, 84), (75, 80, 114, 84), (81, 87, 114, 84), (88, 93, 114, 84), (94, 99, 114, 84), (100, 104, 114, 84)] [.ref (wAd w (7, 11, 6, 0)), .int 1, .int a, .int b] (cA w (S, o)) (some (.int (-3))) (cA w (S', o)) 1 6 := by
  refine gMh_of "HedgeMessagesLaw" rfl (by decide) (kR rfl) fun X C hT9 => ?_
  show gU w X _ _ 0 [(0, .ref (wAd w (7, 11, 6, 0))), (1, .int 1), (2, .int a), (3, .int b)] []
  refine r_iload_n C (k := 1) rfl rfl dL_does_0 ?_
  refine r_tabIn C (v := 1) (tgt := 55) (off := 54) rfl dL_does_1 (by decide) (by decide) (by decide) (by decide) ?_
  refine r_aload_n C (k := 0) rfl rfl dL_does_55 ?_
  refine r_iload_n C (k := 2) rfl rfl dL_does_56 ?_
  refine r_callC C hT9 (d' := 7) (E := xN 1) [.int a] (x_X10_remove (Ω := (S, o)) hW hS hZ rfl a hF rfl) myX10_remove wm4_24 ⟨_, _, _, _, (hW.ok k7), rfl, rfl, rfl, rfl⟩ rfl (kR rfl) (by decide) (kR rfl) rfl dL_does_57 [⟨0, 54, 105, 82⟩, ⟨55, 60, 105, 82⟩, ⟨61, 67, 105, 82⟩, ⟨68, 74, 105, 82⟩, ⟨75, 80, 105, 82⟩, ⟨81, 87, 105, 82⟩, ⟨88, 93, 105, 82⟩, ⟨94, 99, 105, 82⟩, ⟨100, 104, 105, 82⟩, ⟨0, 54, 109, 20⟩, ⟨55, 60, 109, 20⟩, ⟨61, 67, 109, 20⟩, ⟨68, 74, 109, 20⟩, ⟨75, 80, 109, 20⟩, ⟨81, 87, 109, 20⟩, ⟨88, 93, 109, 20⟩, ⟨94, 99, 109, 20⟩, ⟨100, 104, 109, 20⟩, ⟨0, 54, 114, 84⟩] [⟨61, 67, 114, 84⟩, ⟨68, 74, 114, 84⟩, ⟨75, 80, 114, 84⟩, ⟨81, 87, 114, 84⟩, ⟨88, 93, 114, 84⟩, ⟨94, 99, 114, 84⟩, ⟨100, 104, 114, 84⟩] ⟨55, 60, 114, 84⟩ rfl ((gZ.x hZ C).imp fun _ _ _ h => xfz (Or.inl (by decide)) <| xfz (Or.inr ⟨by decide, _, wm3_196, rfl, h.2.2.2.1⟩) <| xfz (Or.inl (by decide)) <| xfz (Or.inl (by decide)) <| xfz (Or.inl (by decide)) <| xfz (Or.inl (by decide)) <| xfz (Or.inl (by decide)) <| xfz (Or.inl (by decide)) <| xfz (Or.inl (by decide)) <| xfz (Or.inl (by decide)) <| xfz (Or.inr ⟨by decide, _, wm3_97, rfl, h.2.2.1⟩) <| xfz (Or.inl (by decide)) <| xfz (Or.inl (by decide)) <| xfz (Or.inl (by decide)) <| xfz (Or.inl (by decide)) <| xfz (Or.inl (by decide)) <| xfz (Or.inl (by decide)) <| xfz (Or.inl (by decide)) <| xfz (Or.inl (by decide)) <| fun _ h => nomatch h) (by decide) (by decide) wm3_197 rfl wm2_220 fun q => ?_
  refine r_astore C (lo' := [(4, .ref q), (0, .ref (wAd w (7, 11, 6, 0))), (1, .int 1), (2, .int a), (3, .int b)]) (by decide) rfl dL_does_114 ?_
  refine r_bipush C (v := (-3)) (by decide) dL_does_116 ?_
  exact r_hreturn C dL_does_118
theorem x_does_1_2 {w : WP} (hW : gW w) (hS : gS w) (hZ : gZ w) {S : SS} {o : HV × CT} (a b : Int32) {S' : SS} (hF : F_X10_remove a S = some (.inr (2, S'))) : gMh w 8 yL_does cL_does 5 (some .int) [(0, 54, 105, 82), (55, 60, 105, 82), (61, 67, 105, 82), (68, 74, 105, 82), (75, 80, 105, 82), (81, 87, 105, 82), (88, 93, 105, 82), (94, 99, 105, 82), (100, 104, 105, 82), (0, 54, 109, 20), (55, 60, 109, 20), (61, 67, 109, 20), (68, 74, 109, 20), (75, 80, 109, 20), (81, 87, 109, 20), (88, 93, 109, 20), (94, 99, 109, 20), (100, 104, 109, 20), (0, 54, 114, 84), (55, 60, 114, 84), (61, 67, 114, 84), (68, 74, 114, 84), (75, 80, 114, 84), (81, 87, 114, 84), (88, 93, 114, 84), (94, 99, 114, 84), (100, 104, 114, 84)] [.ref (wAd w (7, 11, 6, 0)), .int 1, .int a, .int b] (cA w (S, o)) (some (.int (-2))) (cA w (S', o)) 1 6 := by
  refine gMh_of "HedgeMessagesLaw" rfl (by decide) (kR rfl) fun X C hT9 => ?_
  show gU w X _ _ 0 [(0, .ref (wAd w (7, 11, 6, 0))), (1, .int 1), (2, .int a), (3, .int b)] []
  refine r_iload_n C (k := 1) rfl rfl dL_does_0 ?_
  refine r_tabIn C (v := 1) (tgt := 55) (off := 54) rfl dL_does_1 (by decide) (by decide) (by decide) (by decide) ?_
  refine r_aload_n C (k := 0) rfl rfl dL_does_55 ?_
  refine r_iload_n C (k := 2) rfl rfl dL_does_56 ?_
  refine r_callC C hT9 (d' := 7) (E := xN 2) [.int a] (x_X10_remove (Ω := (S, o)) hW hS hZ rfl a hF rfl) myX10_remove wm4_24 ⟨_, _, _, _, (hW.ok k7), rfl, rfl, rfl, rfl⟩ rfl (kR rfl) (by decide) (kR rfl) rfl dL_does_57 [⟨0, 54, 105, 82⟩, ⟨55, 60, 105, 82⟩, ⟨61, 67, 105, 82⟩, ⟨68, 74, 105, 82⟩, ⟨75, 80, 105, 82⟩, ⟨81, 87, 105, 82⟩, ⟨88, 93, 105, 82⟩, ⟨94, 99, 105, 82⟩, ⟨100, 104, 105, 82⟩, ⟨0, 54, 109, 20⟩] [⟨61, 67, 109, 20⟩, ⟨68, 74, 109, 20⟩, ⟨75, 80, 109, 20⟩, ⟨81, 87, 109, 20⟩, ⟨88, 93, 109, 20⟩, ⟨94, 99, 109, 20⟩, ⟨100, 104, 109, 20⟩, ⟨0, 54, 114, 84⟩, ⟨55, 60, 114, 84⟩, ⟨61, 67, 114, 84⟩, ⟨68, 74, 114, 84⟩, ⟨75, 80, 114, 84⟩, ⟨81, 87, 114, 84⟩, ⟨88, 93, 114, 84⟩, ⟨94, 99, 114, 84⟩, ⟨100, 104, 114, 84⟩] ⟨55, 60, 109, 20⟩ rfl ((gZ.x hZ C).imp fun _ _ _ h => xfz (Or.inl (by decide)) <| xfz (Or.inr ⟨by decide, _, wm3_196, rfl, h.2.2.2.2.1⟩) <| xfz (Or.inl (by decide)) <| xfz (Or.inl (by decide)) <| xfz (Or.inl (by decide)) <| xfz (Or.inl (by decide)) <| xfz (Or.inl (by decide)) <| xfz (Or.inl (by decide)) <| xfz (Or.inl (by decide)) <| xfz (Or.inl (by decide)) <| fun _ h => nomatch h) (by decide) (by decide) wm3_97 rfl wm3_80 fun q => ?_
  refine r_astore C (lo' := [(4, .ref q), (0, .ref (wAd w (7, 11, 6, 0))), (1, .int 1), (2, .int a), (3, .int b)]) (by decide) rfl dL_does_109 ?_
  refine r_bipush C (v := (-2)) (by decide) dL_does_111 ?_
  exact r_hreturn C dL_does_113
theorem x_does_1_3 {w : WP} (hW : gW w) (hS : gS w) (hZ : gZ w) {S : SS} {o : HV × CT} (a b : Int32) {S' : SS} (hF : F_X10_remove a S = some (.inr (3, S'))) : gMh w 8 yL_does cL_does 5 (some .int) [(0, 54, 105, 82), (55, 60, 105, 82), (61, 67, 105, 82), (68, 74, 105, 82), (75, 80, 105, 82), (81, 87, 105, 82), (88, 93, 105, 82), (94, 99, 105, 82), (100, 104, 105, 82), (0, 54, 109, 20), (55, 60, 109, 20), (61, 67, 109, 20), (68, 74, 109, 20), (75, 80, 109, 20), (81, 87, 109, 20), (88, 93, 109, 20), (94, 99, 109, 20), (100, 104, 109, 20), (0, 54, 114, 84), (55, 60, 114, 84), (61, 67, 114, 84), (68, 74, 114, 84), (75, 80, 114, 84), (81, 87, 114, 84), (88, 93, 114, 84), (94, 99, 114, 84), (100, 104, 114, 84)] [.ref (wAd w (7, 11, 6, 0)), .int 1, .int a, .int b] (cA w (S, o)) (some (.int (-1))) (cA w (S', o)) 1 6 := by
  refine gMh_of "HedgeMessagesLaw" rfl (by decide) (kR rfl) fun X C hT9 => ?_
  show gU w X _ _ 0 [(0, .ref (wAd w (7, 11, 6, 0))), (1, .int 1), (2, .int a), (3, .int b)] []
  refine r_iload_n C (k := 1) rfl rfl dL_does_0 ?_
  refine r_tabIn C (v := 1) (tgt := 55) (off := 54) rfl dL_does_1 (by decide) (by decide) (by decide) (by decide) ?_
  refine r_aload_n C (k := 0) rfl rfl dL_does_55 ?_
  refine r_iload_n C (k := 2) rfl rfl dL_does_56 ?_
  refine r_callC C hT9 (d' := 7) (E := xN 3) [.int a] (x_X10_remove (Ω := (S, o)) hW hS hZ rfl a hF rfl) myX10_remove wm4_24 ⟨_, _, _, _, (hW.ok k7), rfl, rfl, rfl, rfl⟩ rfl (kR rfl) (by decide) (kR rfl) rfl dL_does_57 [⟨0, 54, 105, 82⟩] [⟨61, 67, 105, 82⟩, ⟨68, 74, 105, 82⟩, ⟨75, 80, 105, 82⟩, ⟨81, 87, 105, 82⟩, ⟨88, 93, 105, 82⟩, ⟨94, 99, 105, 82⟩, ⟨100, 104, 105, 82⟩, ⟨0, 54, 109, 20⟩, ⟨55, 60, 109, 20⟩, ⟨61, 67, 109, 20⟩, ⟨68, 74, 109, 20⟩, ⟨75, 80, 109, 20⟩, ⟨81, 87, 109, 20⟩, ⟨88, 93, 109, 20⟩, ⟨94, 99, 109, 20⟩, ⟨100, 104, 109, 20⟩, ⟨0, 54, 114, 84⟩, ⟨55, 60, 114, 84⟩, ⟨61, 67, 114, 84⟩, ⟨68, 74, 114, 84⟩, ⟨75, 80, 114, 84⟩, ⟨81, 87, 114, 84⟩, ⟨88, 93, 114, 84⟩, ⟨94, 99, 114, 84⟩, ⟨100, 104, 114, 84⟩] ⟨55, 60, 105, 82⟩ rfl ((gZ.x hZ C).imp fun _ _ _ h => xfz (Or.inl (by decide)) <| fun _ h => nomatch h) (by decide) (by decide) wm3_196 rfl wm3_212 fun q => ?_
  refine r_astore C (lo' := [(4, .ref q), (0, .ref (wAd w (7, 11, 6, 0))), (1, .int 1), (2, .int a), (3, .int b)]) (by decide) rfl dL_does_105 ?_
  refine r_iconst C (v := (-1)) (by decide) dL_does_107 ?_
  exact r_hreturn C dL_does_108
theorem c_does_1 {w : WP} (hW : gW w) (hS : gS w) (hZ : gZ w) {S : SS} {o : HV × CT} (a b : Int32) {v : Int32} {S' : SS} (hF : fdR (F_X10_remove a S) = some (v, S')) : gMh w 8 yL_does cL_does 5 (some .int) [(0, 54, 105, 82), (55, 60, 105, 82), (61, 67, 105, 82), (68, 74, 105, 82), (75, 80, 105, 82), (81, 87, 105, 82), (88, 93, 105, 82), (94, 99, 105, 82), (100, 104, 105, 82), (0, 54, 109, 20), (55, 60, 109, 20), (61, 67, 109, 20), (68, 74, 109, 20), (75, 80, 109, 20), (81, 87, 109, 20), (88, 93, 109, 20), (94, 99, 109, 20), (100, 104, 109, 20), (0, 54, 114, 84), (55, 60, 114, 84), (61, 67, 114, 84), (68, 74, 114, 84), (75, 80, 114, 84), (81, 87, 114, 84), (88, 93, 114, 84), (94, 99, 114, 84), (100, 104, 114, 84)] [.ref (wAd w (7, 11, 6, 0)), .int 1, .int a, .int b] (cA w (S, o)) (some (.int v)) (cA w (S', o)) 1 6 := by
  rcases fdR_e hF with h | ⟨rfl, h⟩ | ⟨rfl, h⟩ | ⟨rfl, h⟩
  · exact n_does_1 hW hS a b h
  · exact x_does_1_1 hW hS hZ a b h
  · exact x_does_1_2 hW hS hZ a b h
  · exact x_does_1_3 hW hS hZ a b h
theorem n_does_2 {w : WP} (hW : gW w) (hS : gS w) {S : SS} {o : HV × CT} (a b : Int32) {v : Int32} {S' : SS} (hF : F_X10_trim a b S = some (.inl (v, S'))) : gMh w 8 yL_does cL_does 5 (some .int) [(0, 54, 105, 82), (55, 60, 105, 82), (61, 67, 105, 82), (68, 74, 105, 82), (75, 80, 105, 82), (81, 87, 105, 82), (88, 93, 105, 82), (94, 99, 105, 82), (100, 104, 105, 82), (0, 54, 109, 20), (55, 60, 109, 20), (61, 67, 109, 20), (68, 74, 109, 20), (75, 80, 109, 20), (81, 87, 109, 20), (88, 93, 109, 20), (94, 99, 109, 20), (100, 104, 109, 20), (0, 54, 114, 84), (55, 60, 114, 84), (61, 67, 114, 84), (68, 74, 114, 84), (75, 80, 114, 84), (81, 87, 114, 84), (88, 93, 114, 84), (94, 99, 114, 84), (100, 104, 114, 84)] [.ref (wAd w (7, 11, 6, 0)), .int 2, .int a, .int b] (cA w (S, o)) (some (.int v)) (cA w (S', o)) 1 6 := by
  refine gMh_of "HedgeMessagesLaw" rfl (by decide) (kR rfl) fun X C hT9 => ?_
  show gU w X _ _ 0 [(0, .ref (wAd w (7, 11, 6, 0))), (1, .int 2), (2, .int a), (3, .int b)] []
  refine r_iload_n C (k := 1) rfl rfl dL_does_0 ?_
  refine r_tabIn C (v := 2) (tgt := 61) (off := 60) rfl dL_does_1 (by decide) (by decide) (by decide) (by decide) ?_
  refine r_aload_n C (k := 0) rfl rfl dL_does_61 ?_
  refine r_iload_n C (k := 2) rfl rfl dL_does_62 ?_
  refine r_iload_n C (k := 3) rfl rfl dL_does_63 ?_
  refine r_callV C (d' := 7) [.int a, .int b] (c_X10_trim (Ω := (S, o)) hW hS rfl a b hF rfl) myX10_trim wm4_50 ⟨_, _, _, _, (hW.ok k7), rfl, rfl, rfl, rfl⟩ rfl (kR rfl) (by decide) (kR rfl) rfl dL_does_64 ?_
  refine r_wid (c' := 1) (s' := 6) (by decide) (by decide) ?_
  exact r_hreturn C dL_does_67
theorem x_does_2_1 {w : WP} (hW : gW w) (hS : gS w) (hZ : gZ w) {S : SS} {o : HV × CT} (a b : Int32) {S' : SS} (hF : F_X10_trim a b S = some (.inr (1, S'))) : gMh w 8 yL_does cL_does 5 (some .int) [(0, 54, 105, 82), (55, 60, 105, 82), (61, 67, 105, 82), (68, 74, 105, 82), (75, 80, 105, 82), (81, 87, 105, 82), (88, 93, 105, 82), (94, 99, 105, 82), (100, 104, 105, 82), (0, 54, 109, 20), (55, 60, 109, 20), (61, 67, 109, 20), (68, 74, 109, 20), (75, 80, 109, 20), (81, 87, 109, 20), (88, 93, 109, 20), (94, 99, 109, 20), (100, 104, 109, 20), (0, 54, 114, 84), (55, 60, 114, 84), (61, 67, 114, 84), (68, 74, 114, 84), (75, 80, 114, 84), (81, 87, 114, 84), (88, 93, 114, 84), (94, 99, 114, 84), (100, 104, 114, 84)] [.ref (wAd w (7, 11, 6, 0)), .int 2, .int a, .int b] (cA w (S, o)) (some (.int (-3))) (cA w (S', o)) 1 6 := by
  refine gMh_of "HedgeMessagesLaw" rfl (by decide) (kR rfl) fun X C hT9 => ?_
  show gU w X _ _ 0 [(0, .ref (wAd w (7, 11, 6, 0))), (1, .int 2), (2, .int a), (3, .int b)] []
  refine r_iload_n C (k := 1) rfl rfl dL_does_0 ?_
  refine r_tabIn C (v := 2) (tgt := 61) (off := 60) rfl dL_does_1 (by decide) (by decide) (by decide) (by decide) ?_
  refine r_aload_n C (k := 0) rfl rfl dL_does_61 ?_
  refine r_iload_n C (k := 2) rfl rfl dL_does_62 ?_
  refine r_iload_n C (k := 3) rfl rfl dL_does_63 ?_
  refine r_callC C hT9 (d' := 7) (E := xN 1) [.int a, .int b] (x_X10_trim (Ω := (S, o)) hW hS hZ rfl a b hF rfl) myX10_trim wm4_50 ⟨_, _, _, _, (hW.ok k7), rfl, rfl, rfl, rfl⟩ rfl (kR rfl) (by decide) (kR rfl) rfl dL_does_64 [⟨0, 54, 105, 82⟩, ⟨55, 60, 105, 82⟩, ⟨61, 67, 105, 82⟩, ⟨68, 74, 105, 82⟩, ⟨75, 80, 105, 82⟩, ⟨81, 87, 105, 82⟩, ⟨88, 93, 105, 82⟩, ⟨94, 99, 105, 82⟩, ⟨100, 104, 105, 82⟩, ⟨0, 54, 109, 20⟩, ⟨55, 60, 109, 20⟩, ⟨61, 67, 109, 20⟩, ⟨68, 74, 109, 20⟩, ⟨75, 80, 109, 20⟩, ⟨81, 87, 109, 20⟩, ⟨88, 93, 109, 20⟩, ⟨94, 99, 109, 20⟩, ⟨100, 104, 109, 20⟩, ⟨0, 54, 114, 84⟩, ⟨55, 60, 114, 84⟩] [⟨68, 74, 114, 84⟩, ⟨75, 80, 114, 84⟩, ⟨81, 87, 114, 84⟩, ⟨88, 93, 114, 84⟩, ⟨94, 99, 114, 84⟩, ⟨100, 104, 114, 84⟩] ⟨61, 67, 114, 84⟩ rfl ((gZ.x hZ C).imp fun _ _ _ h => xfz (Or.inl (by decide)) <| xfz (Or.inl (by decide)) <| xfz (Or.inr ⟨by decide, _, wm3_196, rfl, h.2.2.2.1⟩) <| xfz (Or.inl (by decide)) <| xfz (Or.inl (by decide)) <| xfz (Or.inl (by decide)) <| xfz (Or.inl (by decide)) <| xfz (Or.inl (by decide)) <| xfz (Or.inl (by decide)) <| xfz (Or.inl (by decide)) <| xfz (Or.inl (by decide)) <| xfz (Or.inr ⟨by decide, _, wm3_97, rfl, h.2.2.1⟩) <| xfz (Or.inl (by decide)) <| xfz (Or.inl (by decide)) <| xfz (Or.inl (by decide)) <| xfz (Or.inl (by decide)) <| xfz (Or.inl (by decide)) <| xfz (Or.inl (by decide)) <| xfz (Or.inl (by decide)) <| xfz (Or.inl (by decide)) <| fun _ h => nomatch h) (by decide) (by decide) wm3_197 rfl wm2_220 fun q => ?_
  refine r_astore C (lo' := [(4, .ref q), (0, .ref (wAd w (7, 11, 6, 0))), (1, .int 2), (2, .int a), (3, .int b)]) (by decide) rfl dL_does_114 ?_
  refine r_bipush C (v := (-3)) (by decide) dL_does_116 ?_
  exact r_hreturn C dL_does_118
theorem x_does_2_2 {w : WP} (hW : gW w) (hS : gS w) (hZ : gZ w) {S : SS} {o : HV × CT} (a b : Int32) {S' : SS} (hF : F_X10_trim a b S = some (.inr (2, S'))) : gMh w 8 yL_does cL_does 5 (some .int) [(0, 54, 105, 82), (55, 60, 105, 82), (61, 67, 105, 82), (68, 74, 105, 82), (75, 80, 105, 82), (81, 87, 105, 82), (88, 93, 105, 82), (94, 99, 105, 82), (100, 104, 105, 82), (0, 54, 109, 20), (55, 60, 109, 20), (61, 67, 109, 20), (68, 74, 109, 20), (75, 80, 109, 20), (81, 87, 109, 20), (88, 93, 109, 20), (94, 99, 109, 20), (100, 104, 109, 20), (0, 54, 114, 84), (55, 60, 114, 84), (61, 67, 114, 84), (68, 74, 114, 84), (75, 80, 114, 84), (81, 87, 114, 84), (88, 93, 114, 84), (94, 99, 114, 84), (100, 104, 114, 84)] [.ref (wAd w (7, 11, 6, 0)), .int 2, .int a, .int b] (cA w (S, o)) (some (.int (-2))) (cA w (S', o)) 1 6 := by
  refine gMh_of "HedgeMessagesLaw" rfl (by decide) (kR rfl) fun X C hT9 => ?_
  show gU w X _ _ 0 [(0, .ref (wAd w (7, 11, 6, 0))), (1, .int 2), (2, .int a), (3, .int b)] []
  refine r_iload_n C (k := 1) rfl rfl dL_does_0 ?_
  refine r_tabIn C (v := 2) (tgt := 61) (off := 60) rfl dL_does_1 (by decide) (by decide) (by decide) (by decide) ?_
  refine r_aload_n C (k := 0) rfl rfl dL_does_61 ?_
  refine r_iload_n C (k := 2) rfl rfl dL_does_62 ?_
  refine r_iload_n C (k := 3) rfl rfl dL_does_63 ?_
  refine r_callC C hT9 (d' := 7) (E := xN 2) [.int a, .int b] (x_X10_trim (Ω := (S, o)) hW hS hZ rfl a b hF rfl) myX10_trim wm4_50 ⟨_, _, _, _, (hW.ok k7), rfl, rfl, rfl, rfl⟩ rfl (kR rfl) (by decide) (kR rfl) rfl dL_does_64 [⟨0, 54, 105, 82⟩, ⟨55, 60, 105, 82⟩, ⟨61, 67, 105, 82⟩, ⟨68, 74, 105, 82⟩, ⟨75, 80, 105, 82⟩, ⟨81, 87, 105, 82⟩, ⟨88, 93, 105, 82⟩, ⟨94, 99, 105, 82⟩, ⟨100, 104, 105, 82⟩, ⟨0, 54, 109, 20⟩, ⟨55, 60, 109, 20⟩] [⟨68, 74, 109, 20⟩, ⟨75, 80, 109, 20⟩, ⟨81, 87, 109, 20⟩, ⟨88, 93, 109, 20⟩, ⟨94, 99, 109, 20⟩, ⟨100, 104, 109, 20⟩, ⟨0, 54, 114, 84⟩, ⟨55, 60, 114, 84⟩, ⟨61, 67, 114, 84⟩, ⟨68, 74, 114, 84⟩, ⟨75, 80, 114, 84⟩, ⟨81, 87, 114, 84⟩, ⟨88, 93, 114, 84⟩, ⟨94, 99, 114, 84⟩, ⟨100, 104, 114, 84⟩] ⟨61, 67, 109, 20⟩ rfl ((gZ.x hZ C).imp fun _ _ _ h => xfz (Or.inl (by decide)) <| xfz (Or.inl (by decide)) <| xfz (Or.inr ⟨by decide, _, wm3_196, rfl, h.2.2.2.2.1⟩) <| xfz (Or.inl (by decide)) <| xfz (Or.inl (by decide)) <| xfz (Or.inl (by decide)) <| xfz (Or.inl (by decide)) <| xfz (Or.inl (by decide)) <| xfz (Or.inl (by decide)) <| xfz (Or.inl (by decide)) <| xfz (Or.inl (by decide)) <| fun _ h => nomatch h) (by decide) (by decide) wm3_97 rfl wm3_80 fun q => ?_
  refine r_astore C (lo' := [(4, .ref q), (0, .ref (wAd w (7, 11, 6, 0))), (1, .int 2), (2, .int a), (3, .int b)]) (by decide) rfl dL_does_109 ?_
  refine r_bipush C (v := (-2)) (by decide) dL_does_111 ?_
  exact r_hreturn C dL_does_113
theorem x_does_2_3 {w : WP} (hW : gW w) (hS : gS w) (hZ : gZ w) {S : SS} {o : HV × CT} (a b : Int32) {S' : SS} (hF : F_X10_trim a b S = some (.inr (3, S'))) : gMh w 8 yL_does cL_does 5 (some .int) [(0, 54, 105, 82), (55, 60, 105, 82), (61, 67, 105, 82), (68, 74, 105, 82), (75, 80, 105, 82), (81, 87, 105, 82), (88, 93, 105, 82), (94, 99, 105, 82), (100, 104, 105, 82), (0, 54, 109, 20), (55, 60, 109, 20), (61, 67, 109, 20), (68, 74, 109, 20), (75, 80, 109, 20), (81, 87, 109, 20), (88, 93, 109, 20), (94, 99, 109, 20), (100, 104, 109, 20), (0, 54, 114, 84), (55, 60, 114, 84), (61, 67, 114, 84), (68, 74, 114, 84), (75, 80, 114, 84), (81, 87, 114, 84), (88, 93, 114, 84), (94, 99, 114, 84), (100, 104, 114, 84)] [.ref (wAd w (7, 11, 6, 0)), .int 2, .int a, .int b] (cA w (S, o)) (some (.int (-1))) (cA w (S', o)) 1 6 := by
  refine gMh_of "HedgeMessagesLaw" rfl (by decide) (kR rfl) fun X C hT9 => ?_
  show gU w X _ _ 0 [(0, .ref (wAd w (7, 11, 6, 0))), (1, .int 2), (2, .int a), (3, .int b)] []
  refine r_iload_n C (k := 1) rfl rfl dL_does_0 ?_
  refine r_tabIn C (v := 2) (tgt := 61) (off := 60) rfl dL_does_1 (by decide) (by decide) (by decide) (by decide) ?_
  refine r_aload_n C (k := 0) rfl rfl dL_does_61 ?_
  refine r_iload_n C (k := 2) rfl rfl dL_does_62 ?_
  refine r_iload_n C (k := 3) rfl rfl dL_does_63 ?_
  refine r_callC C hT9 (d' := 7) (E := xN 3) [.int a, .int b] (x_X10_trim (Ω := (S, o)) hW hS hZ rfl a b hF rfl) myX10_trim wm4_50 ⟨_, _, _, _, (hW.ok k7), rfl, rfl, rfl, rfl⟩ rfl (kR rfl) (by decide) (kR rfl) rfl dL_does_64 [⟨0, 54, 105, 82⟩, ⟨55, 60, 105, 82⟩] [⟨68, 74, 105, 82⟩, ⟨75, 80, 105, 82⟩, ⟨81, 87, 105, 82⟩, ⟨88, 93, 105, 82⟩, ⟨94, 99, 105, 82⟩, ⟨100, 104, 105, 82⟩, ⟨0, 54, 109, 20⟩, ⟨55, 60, 109, 20⟩, ⟨61, 67, 109, 20⟩, ⟨68, 74, 109, 20⟩, ⟨75, 80, 109, 20⟩, ⟨81, 87, 109, 20⟩, ⟨88, 93, 109, 20⟩, ⟨94, 99, 109, 20⟩, ⟨100, 104, 109, 20⟩, ⟨0, 54, 114, 84⟩, ⟨55, 60, 114, 84⟩, ⟨61, 67, 114, 84⟩, ⟨68, 74, 114, 84⟩, ⟨75, 80, 114, 84⟩, ⟨81, 87, 114, 84⟩, ⟨88, 93, 114, 84⟩, ⟨94, 99, 114, 84⟩, ⟨100, 104, 114, 84⟩] ⟨61, 67, 105, 82⟩ rfl ((gZ.x hZ C).imp fun _ _ _ h => xfz (Or.inl (by decide)) <| xfz (Or.inl (by decide)) <| fun _ h => nomatch h) (by decide) (by decide) wm3_196 rfl wm3_212 fun q => ?_
  refine r_astore C (lo' := [(4, .ref q), (0, .ref (wAd w (7, 11, 6, 0))), (1, .int 2), (2, .int a), (3, .int b)]) (by decide) rfl dL_does_105 ?_
  refine r_iconst C (v := (-1)) (by decide) dL_does_107 ?_
  exact r_hreturn C dL_does_108
theorem c_does_2 {w : WP} (hW : gW w) (hS : gS w) (hZ : gZ w) {S : SS} {o : HV × CT} (a b : Int32) {v : Int32} {S' : SS} (hF : fdR (F_X10_trim a b S) = some (v, S')) : gMh w 8 yL_does cL_does 5 (some .int) [(0, 54, 105, 82), (55, 60, 105, 82), (61, 67, 105, 82), (68, 74, 105, 82), (75, 80, 105, 82), (81, 87, 105, 82), (88, 93, 105, 82), (94, 99, 105, 82), (100, 104, 105, 82), (0, 54, 109, 20), (55, 60, 109, 20), (61, 67, 109, 20), (68, 74, 109, 20), (75, 80, 109, 20), (81, 87, 109, 20), (88, 93, 109, 20), (94, 99, 109, 20), (100, 104, 109, 20), (0, 54, 114, 84), (55, 60, 114, 84), (61, 67, 114, 84), (68, 74, 114, 84), (75, 80, 114, 84), (81, 87, 114, 84), (88, 93, 114, 84), (94, 99, 114, 84), (100, 104, 114, 84)] [.ref (wAd w (7, 11, 6, 0)), .int 2, .int a, .int b] (cA w (S, o)) (some (.int v)) (cA w (S', o)) 1 6 := by
  rcases fdR_e hF with h | ⟨rfl, h⟩ | ⟨rfl, h⟩ | ⟨rfl, h⟩
  · exact n_does_2 hW hS a b h
  · exact x_does_2_1 hW hS hZ a b h
  · exact x_does_2_2 hW hS hZ a b h
  · exact x_does_2_3 hW hS hZ a b h
theorem n_does_3 {w : WP} (hW : gW w) (hS : gS w) {S : SS} {o : HV × CT} (N : Nat) (a b : Int32) {v : Int32} {S' : SS} (hF : F_X10_addNest N a b S = some (.inl (v, S'))) : gMh w 8 yL_does cL_does 5 (some .int) [(0, 54, 105, 82), (55, 60, 105, 82), (61, 67, 105, 82), (68, 74, 105, 82), (75, 80, 105, 82), (81, 87, 105, 82), (88, 93, 105, 82), (94, 99, 105, 82), (100, 104, 105, 82), (0, 54, 109, 20), (55, 60, 109, 20), (61, 67, 109, 20), (68, 74, 109, 20), (75, 80, 109, 20), (81, 87, 109, 20), (88, 93, 109, 20), (94, 99, 109, 20), (100, 104, 109, 20), (0, 54, 114, 84), (55, 60, 114, 84), (61, 67, 114, 84), (68, 74, 114, 84), (75, 80, 114, 84), (81, 87, 114, 84), (88, 93, 114, 84), (94, 99, 114, 84), (100, 104, 114, 84)] [.ref (wAd w (7, 11, 6, 0)), .int 3, .int a, .int b] (cA w (S, o)) (some (.int v)) (cA w (S', o)) 1 6 := by
  refine gMh_of "HedgeMessagesLaw" rfl (by decide) (kR rfl) fun X C hT9 => ?_
  show gU w X _ _ 0 [(0, .ref (wAd w (7, 11, 6, 0))), (1, .int 3), (2, .int a), (3, .int b)] []
  refine r_iload_n C (k := 1) rfl rfl dL_does_0 ?_
  refine r_tabIn C (v := 3) (tgt := 68) (off := 67) rfl dL_does_1 (by decide) (by decide) (by decide) (by decide) ?_
  refine r_aload_n C (k := 0) rfl rfl dL_does_68 ?_
  refine r_iload_n C (k := 2) rfl rfl dL_does_69 ?_
  refine r_iload_n C (k := 3) rfl rfl dL_does_70 ?_
  refine r_callV C (d' := 7) [.int a, .int b] (c_X10_addNest (Ω := (S, o)) hW hS rfl N a b hF rfl) myX10_addNest wm4_68 ⟨_, _, _, _, (hW.ok k7), rfl, rfl, rfl, rfl⟩ rfl (kR rfl) (by decide) (kR rfl) rfl dL_does_71 ?_
  refine r_wid (c' := 1) (s' := 6) (by decide) (by decide) ?_
  exact r_hreturn C dL_does_74
theorem x_does_3_1 {w : WP} (hW : gW w) (hS : gS w) (hZ : gZ w) {S : SS} {o : HV × CT} (N : Nat) (a b : Int32) {S' : SS} (hF : F_X10_addNest N a b S = some (.inr (1, S'))) : gMh w 8 yL_does cL_does 5 (some .int) [(0, 54, 105, 82), (55, 60, 105, 82), (61, 67, 105, 82), (68, 74, 105, 82), (75, 80, 105, 82), (81, 87, 105, 82), (88, 93, 105, 82), (94, 99, 105, 82), (100, 104, 105, 82), (0, 54, 109, 20), (55, 60, 109, 20), (61, 67, 109, 20), (68, 74, 109, 20), (75, 80, 109, 20), (81, 87, 109, 20), (88, 93, 109, 20), (94, 99, 109, 20), (100, 104, 109, 20), (0, 54, 114, 84), (55, 60, 114, 84), (61, 67, 114, 84), (68, 74, 114, 84), (75, 80, 114, 84), (81, 87, 114, 84), (88, 93, 114, 84), (94, 99, 114, 84), (100, 104, 114, 84)] [.ref (wAd w (7, 11, 6, 0)), .int 3, .int a, .int b] (cA w (S, o)) (some (.int (-3))) (cA w (S', o)) 1 6 := by
  refine gMh_of "HedgeMessagesLaw" rfl (by decide) (kR rfl) fun X C hT9 => ?_
  show gU w X _ _ 0 [(0, .ref (wAd w (7, 11, 6, 0))), (1, .int 3), (2, .int a), (3, .int b)] []
  refine r_iload_n C (k := 1) rfl rfl dL_does_0 ?_
  refine r_tabIn C (v := 3) (tgt := 68) (off := 67) rfl dL_does_1 (by decide) (by decide) (by decide) (by decide) ?_
  refine r_aload_n C (k := 0) rfl rfl dL_does_68 ?_
  refine r_iload_n C (k := 2) rfl rfl dL_does_69 ?_
  refine r_iload_n C (k := 3) rfl rfl dL_does_70 ?_
  refine r_callC C hT9 (d' := 7) (E := xN 1) [.int a, .int b] (x_X10_addNest (Ω := (S, o)) hW hS hZ rfl N a b hF rfl) myX10_addNest wm4_68 ⟨_, _, _, _, (hW.ok k7), rfl, rfl, rfl, rfl⟩ rfl (kR rfl) (by decide) (kR rfl) rfl dL_does_71 [⟨0, 54, 105, 82⟩, ⟨55, 60, 105, 82⟩, ⟨61, 67, 105, 82⟩, ⟨68, 74, 105, 82⟩, ⟨75, 80, 105, 82⟩, ⟨81, 87, 105, 82⟩, ⟨88, 93, 105, 82⟩, ⟨94, 99, 105, 82⟩, ⟨100, 104, 105, 82⟩, ⟨0, 54, 109, 20⟩, ⟨55, 60, 109, 20⟩, ⟨61, 67, 109, 20⟩, ⟨68, 74, 109, 20⟩, ⟨75, 80, 109, 20⟩, ⟨81, 87, 109, 20⟩, ⟨88, 93, 109, 20⟩, ⟨94, 99, 109, 20⟩, ⟨100, 104, 109, 20⟩, ⟨0, 54, 114, 84⟩, ⟨55, 60, 114, 84⟩, ⟨61, 67, 114, 84⟩] [⟨75, 80, 114, 84⟩, ⟨81, 87, 114, 84⟩, ⟨88, 93, 114, 84⟩, ⟨94, 99, 114, 84⟩, ⟨100, 104, 114, 84⟩] ⟨68, 74, 114, 84⟩ rfl ((gZ.x hZ C).imp fun _ _ _ h => xfz (Or.inl (by decide)) <| xfz (Or.inl (by decide)) <| xfz (Or.inl (by decide)) <| xfz (Or.inr ⟨by decide, _, wm3_196, rfl, h.2.2.2.1⟩) <| xfz (Or.inl (by decide)) <| xfz (Or.inl (by decide)) <| xfz (Or.inl (by decide)) <| xfz (Or.inl (by decide)) <| xfz (Or.inl (by decide)) <| xfz (Or.inl (by decide)) <| xfz (Or.inl (by decide)) <| xfz (Or.inl (by decide)) <| xfz (Or.inr ⟨by decide, _, wm3_97, rfl, h.2.2.1⟩) <| xfz (Or.inl (by decide)) <| xfz (Or.inl (by decide)) <| xfz (Or.inl (by decide)) <| xfz (Or.inl (by decide)) <| xfz (Or.inl (by decide)) <| xfz (Or.inl (by decide)) <| xfz (Or.inl (by decide)) <| xfz (Or.inl (by decide)) <| fun _ h => nomatch h) (by decide) (by decide) wm3_197 rfl wm2_220 fun q => ?_
  refine r_astore C (lo' := [(4, .ref q), (0, .ref (wAd w (7, 11, 6, 0))), (1, .int 3), (2, .int a), (3, .int b)]) (by decide) rfl dL_does_114 ?_
  refine r_bipush C (v := (-3)) (by decide) dL_does_116 ?_
  exact r_hreturn C dL_does_118
theorem x_does_3_2 {w : WP} (hW : gW w) (hS : gS w) (hZ : gZ w) {S : SS} {o : HV × CT} (N : Nat) (a b : Int32) {S' : SS} (hF : F_X10_addNest N a b S = some (.inr (2, S'))) : gMh w 8 yL_does cL_does 5 (some .int) [(0, 54, 105, 82), (55, 60, 105, 82), (61, 67, 105, 82), (68, 74, 105, 82), (75, 80, 105, 82), (81, 87, 105, 82), (88, 93, 105, 82), (94, 99, 105, 82), (100, 104, 105, 82), (0, 54, 109, 20), (55, 60, 109, 20), (61, 67, 109, 20), (68, 74, 109, 20), (75, 80, 109, 20), (81, 87, 109, 20), (88, 93, 109, 20), (94, 99, 109, 20), (100, 104, 109, 20), (0, 54, 114, 84), (55, 60, 114, 84), (61, 67, 114, 84), (68, 74, 114, 84), (75, 80, 114, 84), (81, 87, 114, 84), (88, 93, 114, 84), (94, 99, 114, 84), (100, 104, 114, 84)] [.ref (wAd w (7, 11, 6, 0)), .int 3, .int a, .int b] (cA w (S, o)) (some (.int (-2))) (cA w (S', o)) 1 6 := by
  refine gMh_of "HedgeMessagesLaw" rfl (by decide) (kR rfl) fun X C hT9 => ?_
  show gU w X _ _ 0 [(0, .ref (wAd w (7, 11, 6, 0))), (1, .int 3), (2, .int a), (3, .int b)] []
  refine r_iload_n C (k := 1) rfl rfl dL_does_0 ?_
  refine r_tabIn C (v := 3) (tgt := 68) (off := 67) rfl dL_does_1 (by decide) (by decide) (by decide) (by decide) ?_
  refine r_aload_n C (k := 0) rfl rfl dL_does_68 ?_
  refine r_iload_n C (k := 2) rfl rfl dL_does_69 ?_
  refine r_iload_n C (k := 3) rfl rfl dL_does_70 ?_
  refine r_callC C hT9 (d' := 7) (E := xN 2) [.int a, .int b] (x_X10_addNest (Ω := (S, o)) hW hS hZ rfl N a b hF rfl) myX10_addNest wm4_68 ⟨_, _, _, _, (hW.ok k7), rfl, rfl, rfl, rfl⟩ rfl (kR rfl) (by decide) (kR rfl) rfl dL_does_71 [⟨0, 54, 105, 82⟩, ⟨55, 60, 105, 82⟩, ⟨61, 67, 105, 82⟩, ⟨68, 74, 105, 82⟩, ⟨75, 80, 105, 82⟩, ⟨81, 87, 105, 82⟩, ⟨88, 93, 105, 82⟩, ⟨94, 99, 105, 82⟩, ⟨100, 104, 105, 82⟩, ⟨0, 54, 109, 20⟩, ⟨55, 60, 109, 20⟩, ⟨61, 67, 109, 20⟩] [⟨75, 80, 109, 20⟩, ⟨81, 87, 109, 20⟩, ⟨88, 93, 109, 20⟩, ⟨94, 99, 109, 20⟩, ⟨100, 104, 109, 20⟩, ⟨0, 54, 114, 84⟩, ⟨55, 60, 114, 84⟩, ⟨61, 67, 114, 84⟩, ⟨68, 74, 114, 84⟩, ⟨75, 80, 114, 84⟩, ⟨81, 87, 114, 84⟩, ⟨88, 93, 114, 84⟩, ⟨94, 99, 114, 84⟩, ⟨100, 104, 114, 84⟩] ⟨68, 74, 109, 20⟩ rfl ((gZ.x hZ C).imp fun _ _ _ h => xfz (Or.inl (by decide)) <| xfz (Or.inl (by decide)) <| xfz (Or.inl (by decide)) <| xfz (Or.inr ⟨by decide, _, wm3_196, rfl, h.2.2.2.2.1⟩) <| xfz (Or.inl (by decide)) <| xfz (Or.inl (by decide)) <| xfz (Or.inl (by decide)) <| xfz (Or.inl (by decide)) <| xfz (Or.inl (by decide)) <| xfz (Or.inl (by decide)) <| xfz (Or.inl (by decide)) <| xfz (Or.inl (by decide)) <| fun _ h => nomatch h) (by decide) (by decide) wm3_97 rfl wm3_80 fun q => ?_
  refine r_astore C (lo' := [(4, .ref q), (0, .ref (wAd w (7, 11, 6, 0))), (1, .int 3), (2, .int a), (3, .int b)]) (by decide) rfl dL_does_109 ?_
  refine r_bipush C (v := (-2)) (by decide) dL_does_111 ?_
  exact r_hreturn C dL_does_113
theorem x_does_3_3 {w : WP} (hW : gW w) (hS : gS w) (hZ : gZ w) {S : SS} {o : HV × CT} (N : Nat) (a b : Int32) {S' : SS} (hF : F_X10_addNest N a b S = some (.inr (3, S'))) : gMh w 8 yL_does cL_does 5 (some .int) [(0, 54, 105, 82), (55, 60, 105, 82), (61, 67, 105, 82), (68, 74, 105, 82), (75, 80, 105, 82), (81, 87, 105, 82), (88, 93, 105, 82), (94, 99, 105, 82), (100, 104, 105, 82), (0, 54, 109, 20), (55, 60, 109, 20), (61, 67, 109, 20), (68, 74, 109, 20), (75, 80, 109, 20), (81, 87, 109, 20), (88, 93, 109, 20), (94, 99, 109, 20), (100, 104, 109, 20), (0, 54, 114, 84), (55, 60, 114, 84), (61, 67, 114, 84), (68, 74, 114, 84), (75, 80, 114, 84), (81, 87, 114, 84), (88, 93, 114, 84), (94, 99, 114, 84), (100, 104, 114, 84)] [.ref (wAd w (7, 11, 6, 0)), .int 3, .int a, .int b] (cA w (S, o)) (some (.int (-1))) (cA w (S', o)) 1 6 := by
  refine gMh_of "HedgeMessagesLaw" rfl (by decide) (kR rfl) fun X C hT9 => ?_
  show gU w X _ _ 0 [(0, .ref (wAd w (7, 11, 6, 0))), (1, .int 3), (2, .int a), (3, .int b)] []
  refine r_iload_n C (k := 1) rfl rfl dL_does_0 ?_
  refine r_tabIn C (v := 3) (tgt := 68) (off := 67) rfl dL_does_1 (by decide) (by decide) (by decide) (by decide) ?_
  refine r_aload_n C (k := 0) rfl rfl dL_does_68 ?_
  refine r_iload_n C (k := 2) rfl rfl dL_does_69 ?_
  refine r_iload_n C (k := 3) rfl rfl dL_does_70 ?_
  refine r_callC C hT9 (d' := 7) (E := xN 3) [.int a, .int b] (x_X10_addNest (Ω := (S, o)) hW hS hZ rfl N a b hF rfl) myX10_addNest wm4_68 ⟨_, _, _, _, (hW.ok k7), rfl, rfl, rfl, rfl⟩ rfl (kR rfl) (by decide) (kR rfl) rfl dL_does_71 [⟨0, 54, 105, 82⟩, ⟨55, 60, 105, 82⟩, ⟨61, 67, 105, 82⟩] [⟨75, 80, 105, 82⟩, ⟨81, 87, 105, 82⟩, ⟨88, 93, 105, 82⟩, ⟨94, 99, 105, 82⟩, ⟨100, 104, 105, 82⟩, ⟨0, 54, 109, 20⟩, ⟨55, 60, 109, 20⟩, ⟨61, 67, 109, 20⟩, ⟨68, 74, 109, 20⟩, ⟨75, 80, 109, 20⟩, ⟨81, 87, 109, 20⟩, ⟨88, 93, 109, 20⟩, ⟨94, 99, 109, 20⟩, ⟨100, 104, 109, 20⟩, ⟨0, 54, 114, 84⟩, ⟨55, 60, 114, 84⟩, ⟨61, 67, 114, 84⟩, ⟨68, 74, 114, 84⟩, ⟨75, 80, 114, 84⟩, ⟨81, 87, 114, 84⟩, ⟨88, 93, 114, 84⟩, ⟨94, 99, 114, 84⟩, ⟨100, 104, 114, 84⟩] ⟨68, 74, 105, 82⟩ rfl ((gZ.x hZ C).imp fun _ _ _ h => xfz (Or.inl (by decide)) <| xfz (Or.inl (by decide)) <| xfz (Or.inl (by decide)) <| fun _ h => nomatch h) (by decide) (by decide) wm3_196 rfl wm3_212 fun q => ?_
  refine r_astore C (lo' := [(4, .ref q), (0, .ref (wAd w (7, 11, 6, 0))), (1, .int 3), (2, .int a), (3, .int b)]) (by decide) rfl dL_does_105 ?_
  refine r_iconst C (v := (-1)) (by decide) dL_does_107 ?_
  exact r_hreturn C dL_does_108
theorem c_does_3 {w : WP} (hW : gW w) (hS : gS w) (hZ : gZ w) {S : SS} {o : HV × CT} (N : Nat) (a b : Int32) {v : Int32} {S' : SS} (hF : fdR (F_X10_addNest N a b S) = some (v, S')) : gMh w 8 yL_does cL_does 5 (some .int) [(0, 54, 105, 82), (55, 60, 105, 82), (61, 67, 105, 82), (68, 74, 105, 82), (75, 80, 105, 82), (81, 87, 105, 82), (88, 93, 105, 82), (94, 99, 105, 82), (100, 104, 105, 82), (0, 54, 109, 20), (55, 60, 109, 20), (61, 67, 109, 20), (68, 74, 109, 20), (75, 80, 109, 20), (81, 87, 109, 20), (88, 93, 109, 20), (94, 99, 109, 20), (100, 104, 109, 20), (0, 54, 114, 84), (55, 60, 114, 84), (61, 67, 114, 84), (68, 74, 114, 84), (75, 80, 114, 84), (81, 87, 114, 84), (88, 93, 114, 84), (94, 99, 114, 84), (100, 104, 114, 84)] [.ref (wAd w (7, 11, 6, 0)), .int 3, .int a, .int b] (cA w (S, o)) (some (.int v)) (cA w (S', o)) 1 6 := by
  rcases fdR_e hF with h | ⟨rfl, h⟩ | ⟨rfl, h⟩ | ⟨rfl, h⟩
  · exact n_does_3 hW hS N a b h
  · exact x_does_3_1 hW hS hZ N a b h
  · exact x_does_3_2 hW hS hZ N a b h
  · exact x_does_3_3 hW hS hZ N a b h
theorem n_does_4 {w : WP} (hW : gW w) (hS : gS w) {S : SS} {o : HV × CT} (N : Nat) (a b : Int32) {v : Int32} {S' : SS} (hF : F_X10_queueMessage N a S = some (.inl (v, S'))) : gMh w 8 yL_does cL_does 5 (some .int) [(0, 54, 105, 82), (55, 60, 105, 82), (61, 67, 105, 82), (68, 74, 105, 82), (75, 80, 105, 82), (81, 87, 105, 82), (88, 93, 105, 82), (94, 99, 105, 82), (100, 104, 105, 82), (0, 54, 109, 20), (55, 60, 109, 20), (61, 67, 109, 20), (68, 74, 109, 20), (75, 80, 109, 20), (81, 87, 109, 20), (88, 93, 109, 20), (94, 99, 109, 20), (100, 104, 109, 20), (0, 54, 114, 84), (55, 60, 114, 84), (61, 67, 114, 84), (68, 74, 114, 84), (75, 80, 114, 84), (81, 87, 114, 84), (88, 93, 114, 84), (94, 99, 114, 84), (100, 104, 114, 84)] [.ref (wAd w (7, 11, 6, 0)), .int 4, .int a, .int b] (cA w (S, o)) (some (.int v)) (cA w (S', o)) 1 6 := by
  refine gMh_of "HedgeMessagesLaw" rfl (by decide) (kR rfl) fun X C hT9 => ?_
  show gU w X _ _ 0 [(0, .ref (wAd w (7, 11, 6, 0))), (1, .int 4), (2, .int a), (3, .int b)] []
  refine r_iload_n C (k := 1) rfl rfl dL_does_0 ?_
  refine r_tabIn C (v := 4) (tgt := 75) (off := 74) rfl dL_does_1 (by decide) (by decide) (by decide) (by decide) ?_
  refine r_aload_n C (k := 0) rfl rfl dL_does_75 ?_
  refine r_iload_n C (k := 2) rfl rfl dL_does_76 ?_
  refine r_callV C (d' := 7) [.int a] (c_X10_queueMessage (Ω := (S, o)) hW hS rfl N a hF rfl) myX10_queueMessage wm4_80 ⟨_, _, _, _, (hW.ok k7), rfl, rfl, rfl, rfl⟩ rfl (kR rfl) (by decide) (kR rfl) rfl dL_does_77 ?_
  refine r_wid (c' := 1) (s' := 6) (by decide) (by decide) ?_
  exact r_hreturn C dL_does_80
theorem x_does_4_1 {w : WP} (hW : gW w) (hS : gS w) (hZ : gZ w) {S : SS} {o : HV × CT} (N : Nat) (a b : Int32) {S' : SS} (hF : F_X10_queueMessage N a S = some (.inr (1, S'))) : gMh w 8 yL_does cL_does 5 (some .int) [(0, 54, 105, 82), (55, 60, 105, 82), (61, 67, 105, 82), (68, 74, 105, 82), (75, 80, 105, 82), (81, 87, 105, 82), (88, 93, 105, 82), (94, 99, 105, 82), (100, 104, 105, 82), (0, 54, 109, 20), (55, 60, 109, 20), (61, 67, 109, 20), (68, 74, 109, 20), (75, 80, 109, 20), (81, 87, 109, 20), (88, 93, 109, 20), (94, 99, 109, 20), (100, 104, 109, 20), (0, 54, 114, 84), (55, 60, 114, 84), (61, 67, 114, 84), (68, 74, 114, 84), (75, 80, 114, 84), (81, 87, 114, 84), (88, 93, 114, 84), (94, 99, 114, 84), (100, 104, 114, 84)] [.ref (wAd w (7, 11, 6, 0)), .int 4, .int a, .int b] (cA w (S, o)) (some (.int (-3))) (cA w (S', o)) 1 6 := by
  refine gMh_of "HedgeMessagesLaw" rfl (by decide) (kR rfl) fun X C hT9 => ?_
  show gU w X _ _ 0 [(0, .ref (wAd w (7, 11, 6, 0))), (1, .int 4), (2, .int a), (3, .int b)] []
  refine r_iload_n C (k := 1) rfl rfl dL_does_0 ?_
  refine r_tabIn C (v := 4) (tgt := 75) (off := 74) rfl dL_does_1 (by decide) (by decide) (by decide) (by decide) ?_
  refine r_aload_n C (k := 0) rfl rfl dL_does_75 ?_
  refine r_iload_n C (k := 2) rfl rfl dL_does_76 ?_
  refine r_callC C hT9 (d' := 7) (E := xN 1) [.int a] (x_X10_queueMessage (Ω := (S, o)) hW hS hZ rfl N a hF rfl) myX10_queueMessage wm4_80 ⟨_, _, _, _, (hW.ok k7), rfl, rfl, rfl, rfl⟩ rfl (kR rfl) (by decide) (kR rfl) rfl dL_does_77 [⟨0, 54, 105, 82⟩, ⟨55, 60, 105, 82⟩, ⟨61, 67, 105, 82⟩, ⟨68, 74, 105, 82⟩, ⟨75, 80, 105, 82⟩, ⟨81, 87, 105, 82⟩, ⟨88, 93, 105, 82⟩, ⟨94, 99, 105, 82⟩, ⟨100, 104, 105, 82⟩, ⟨0, 54, 109, 20⟩, ⟨55, 60, 109, 20⟩, ⟨61, 67, 109, 20⟩, ⟨68, 74, 109, 20⟩, ⟨75, 80, 109, 20⟩, ⟨81, 87, 109, 20⟩, ⟨88, 93, 109, 20⟩, ⟨94, 99, 109, 20⟩, ⟨100, 104, 109, 20⟩, ⟨0, 54, 114, 84⟩, ⟨55, 60, 114, 84⟩, ⟨61, 67, 114, 84⟩, ⟨68, 74, 114, 84⟩] [⟨81, 87, 114, 84⟩, ⟨88, 93, 114, 84⟩, ⟨94, 99, 114, 84⟩, ⟨100, 104, 114, 84⟩] ⟨75, 80, 114, 84⟩ rfl ((gZ.x hZ C).imp fun _ _ _ h => xfz (Or.inl (by decide)) <| xfz (Or.inl (by decide)) <| xfz (Or.inl (by decide)) <| xfz (Or.inl (by decide)) <| xfz (Or.inr ⟨by decide, _, wm3_196, rfl, h.2.2.2.1⟩) <| xfz (Or.inl (by decide)) <| xfz (Or.inl (by decide)) <| xfz (Or.inl (by decide)) <| xfz (Or.inl (by decide)) <| xfz (Or.inl (by decide)) <| xfz (Or.inl (by decide)) <| xfz (Or.inl (by decide)) <| xfz (Or.inl (by decide)) <| xfz (Or.inr ⟨by decide, _, wm3_97, rfl, h.2.2.1⟩) <| xfz (Or.inl (by decide)) <| xfz (Or.inl (by decide)) <| xfz (Or.inl (by decide)) <| xfz (Or.inl (by decide)) <| xfz (Or.inl (by decide)) <| xfz (Or.inl (by decide)) <| xfz (Or.inl (by decide)) <| xfz (Or.inl (by decide)) <| fun _ h => nomatch h) (by decide) (by decide) wm3_197 rfl wm2_220 fun q => ?_
  refine r_astore C (lo' := [(4, .ref q), (0, .ref (wAd w (7, 11, 6, 0))), (1, .int 4), (2, .int a), (3, .int b)]) (by decide) rfl dL_does_114 ?_
  refine r_bipush C (v := (-3)) (by decide) dL_does_116 ?_
  exact r_hreturn C dL_does_118
theorem x_does_4_2 {w : WP} (hW : gW w) (hS : gS w) (hZ : gZ w) {S : SS} {o : HV × CT} (N : Nat) (a b : Int32) {S' : SS} (hF : F_X10_queueMessage N a S = some (.inr (2, S'))) : gMh w 8 yL_does cL_does 5 (some .int) [(0, 54, 105, 82), (55, 60, 105, 82), (61, 67, 105, 82), (68, 74, 105, 82), (75, 80, 105, 82), (81, 87, 105, 82), (88, 93, 105, 82), (94, 99, 105, 82), (100, 104, 105, 82), (0, 54, 109, 20), (55, 60, 109, 20), (61, 67, 109, 20), (68, 74, 109, 20), (75, 80, 109, 20), (81, 87, 109, 20), (88, 93, 109, 20), (94, 99, 109, 20), (100, 104, 109, 20), (0, 54, 114, 84), (55, 60, 114, 84), (61, 67, 114, 84), (68, 74, 114, 84), (75, 80, 114, 84), (81, 87, 114, 84), (88, 93, 114, 84), (94, 99, 114, 84), (100, 104, 114, 84)] [.ref (wAd w (7, 11, 6, 0)), .int 4, .int a, .int b] (cA w (S, o)) (some (.int (-2))) (cA w (S', o)) 1 6 := by
  refine gMh_of "HedgeMessagesLaw" rfl (by decide) (kR rfl) fun X C hT9 => ?_
  show gU w X _ _ 0 [(0, .ref (wAd w (7, 11, 6, 0))), (1, .int 4), (2, .int a), (3, .int b)] []
  refine r_iload_n C (k := 1) rfl rfl dL_does_0 ?_
  refine r_tabIn C (v := 4) (tgt := 75) (off := 74) rfl dL_does_1 (by decide) (by decide) (by decide) (by decide) ?_
  refine r_aload_n C (k := 0) rfl rfl dL_does_75 ?_
  refine r_iload_n C (k := 2) rfl rfl dL_does_76 ?_
  refine r_callC C hT9 (d' := 7) (E := xN 2) [.int a] (x_X10_queueMessage (Ω := (S, o)) hW hS hZ rfl N a hF rfl) myX10_queueMessage wm4_80 ⟨_, _, _, _, (hW.ok k7), rfl, rfl, rfl, rfl⟩ rfl (kR rfl) (by decide) (kR rfl) rfl dL_does_77 [⟨0, 54, 105, 82⟩, ⟨55, 60, 105, 82⟩, ⟨61, 67, 105, 82⟩, ⟨68, 74, 105, 82⟩, ⟨75, 80, 105, 82⟩, ⟨81, 87, 105, 82⟩, ⟨88, 93, 105, 82⟩, ⟨94, 99, 105, 82⟩, ⟨100, 104, 105, 82⟩, ⟨0, 54, 109, 20⟩, ⟨55, 60, 109, 20⟩, ⟨61, 67, 109, 20⟩, ⟨68, 74, 109, 20⟩] [⟨81, 87, 109, 20⟩, ⟨88, 93, 109, 20⟩, ⟨94, 99, 109, 20⟩, ⟨100, 104, 109, 20⟩, ⟨0, 54, 114, 84⟩, ⟨55, 60, 114, 84⟩, ⟨61, 67, 114, 84⟩, ⟨68, 74, 114, 84⟩, ⟨75, 80, 114, 84⟩, ⟨81, 87, 114, 84⟩, ⟨88, 93, 114, 84⟩, ⟨94, 99, 114, 84⟩, ⟨100, 104, 114, 84⟩] ⟨75, 80, 109, 20⟩ rfl ((gZ.x hZ C).imp fun _ _ _ h => xfz (Or.inl (by decide)) <| xfz (Or.inl (by decide)) <| xfz (Or.inl (by decide)) <| xfz (Or.inl (by decide)) <| xfz (Or.inr ⟨by decide, _, wm3_196, rfl, h.2.2.2.2.1⟩) <| xfz (Or.inl (by decide)) <| xfz (Or.inl (by decide)) <| xfz (Or.inl (by decide)) <| xfz (Or.inl (by decide)) <| xfz (Or.inl (by decide)) <| xfz (Or.inl (by decide)) <| xfz (Or.inl (by decide)) <| xfz (Or.inl (by decide)) <| fun _ h => nomatch h) (by decide) (by decide) wm3_97 rfl wm3_80 fun q => ?_
  refine r_astore C (lo' := [(4, .ref q), (0, .ref (wAd w (7, 11, 6, 0))), (1, .int 4), (2, .int a), (3, .int b)]) (by decide) rfl dL_does_109 ?_
  refine r_bipush C (v := (-2)) (by decide) dL_does_111 ?_
  exact r_hreturn C dL_does_113
theorem x_does_4_3 {w : WP} (hW : gW w) (hS : gS w) (hZ : gZ w) {S : SS} {o : HV × CT} (N : Nat) (a b : Int32) {S' : SS} (hF : F_X10_queueMessage N a S = some (.inr (3, S'))) : gMh w 8 yL_does cL_does 5 (some .int) [(0, 54, 105, 82), (55, 60, 105, 82), (61, 67, 105, 82), (68, 74, 105, 82), (75, 80, 105, 82), (81, 87, 105, 82), (88, 93, 105, 82), (94, 99, 105, 82), (100, 104, 105, 82), (0, 54, 109, 20), (55, 60, 109, 20), (61, 67, 109, 20), (68, 74, 109, 20), (75, 80, 109, 20), (81, 87, 109, 20), (88, 93, 109, 20), (94, 99, 109, 20), (100, 104, 109, 20), (0, 54, 114, 84), (55, 60, 114, 84), (61, 67, 114, 84), (68, 74, 114, 84), (75, 80, 114, 84), (81, 87, 114, 84), (88, 93, 114, 84), (94, 99, 114, 84), (100, 104, 114, 84)] [.ref (wAd w (7, 11, 6, 0)), .int 4, .int a, .int b] (cA w (S, o)) (some (.int (-1))) (cA w (S', o)) 1 6 := by
  refine gMh_of "HedgeMessagesLaw" rfl (by decide) (kR rfl) fun X C hT9 => ?_
  show gU w X _ _ 0 [(0, .ref (wAd w (7, 11, 6, 0))), (1, .int 4), (2, .int a), (3, .int b)] []
  refine r_iload_n C (k := 1) rfl rfl dL_does_0 ?_
  refine r_tabIn C (v := 4) (tgt := 75) (off := 74) rfl dL_does_1 (by decide) (by decide) (by decide) (by decide) ?_
  refine r_aload_n C (k := 0) rfl rfl dL_does_75 ?_
  refine r_iload_n C (k := 2) rfl rfl dL_does_76 ?_
  refine r_callC C hT9 (d' := 7) (E := xN 3) [.int a] (x_X10_queueMessage (Ω := (S, o)) hW hS hZ rfl N a hF rfl) myX10_queueMessage wm4_80 ⟨_, _, _, _, (hW.ok k7), rfl, rfl, rfl, rfl⟩ rfl (kR rfl) (by decide) (kR rfl) rfl dL_does_77 [⟨0, 54, 105, 82⟩, ⟨55, 60, 105, 82⟩, ⟨61, 67, 105, 82⟩, ⟨68, 74, 105, 82⟩] [⟨81, 87, 105, 82⟩, ⟨88, 93, 105, 82⟩, ⟨94, 99, 105, 82⟩, ⟨100, 104, 105, 82⟩, ⟨0, 54, 109, 20⟩, ⟨55, 60, 109, 20⟩, ⟨61, 67, 109, 20⟩, ⟨68, 74, 109, 20⟩, ⟨75, 80, 109, 20⟩, ⟨81, 87, 109, 20⟩, ⟨88, 93, 109, 20⟩, ⟨94, 99, 109, 20⟩, ⟨100, 104, 109, 20⟩, ⟨0, 54, 114, 84⟩, ⟨55, 60, 114, 84⟩, ⟨61, 67, 114, 84⟩, ⟨68, 74, 114, 84⟩, ⟨75, 80, 114, 84⟩, ⟨81, 87, 114, 84⟩, ⟨88, 93, 114, 84⟩, ⟨94, 99, 114, 84⟩, ⟨100, 104, 114, 84⟩] ⟨75, 80, 105, 82⟩ rfl ((gZ.x hZ C).imp fun _ _ _ h => xfz (Or.inl (by decide)) <| xfz (Or.inl (by decide)) <| xfz (Or.inl (by decide)) <| xfz (Or.inl (by decide)) <| fun _ h => nomatch h) (by decide) (by decide) wm3_196 rfl wm3_212 fun q => ?_
  refine r_astore C (lo' := [(4, .ref q), (0, .ref (wAd w (7, 11, 6, 0))), (1, .int 4), (2, .int a), (3, .int b)]) (by decide) rfl dL_does_105 ?_
  refine r_iconst C (v := (-1)) (by decide) dL_does_107 ?_
  exact r_hreturn C dL_does_108
theorem c_does_4 {w : WP} (hW : gW w) (hS : gS w) (hZ : gZ w) {S : SS} {o : HV × CT} (N : Nat) (a b : Int32) {v : Int32} {S' : SS} (hF : fdR (F_X10_queueMessage N a S) = some (v, S')) : gMh w 8 yL_does cL_does 5 (some .int) [(0, 54, 105, 82), (55, 60, 105, 82), (61, 67, 105, 82), (68, 74, 105, 82), (75, 80, 105, 82), (81, 87, 105, 82), (88, 93, 105, 82), (94, 99, 105, 82), (100, 104, 105, 82), (0, 54, 109, 20), (55, 60, 109, 20), (61, 67, 109, 20), (68, 74, 109, 20), (75, 80, 109, 20), (81, 87, 109, 20), (88, 93, 109, 20), (94, 99, 109, 20), (100, 104, 109, 20), (0, 54, 114, 84), (55, 60, 114, 84), (61, 67, 114, 84), (68, 74, 114, 84), (75, 80, 114, 84), (81, 87, 114, 84), (88, 93, 114, 84), (94, 99, 114, 84), (100, 104, 114, 84)] [.ref (wAd w (7, 11, 6, 0)), .int 4, .int a, .int b] (cA w (S, o)) (some (.int v)) (cA w (S', o)) 1 6 := by
  rcases fdR_e hF with h | ⟨rfl, h⟩ | ⟨rfl, h⟩ | ⟨rfl, h⟩
  · exact n_does_4 hW hS N a b h
  · exact x_does_4_1 hW hS hZ N a b h
  · exact x_does_4_2 hW hS hZ N a b h
  · exact x_does_4_3 hW hS hZ N a b h
theorem n_does_5 {w : WP} (hW : gW w) (hS : gS w) {S : SS} {o : HV × CT} (a b : Int32) {v : Int32} {S' : SS} (hF : F_X10_cancelMessage a b S = some (.inl (v, S'))) : gMh w 8 yL_does cL_does 5 (some .int) [(0, 54, 105, 82), (55, 60, 105, 82), (61, 67, 105, 82), (68, 74, 105, 82), (75, 80, 105, 82), (81, 87, 105, 82), (88, 93, 105, 82), (94, 99, 105, 82), (100, 104, 105, 82), (0, 54, 109, 20), (55, 60, 109, 20), (61, 67, 109, 20), (68, 74, 109, 20), (75, 80, 109, 20), (81, 87, 109, 20), (88, 93, 109, 20), (94, 99, 109, 20), (100, 104, 109, 20), (0, 54, 114, 84), (55, 60, 114, 84), (61, 67, 114, 84), (68, 74, 114, 84), (75, 80, 114, 84), (81, 87, 114, 84), (88, 93, 114, 84), (94, 99, 114, 84), (100, 104, 114, 84)] [.ref (wAd w (7, 11, 6, 0)), .int 5, .int a, .int b] (cA w (S, o)) (some (.int v)) (cA w (S', o)) 1 6 := by
  refine gMh_of "HedgeMessagesLaw" rfl (by decide) (kR rfl) fun X C hT9 => ?_
  show gU w X _ _ 0 [(0, .ref (wAd w (7, 11, 6, 0))), (1, .int 5), (2, .int a), (3, .int b)] []
  refine r_iload_n C (k := 1) rfl rfl dL_does_0 ?_
  refine r_tabIn C (v := 5) (tgt := 81) (off := 80) rfl dL_does_1 (by decide) (by decide) (by decide) (by decide) ?_
  refine r_aload_n C (k := 0) rfl rfl dL_does_81 ?_
  refine r_iload_n C (k := 2) rfl rfl dL_does_82 ?_
  refine r_iload_n C (k := 3) rfl rfl dL_does_83 ?_
  refine r_callV C (d' := 7) [.int a, .int b] (c_X10_cancelMessage (Ω := (S, o)) hW hS rfl a b hF rfl) myX10_cancelMessage wm4_97 ⟨_, _, _, _, (hW.ok k7), rfl, rfl, rfl, rfl⟩ rfl (kR rfl) (by decide) (kR rfl) rfl dL_does_84 ?_
  refine r_wid (c' := 1) (s' := 6) (by decide) (by decide) ?_
  exact r_hreturn C dL_does_87
theorem x_does_5_1 {w : WP} (hW : gW w) (hS : gS w) (hZ : gZ w) {S : SS} {o : HV × CT} (a b : Int32) {S' : SS} (hF : F_X10_cancelMessage a b S = some (.inr (1, S'))) : gMh w 8 yL_does cL_does 5 (some .int) [(0, 54, 105, 82), (55, 60, 105, 82), (61, 67, 105, 82), (68, 74, 105, 82), (75, 80, 105, 82), (81, 87, 105, 82), (88, 93, 105, 82), (94, 99, 105, 82), (100, 104, 105, 82), (0, 54, 109, 20), (55, 60, 109, 20), (61, 67, 109, 20), (68, 74, 109, 20), (75, 80, 109, 20), (81, 87, 109, 20), (88, 93, 109, 20), (94, 99, 109, 20), (100, 104, 109, 20), (0, 54, 114, 84), (55, 60, 114, 84), (61, 67, 114, 84), (68, 74, 114, 84), (75, 80, 114, 84), (81, 87, 114, 84), (88, 93, 114, 84), (94, 99, 114, 84), (100, 104, 114, 84)] [.ref (wAd w (7, 11, 6, 0)), .int 5, .int a, .int b] (cA w (S, o)) (some (.int (-3))) (cA w (S', o)) 1 6 := by
  refine gMh_of "HedgeMessagesLaw" rfl (by decide) (kR rfl) fun X C hT9 => ?_
  show gU w X _ _ 0 [(0, .ref (wAd w (7, 11, 6, 0))), (1, .int 5), (2, .int a), (3, .int b)] []
  refine r_iload_n C (k := 1) rfl rfl dL_does_0 ?_
  refine r_tabIn C (v := 5) (tgt := 81) (off := 80) rfl dL_does_1 (by decide) (by decide) (by decide) (by decide) ?_
  refine r_aload_n C (k := 0) rfl rfl dL_does_81 ?_
  refine r_iload_n C (k := 2) rfl rfl dL_does_82 ?_
  refine r_iload_n C (k := 3) rfl rfl dL_does_83 ?_
  refine r_callC C hT9 (d' := 7) (E := xN 1) [.int a, .int b] (x_X10_cancelMessage (Ω := (S, o)) hW hS hZ rfl a b hF rfl) myX10_cancelMessage wm4_97 ⟨_, _, _, _, (hW.ok k7), rfl, rfl, rfl, rfl⟩ rfl (kR rfl) (by decide) (kR rfl) rfl dL_does_84 [⟨0, 54, 105, 82⟩, ⟨55, 60, 105, 82⟩, ⟨61, 67, 105, 82⟩, ⟨68, 74, 105, 82⟩, ⟨75, 80, 105, 82⟩, ⟨81, 87, 105, 82⟩, ⟨88, 93, 105, 82⟩, ⟨94, 99, 105, 82⟩, ⟨100, 104, 105, 82⟩, ⟨0, 54, 109, 20⟩, ⟨55, 60, 109, 20⟩, ⟨61, 67, 109, 20⟩, ⟨68, 74, 109, 20⟩, ⟨75, 80, 109, 20⟩, ⟨81, 87, 109, 20⟩, ⟨88, 93, 109, 20⟩, ⟨94, 99, 109, 20⟩, ⟨100, 104, 109, 20⟩, ⟨0, 54, 114, 84⟩, ⟨55, 60, 114, 84⟩, ⟨61, 67, 114, 84⟩, ⟨68, 74, 114, 84⟩, ⟨75, 80, 114, 84⟩] [⟨88, 93, 114, 84⟩, ⟨94, 99, 114, 84⟩, ⟨100, 104, 114, 84⟩] ⟨81, 87, 114, 84⟩ rfl ((gZ.x hZ C).imp fun _ _ _ h => xfz (Or.inl (by decide)) <| xfz (Or.inl (by decide)) <| xfz (Or.inl (by decide)) <| xfz (Or.inl (by decide)) <| xfz (Or.inl (by decide)) <| xfz (Or.inr ⟨by decide, _, wm3_196, rfl, h.2.2.2.1⟩) <| xfz (Or.inl (by decide)) <| xfz (Or.inl (by decide)) <| xfz (Or.inl (by decide)) <| xfz (Or.inl (by decide)) <| xfz (Or.inl (by decide)) <| xfz (Or.inl (by decide)) <| xfz (Or.inl (by decide)) <| xfz (Or.inl (by decide)) <| xfz (Or.inr ⟨by decide, _, wm3_97, rfl, h.2.2.1⟩) <| xfz (Or.inl (by decide)) <| xfz (Or.inl (by decide)) <| xfz (Or.inl (by decide)) <| xfz (Or.inl (by decide)) <| xfz (Or.inl (by decide)) <| xfz (Or.inl (by decide)) <| xfz (Or.inl (by decide)) <| xfz (Or.inl (by decide)) <| fun _ h => nomatch h) (by decide) (by decide) wm3_197 rfl wm2_220 fun q => ?_
  refine r_astore C (lo' := [(4, .ref q), (0, .ref (wAd w (7, 11, 6, 0))), (1, .int 5), (2, .int a), (3, .int b)]) (by decide) rfl dL_does_114 ?_
  refine r_bipush C (v := (-3)) (by decide) dL_does_116 ?_
  exact r_hreturn C dL_does_118
theorem x_does_5_2 {w : WP} (hW : gW w) (hS : gS w) (hZ : gZ w) {S : SS} {o : HV × CT} (a b : Int32) {S' : SS} (hF : F_X10_cancelMessage a b S = some (.inr (2, S'))) : gMh w 8 yL_does cL_does 5 (some .int) [(0, 54, 105, 82), (55, 60, 105, 82), (61, 67, 105, 82), (68, 74, 105, 82), (75, 80, 105, 82), (81, 87, 105, 82), (88, 93, 105, 82), (94, 99, 105, 82), (100, 104, 105, 82), (0, 54, 109, 20), (55, 60, 109, 20), (61, 67, 109, 20), (68, 74, 109, 20), (75, 80, 109, 20), (81, 87, 109, 20), (88, 93, 109, 20), (94, 99, 109, 20), (100, 104, 109, 20), (0, 54, 114, 84), (55, 60, 114, 84), (61, 67, 114, 84), (68, 74, 114, 84), (75, 80, 114, 84), (81, 87, 114, 84), (88, 93, 114, 84), (94, 99, 114, 84), (100, 104, 114, 84)] [.ref (wAd w (7, 11, 6, 0)), .int 5, .int a, .int b] (cA w (S, o)) (some (.int (-2))) (cA w (S', o)) 1 6 := by
  refine gMh_of "HedgeMessagesLaw" rfl (by decide) (kR rfl) fun X C hT9 => ?_
  show gU w X _ _ 0 [(0, .ref (wAd w (7, 11, 6, 0))), (1, .int 5), (2, .int a), (3, .int b)] []
  refine r_iload_n C (k := 1) rfl rfl dL_does_0 ?_
  refine r_tabIn C (v := 5) (tgt := 81) (off := 80) rfl dL_does_1 (by decide) (by decide) (by decide) (by decide) ?_
  refine r_aload_n C (k := 0) rfl rfl dL_does_81 ?_
  refine r_iload_n C (k := 2) rfl rfl dL_does_82 ?_
  refine r_iload_n C (k := 3) rfl rfl dL_does_83 ?_
  refine r_callC C hT9 (d' := 7) (E := xN 2) [.int a, .int b] (x_X10_cancelMessage (Ω := (S, o)) hW hS hZ rfl a b hF rfl) myX10_cancelMessage wm4_97 ⟨_, _, _, _, (hW.ok k7), rfl, rfl, rfl, rfl⟩ rfl (kR rfl) (by decide) (kR rfl) rfl dL_does_84 [⟨0, 54, 105, 82⟩, ⟨55, 60, 105, 82⟩, ⟨61, 67, 105, 82⟩, ⟨68, 74, 105, 82⟩, ⟨75, 80, 105, 82⟩, ⟨81, 87, 105, 82⟩, ⟨88, 93, 105, 82⟩, ⟨94, 99, 105, 82⟩, ⟨100, 104, 105, 82⟩, ⟨0, 54, 109, 20⟩, ⟨55, 60, 109, 20⟩, ⟨61, 67, 109, 20⟩, ⟨68, 74, 109, 20⟩, ⟨75, 80, 109, 20⟩] [⟨88, 93, 109, 20⟩, ⟨94, 99, 109, 20⟩, ⟨100, 104, 109, 20⟩, ⟨0, 54, 114, 84⟩, ⟨55, 60, 114, 84⟩, ⟨61, 67, 114, 84⟩, ⟨68, 74, 114, 84⟩, ⟨75, 80, 114, 84⟩, ⟨81, 87, 114, 84⟩, ⟨88, 93, 114, 84⟩, ⟨94, 99, 114, 84⟩, ⟨100, 104, 114, 84⟩] ⟨81, 87, 109, 20⟩ rfl ((gZ.x hZ C).imp fun _ _ _ h => xfz (Or.inl (by decide)) <| xfz (Or.inl (by decide)) <| xfz (Or.inl (by decide)) <| xfz (Or.inl (by decide)) <| xfz (Or.inl (by decide)) <| xfz (Or.inr ⟨by decide, _, wm3_196, rfl, h.2.2.2.2.1⟩) <| xfz (Or.inl (by decide)) <| xfz (Or.inl (by decide)) <| xfz (Or.inl (by decide)) <| xfz (Or.inl (by decide)) <| xfz (Or.inl (by decide)) <| xfz (Or.inl (by decide)) <| xfz (Or.inl (by decide)) <| xfz (Or.inl (by decide)) <| fun _ h => nomatch h) (by decide) (by decide) wm3_97 rfl wm3_80 fun q => ?_
  refine r_astore C (lo' := [(4, .ref q), (0, .ref (wAd w (7, 11, 6, 0))), (1, .int 5), (2, .int a), (3, .int b)]) (by decide) rfl dL_does_109 ?_
  refine r_bipush C (v := (-2)) (by decide) dL_does_111 ?_
  exact r_hreturn C dL_does_113
theorem x_does_5_3 {w : WP} (hW : gW w) (hS : gS w) (hZ : gZ w) {S : SS} {o : HV × CT} (a b : Int32) {S' : SS} (hF : F_X10_cancelMessage a b S = some (.inr (3, S'))) : gMh w 8 yL_does cL_does 5 (some .int) [(0, 54, 105, 82), (55, 60, 105, 82), (61, 67, 105, 82), (68, 74, 105, 82), (75, 80, 105, 82), (81, 87, 105, 82), (88, 93, 105, 82), (94, 99, 105, 82), (100, 104, 105, 82), (0, 54, 109, 20), (55, 60, 109, 20), (61, 67, 109, 20), (68, 74, 109, 20), (75, 80, 109, 20), (81, 87, 109, 20), (88, 93, 109, 20), (94, 99, 109, 20), (100, 104, 109, 20), (0, 54, 114, 84), (55, 60, 114, 84), (61, 67, 114, 84), (68, 74, 114, 84), (75, 80, 114, 84), (81, 87, 114, 84), (88, 93, 114, 84), (94, 99, 114, 84), (100, 104, 114, 84)] [.ref (wAd w (7, 11, 6, 0)), .int 5, .int a, .int b] (cA w (S, o)) (some (.int (-1))) (cA w (S', o)) 1 6 := by
  refine gMh_of "HedgeMessagesLaw" rfl (by decide) (kR rfl) fun X C hT9 => ?_
  show gU w X _ _ 0 [(0, .ref (wAd w (7, 11, 6, 0))), (1, .int 5), (2, .int a), (3, .int b)] []
  refine r_iload_n C (k := 1) rfl rfl dL_does_0 ?_
  refine r_tabIn C (v := 5) (tgt := 81) (off := 80) rfl dL_does_1 (by decide) (by decide) (by decide) (by decide) ?_
  refine r_aload_n C (k := 0) rfl rfl dL_does_81 ?_
  refine r_iload_n C (k := 2) rfl rfl dL_does_82 ?_
  refine r_iload_n C (k := 3) rfl rfl dL_does_83 ?_
  refine r_callC C hT9 (d' := 7) (E := xN 3) [.int a, .int b] (x_X10_cancelMessage (Ω := (S, o)) hW hS hZ rfl a b hF rfl) myX10_cancelMessage wm4_97 ⟨_, _, _, _, (hW.ok k7), rfl, rfl, rfl, rfl⟩ rfl (kR rfl) (by decide) (kR rfl) rfl dL_does_84 [⟨0, 54, 105, 82⟩, ⟨55, 60, 105, 82⟩, ⟨61, 67, 105, 82⟩, ⟨68, 74, 105, 82⟩, ⟨75, 80, 105, 82⟩] [⟨88, 93, 105, 82⟩, ⟨94, 99, 105, 82⟩, ⟨100, 104, 105, 82⟩, ⟨0, 54, 109, 20⟩, ⟨55, 60, 109, 20⟩, ⟨61, 67, 109, 20⟩, ⟨68, 74, 109, 20⟩, ⟨75, 80, 109, 20⟩, ⟨81, 87, 109, 20⟩, ⟨88, 93, 109, 20⟩, ⟨94, 99, 109, 20⟩, ⟨100, 104, 109, 20⟩, ⟨0, 54, 114, 84⟩, ⟨55, 60, 114, 84⟩, ⟨61, 67, 114, 84⟩, ⟨68, 74, 114, 84⟩, ⟨75, 80, 114, 84⟩, ⟨81, 87, 114, 84⟩, ⟨88, 93, 114, 84⟩, ⟨94, 99, 114, 84⟩, ⟨100, 104, 114, 84⟩] ⟨81, 87, 105, 82⟩ rfl ((gZ.x hZ C).imp fun _ _ _ h => xfz (Or.inl (by decide)) <| xfz (Or.inl (by decide)) <| xfz (Or.inl (by decide)) <| xfz (Or.inl (by decide)) <| xfz (Or.inl (by decide)) <| fun _ h => nomatch h) (by decide) (by decide) wm3_196 rfl wm3_212 fun q => ?_
  refine r_astore C (lo' := [(4, .ref q), (0, .ref (wAd w (7, 11, 6, 0))), (1, .int 5), (2, .int a), (3, .int b)]) (by decide) rfl dL_does_105 ?_
  refine r_iconst C (v := (-1)) (by decide) dL_does_107 ?_
  exact r_hreturn C dL_does_108
theorem c_does_5 {w : WP} (hW : gW w) (hS : gS w) (hZ : gZ w) {S : SS} {o : HV × CT} (a b : Int32) {v : Int32} {S' : SS} (hF : fdR (F_X10_cancelMessage a b S) = some (v, S')) : gMh w 8 yL_does cL_does 5 (some .int) [(0, 54, 105, 82), (55, 60, 105, 82), (61, 67, 105, 82), (68, 74, 105, 82), (75, 80, 105, 82), (81, 87, 105, 82), (88, 93, 105, 82), (94, 99, 105, 82), (100, 104, 105, 82), (0, 54, 109, 20), (55, 60, 109, 20), (61, 67, 109, 20), (68, 74, 109, 20), (75, 80, 109, 20), (81, 87, 109, 20), (88, 93, 109, 20), (94, 99, 109, 20), (100, 104, 109, 20), (0, 54, 114, 84), (55, 60, 114, 84), (61, 67, 114, 84), (68, 74, 114, 84), (75, 80, 114, 84), (81, 87, 114, 84), (88, 93, 114, 84), (94, 99, 114, 84), (100, 104, 114, 84)] [.ref (wAd w (7, 11, 6, 0)), .int 5, .int a, .int b] (cA w (S, o)) (some (.int v)) (cA w (S', o)) 1 6 := by
  rcases fdR_e hF with h | ⟨rfl, h⟩ | ⟨rfl, h⟩ | ⟨rfl, h⟩
  · exact n_does_5 hW hS a b h
  · exact x_does_5_1 hW hS hZ a b h
  · exact x_does_5_2 hW hS hZ a b h
  · exact x_does_5_3 hW hS hZ a b h
theorem n_does_6 {w : WP} (hW : gW w) (hS : gS w) {S : SS} {o : HV × CT} (a b : Int32) {v : Int32} {S' : SS} (hF : F_X10_setWorkLimit a S = some (.inl (v, S'))) : gMh w 7 yL_does cL_does 5 (some .int) [(0, 54, 105, 82), (55, 60, 105, 82), (61, 67, 105, 82), (68, 74, 105, 82), (75, 80, 105, 82), (81, 87, 105, 82), (88, 93, 105, 82), (94, 99, 105, 82), (100, 104, 105, 82), (0, 54, 109, 20), (55, 60, 109, 20), (61, 67, 109, 20), (68, 74, 109, 20), (75, 80, 109, 20), (81, 87, 109, 20), (88, 93, 109, 20), (94, 99, 109, 20), (100, 104, 109, 20), (0, 54, 114, 84), (55, 60, 114, 84), (61, 67, 114, 84), (68, 74, 114, 84), (75, 80, 114, 84), (81, 87, 114, 84), (88, 93, 114, 84), (94, 99, 114, 84), (100, 104, 114, 84)] [.ref (wAd w (7, 11, 6, 0)), .int 6, .int a, .int b] (cA w (S, o)) (some (.int v)) (cA w (S', o)) 1 6 := by
  refine gMh_of "HedgeMessagesLaw" rfl (by decide) (kR rfl) fun X C hT9 => ?_
  show gU w X _ _ 0 [(0, .ref (wAd w (7, 11, 6, 0))), (1, .int 6), (2, .int a), (3, .int b)] []
  refine r_iload_n C (k := 1) rfl rfl dL_does_0 ?_
  refine r_tabIn C (v := 6) (tgt := 88) (off := 87) rfl dL_does_1 (by decide) (by decide) (by decide) (by decide) ?_
  refine r_aload_n C (k := 0) rfl rfl dL_does_88 ?_
  refine r_iload_n C (k := 2) rfl rfl dL_does_89 ?_
  refine r_callV C (d' := 6) [.int a] (c_X10_setWorkLimit (Ω := (S, o)) hW hS rfl a hF rfl) myX10_setWorkLimit wm4_124 ⟨_, _, _, _, (hW.ok k7), rfl, rfl, rfl, rfl⟩ rfl (kR rfl) (by decide) (kR rfl) rfl dL_does_90 ?_
  refine r_wid (c' := 1) (s' := 6) (by decide) (by decide) ?_
  exact r_hreturn C dL_does_93
theorem x_does_6_1 {w : WP} (hW : gW w) (hS : gS w) (hZ : gZ w) {S : SS} {o : HV × CT} (a b : Int32) {S' : SS} (hF : F_X10_setWorkLimit a S = some (.inr (1, S'))) : gMh w 7 yL_does cL_does 5 (some .int) [(0, 54, 105, 82), (55, 60, 105, 82), (61, 67, 105, 82), (68, 74, 105, 82), (75, 80, 105, 82), (81, 87, 105, 82), (88, 93, 105, 82), (94, 99, 105, 82), (100, 104, 105, 82), (0, 54, 109, 20), (55, 60, 109, 20), (61, 67, 109, 20), (68, 74, 109, 20), (75, 80, 109, 20), (81, 87, 109, 20), (88, 93, 109, 20), (94, 99, 109, 20), (100, 104, 109, 20), (0, 54, 114, 84), (55, 60, 114, 84), (61, 67, 114, 84), (68, 74, 114, 84), (75, 80, 114, 84), (81, 87, 114, 84), (88, 93, 114, 84), (94, 99, 114, 84), (100, 104, 114, 84)] [.ref (wAd w (7, 11, 6, 0)), .int 6, .int a, .int b] (cA w (S, o)) (some (.int (-3))) (cA w (S', o)) 1 6 := by
  refine gMh_of "HedgeMessagesLaw" rfl (by decide) (kR rfl) fun X C hT9 => ?_
  show gU w X _ _ 0 [(0, .ref (wAd w (7, 11, 6, 0))), (1, .int 6), (2, .int a), (3, .int b)] []
  refine r_iload_n C (k := 1) rfl rfl dL_does_0 ?_
  refine r_tabIn C (v := 6) (tgt := 88) (off := 87) rfl dL_does_1 (by decide) (by decide) (by decide) (by decide) ?_
  refine r_aload_n C (k := 0) rfl rfl dL_does_88 ?_
  refine r_iload_n C (k := 2) rfl rfl dL_does_89 ?_
  refine r_callC C hT9 (d' := 6) (E := xN 1) [.int a] (x_X10_setWorkLimit (Ω := (S, o)) hW hS hZ rfl a hF rfl) myX10_setWorkLimit wm4_124 ⟨_, _, _, _, (hW.ok k7), rfl, rfl, rfl, rfl⟩ rfl (kR rfl) (by decide) (kR rfl) rfl dL_does_90 [⟨0, 54, 105, 82⟩, ⟨55, 60, 105, 82⟩, ⟨61, 67, 105, 82⟩, ⟨68, 74, 105, 82⟩, ⟨75, 80, 105, 82⟩, ⟨81, 87, 105, 82⟩, ⟨88, 93, 105, 82⟩, ⟨94, 99, 105, 82⟩, ⟨100, 104, 105, 82⟩, ⟨0, 54, 109, 20⟩, ⟨55, 60, 109, 20⟩, ⟨61, 67, 109, 20⟩, ⟨68, 74, 109, 20⟩, ⟨75, 80, 109, 20⟩, ⟨81, 87, 109, 20⟩, ⟨88, 93, 109, 20⟩, ⟨94, 99, 109, 20⟩, ⟨100, 104, 109, 20⟩, ⟨0, 54, 114, 84⟩, ⟨55, 60, 114, 84⟩, ⟨61, 67, 114, 84⟩, ⟨68, 74, 114, 84⟩, ⟨75, 80, 114, 84⟩, ⟨81, 87, 114, 84⟩] [⟨94, 99, 114, 84⟩, ⟨100, 104, 114, 84⟩] ⟨88, 93, 114, 84⟩ rfl ((gZ.x hZ C).imp fun _ _ _ h => xfz (Or.inl (by decide)) <| xfz (Or.inl (by decide)) <| xfz (Or.inl (by decide)) <| xfz (Or.inl (by decide)) <| xfz (Or.inl (by decide)) <| xfz (Or.inl (by decide)) <| xfz (Or.inr ⟨by decide, _, wm3_196, rfl, h.2.2.2.1⟩) <| xfz (Or.inl (by decide)) <| xfz (Or.inl (by decide)) <| xfz (Or.inl (by decide)) <| xfz (Or.inl (by decide)) <| xfz (Or.inl (by decide)) <| xfz (Or.inl (by decide)) <| xfz (Or.inl (by decide)) <| xfz (Or.inl (by decide)) <| xfz (Or.inr ⟨by decide, _, wm3_97, rfl, h.2.2.1⟩) <| xfz (Or.inl (by decide)) <| xfz (Or.inl (by decide)) <| xfz (Or.inl (by decide)) <| xfz (Or.inl (by decide)) <| xfz (Or.inl (by decide)) <| xfz (Or.inl (by decide)) <| xfz (Or.inl (by decide)) <| xfz (Or.inl (by decide)) <| fun _ h => nomatch h) (by decide) (by decide) wm3_197 rfl wm2_220 fun q => ?_
  refine r_astore C (lo' := [(4, .ref q), (0, .ref (wAd w (7, 11, 6, 0))), (1, .int 6), (2, .int a), (3, .int b)]) (by decide) rfl dL_does_114 ?_
  refine r_bipush C (v := (-3)) (by decide) dL_does_116 ?_
  exact r_hreturn C dL_does_118
theorem x_does_6_2 {w : WP} (hW : gW w) (hS : gS w) (hZ : gZ w) {S : SS} {o : HV × CT} (a b : Int32) {S' : SS} (hF : F_X10_setWorkLimit a S = some (.inr (2, S'))) : gMh w 7 yL_does cL_does 5 (some .int) [(0, 54, 105, 82), (55, 60, 105, 82), (61, 67, 105, 82), (68, 74, 105, 82), (75, 80, 105, 82), (81, 87, 105, 82), (88, 93, 105, 82), (94, 99, 105, 82), (100, 104, 105, 82), (0, 54, 109, 20), (55, 60, 109, 20), (61, 67, 109, 20), (68, 74, 109, 20), (75, 80, 109, 20), (81, 87, 109, 20), (88, 93, 109, 20), (94, 99, 109, 20), (100, 104, 109, 20), (0, 54, 114, 84), (55, 60, 114, 84), (61, 67, 114, 84), (68, 74, 114, 84), (75, 80, 114, 84), (81, 87, 114, 84), (88, 93, 114, 84), (94, 99, 114, 84), (100, 104, 114, 84)] [.ref (wAd w (7, 11, 6, 0)), .int 6, .int a, .int b] (cA w (S, o)) (some (.int (-2))) (cA w (S', o)) 1 6 := by
  refine gMh_of "HedgeMessagesLaw" rfl (by decide) (kR rfl) fun X C hT9 => ?_
  show gU w X _ _ 0 [(0, .ref (wAd w (7, 11, 6, 0))), (1, .int 6), (2, .int a), (3, .int b)] []
  refine r_iload_n C (k := 1) rfl rfl dL_does_0 ?_
  refine r_tabIn C (v := 6) (tgt := 88) (off := 87) rfl dL_does_1 (by decide) (by decide) (by decide) (by decide) ?_
  refine r_aload_n C (k := 0) rfl rfl dL_does_88 ?_
  refine r_iload_n C (k := 2) rfl rfl dL_does_89 ?_
  refine r_callC C hT9 (d' := 6) (E := xN 2) [.int a] (x_X10_setWorkLimit (Ω := (S, o)) hW hS hZ rfl a hF rfl) myX10_setWorkLimit wm4_124 ⟨_, _, _, _, (hW.ok k7), rfl, rfl, rfl, rfl⟩ rfl (kR rfl) (by decide) (kR rfl) rfl dL_does_90 [⟨0, 54, 105, 82⟩, ⟨55, 60, 105, 82⟩, ⟨61, 67, 105, 82⟩, ⟨68, 74, 105, 82⟩, ⟨75, 80, 105, 82⟩, ⟨81, 87, 105, 82⟩, ⟨88, 93, 105, 82⟩, ⟨94, 99, 105, 82⟩, ⟨100, 104, 105, 82⟩, ⟨0, 54, 109, 20⟩, ⟨55, 60, 109, 20⟩, ⟨61, 67, 109, 20⟩, ⟨68, 74, 109, 20⟩, ⟨75, 80, 109, 20⟩, ⟨81, 87, 109, 20⟩] [⟨94, 99, 109, 20⟩, ⟨100, 104, 109, 20⟩, ⟨0, 54, 114, 84⟩, ⟨55, 60, 114, 84⟩, ⟨61, 67, 114, 84⟩, ⟨68, 74, 114, 84⟩, ⟨75, 80, 114, 84⟩, ⟨81, 87, 114, 84⟩, ⟨88, 93, 114, 84⟩, ⟨94, 99, 114, 84⟩, ⟨100, 104, 114, 84⟩] ⟨88, 93, 109, 20⟩ rfl ((gZ.x hZ C).imp fun _ _ _ h => xfz (Or.inl (by decide)) <| xfz (Or.inl (by decide)) <| xfz (Or.inl (by decide)) <| xfz (Or.inl (by decide)) <| xfz (Or.inl (by decide)) <| xfz (Or.inl (by decide)) <| xfz (Or.inr ⟨by decide, _, wm3_196, rfl, h.2.2.2.2.1⟩) <| xfz (Or.inl (by decide)) <| xfz (Or.inl (by decide)) <| xfz (Or.inl (by decide)) <| xfz (Or.inl (by decide)) <| xfz (Or.inl (by decide)) <| xfz (Or.inl (by decide)) <| xfz (Or.inl (by decide)) <| xfz (Or.inl (by decide)) <| fun _ h => nomatch h) (by decide) (by decide) wm3_97 rfl wm3_80 fun q => ?_
  refine r_astore C (lo' := [(4, .ref q), (0, .ref (wAd w (7, 11, 6, 0))), (1, .int 6), (2, .int a), (3, .int b)]) (by decide) rfl dL_does_109 ?_
  refine r_bipush C (v := (-2)) (by decide) dL_does_111 ?_
  exact r_hreturn C dL_does_113
theorem x_does_6_3 {w : WP} (hW : gW w) (hS : gS w) (hZ : gZ w) {S : SS} {o : HV × CT} (a b : Int32) {S' : SS} (hF : F_X10_setWorkLimit a S = some (.inr (3, S'))) : gMh w 7 yL_does cL_does 5 (some .int) [(0, 54, 105, 82), (55, 60, 105, 82), (61, 67, 105, 82), (68, 74, 105, 82), (75, 80, 105, 82), (81, 87, 105, 82), (88, 93, 105, 82), (94, 99, 105, 82), (100, 104, 105, 82), (0, 54, 109, 20), (55, 60, 109, 20), (61, 67, 109, 20), (68, 74, 109, 20), (75, 80, 109, 20), (81, 87, 109, 20), (88, 93, 109, 20), (94, 99, 109, 20), (100, 104, 109, 20), (0, 54, 114, 84), (55, 60, 114, 84), (61, 67, 114, 84), (68, 74, 114, 84), (75, 80, 114, 84), (81, 87, 114, 84), (88, 93, 114, 84), (94, 99, 114, 84), (100, 104, 114, 84)] [.ref (wAd w (7, 11, 6, 0)), .int 6, .int a, .int b] (cA w (S, o)) (some (.int (-1))) (cA w (S', o)) 1 6 := by
  refine gMh_of "HedgeMessagesLaw" rfl (by decide) (kR rfl) fun X C hT9 => ?_
  show gU w X _ _ 0 [(0, .ref (wAd w (7, 11, 6, 0))), (1, .int 6), (2, .int a), (3, .int b)] []
  refine r_iload_n C (k := 1) rfl rfl dL_does_0 ?_
  refine r_tabIn C (v := 6) (tgt := 88) (off := 87) rfl dL_does_1 (by decide) (by decide) (by decide) (by decide) ?_
  refine r_aload_n C (k := 0) rfl rfl dL_does_88 ?_
  refine r_iload_n C (k := 2) rfl rfl dL_does_89 ?_
  refine r_callC C hT9 (d' := 6) (E := xN 3) [.int a] (x_X10_setWorkLimit (Ω := (S, o)) hW hS hZ rfl a hF rfl) myX10_setWorkLimit wm4_124 ⟨_, _, _, _, (hW.ok k7), rfl, rfl, rfl, rfl⟩ rfl (kR rfl) (by decide) (kR rfl) rfl dL_does_90 [⟨0, 54, 105, 82⟩, ⟨55, 60, 105, 82⟩, ⟨61, 67, 105, 82⟩, ⟨68, 74, 105, 82⟩, ⟨75, 80, 105, 82⟩, ⟨81, 87, 105, 82⟩] [⟨94, 99, 105, 82⟩, ⟨100, 104, 105, 82⟩, ⟨0, 54, 109, 20⟩, ⟨55, 60, 109, 20⟩, ⟨61, 67, 109, 20⟩, ⟨68, 74, 109, 20⟩, ⟨75, 80, 109, 20⟩, ⟨81, 87, 109, 20⟩, ⟨88, 93, 109, 20⟩, ⟨94, 99, 109, 20⟩, ⟨100, 104, 109, 20⟩, ⟨0, 54, 114, 84⟩, ⟨55, 60, 114, 84⟩, ⟨61, 67, 114, 84⟩, ⟨68, 74, 114, 84⟩, ⟨75, 80, 114, 84⟩, ⟨81, 87, 114, 84⟩, ⟨88, 93, 114, 84⟩, ⟨94, 99, 114, 84⟩, ⟨100, 104, 114, 84⟩] ⟨88, 93, 105, 82⟩ rfl ((gZ.x hZ C).imp fun _ _ _ h => xfz (Or.inl (by decide)) <| xfz (Or.inl (by decide)) <| xfz (Or.inl (by decide)) <| xfz (Or.inl (by decide)) <| xfz (Or.inl (by decide)) <| xfz (Or.inl (by decide)) <| fun _ h => nomatch h) (by decide) (by decide) wm3_196 rfl wm3_212 fun q => ?_
  refine r_astore C (lo' := [(4, .ref q), (0, .ref (wAd w (7, 11, 6, 0))), (1, .int 6), (2, .int a), (3, .int b)]) (by decide) rfl dL_does_105 ?_
  refine r_iconst C (v := (-1)) (by decide) dL_does_107 ?_
  exact r_hreturn C dL_does_108
theorem c_does_6 {w : WP} (hW : gW w) (hS : gS w) (hZ : gZ w) {S : SS} {o : HV × CT} (a b : Int32) {v : Int32} {S' : SS} (hF : fdR (F_X10_setWorkLimit a S) = some (v, S')) : gMh w 7 yL_does cL_does 5 (some .int) [(0, 54, 105, 82), (55, 60, 105, 82), (61, 67, 105, 82), (68, 74, 105, 82), (75, 80, 105, 82), (81, 87, 105, 82), (88, 93, 105, 82), (94, 99, 105, 82), (100, 104, 105, 82), (0, 54, 109, 20), (55, 60, 109, 20), (61, 67, 109, 20), (68, 74, 109, 20), (75, 80, 109, 20), (81, 87, 109, 20), (88, 93, 109, 20), (94, 99, 109, 20), (100, 104, 109, 20), (0, 54, 114, 84), (55, 60, 114, 84), (61, 67, 114, 84), (68, 74, 114, 84), (75, 80, 114, 84), (81, 87, 114, 84), (88, 93, 114, 84), (94, 99, 114, 84), (100, 104, 114, 84)] [.ref (wAd w (7, 11, 6, 0)), .int 6, .int a, .int b] (cA w (S, o)) (some (.int v)) (cA w (S', o)) 1 6 := by
  rcases fdR_e hF with h | ⟨rfl, h⟩ | ⟨rfl, h⟩ | ⟨rfl, h⟩
  · exact n_does_6 hW hS a b h
  · exact x_does_6_1 hW hS hZ a b h
  · exact x_does_6_2 hW hS hZ a b h
  · exact x_does_6_3 hW hS hZ a b h
theorem n_does_7 {w : WP} (hW : gW w) (hS : gS w) {S : SS} {o : HV × CT} (N : Nat) (a b : Int32) {v : Int32} {S' : SS} (hF : F_X10_endDays N a S = some (.inl (v, S'))) : gMh w 8 yL_does cL_does 5 (some .int) [(0, 54, 105, 82), (55, 60, 105, 82), (61, 67, 105, 82), (68, 74, 105, 82), (75, 80, 105, 82), (81, 87, 105, 82), (88, 93, 105, 82), (94, 99, 105, 82), (100, 104, 105, 82), (0, 54, 109, 20), (55, 60, 109, 20), (61, 67, 109, 20), (68, 74, 109, 20), (75, 80, 109, 20), (81, 87, 109, 20), (88, 93, 109, 20), (94, 99, 109, 20), (100, 104, 109, 20), (0, 54, 114, 84), (55, 60, 114, 84), (61, 67, 114, 84), (68, 74, 114, 84), (75, 80, 114, 84), (81, 87, 114, 84), (88, 93, 114, 84), (94, 99, 114, 84), (100, 104, 114, 84)] [.ref (wAd w (7, 11, 6, 0)), .int 7, .int a, .int b] (cA w (S, o)) (some (.int v)) (cA w (S', o)) 1 6 := by
  refine gMh_of "HedgeMessagesLaw" rfl (by decide) (kR rfl) fun X C hT9 => ?_
  show gU w X _ _ 0 [(0, .ref (wAd w (7, 11, 6, 0))), (1, .int 7), (2, .int a), (3, .int b)] []
  refine r_iload_n C (k := 1) rfl rfl dL_does_0 ?_
  refine r_tabIn C (v := 7) (tgt := 94) (off := 93) rfl dL_does_1 (by decide) (by decide) (by decide) (by decide) ?_
  refine r_aload_n C (k := 0) rfl rfl dL_does_94 ?_
  refine r_iload_n C (k := 2) rfl rfl dL_does_95 ?_
  refine r_callV C (d' := 7) [.int a] (c_X10_endDays (Ω := (S, o)) hW hS rfl N a hF rfl) myX10_endDays wm4_129 ⟨_, _, _, _, (hW.ok k7), rfl, rfl, rfl, rfl⟩ rfl (kR rfl) (by decide) (kR rfl) rfl dL_does_96 ?_
  refine r_wid (c' := 1) (s' := 6) (by decide) (by decide) ?_
  exact r_hreturn C dL_does_99
theorem x_does_7_1 {w : WP} (hW : gW w) (hS : gS w) (hZ : gZ w) {S : SS} {o : HV × CT} (N : Nat) (a b : Int32) {S' : SS} (hF : F_X10_endDays N a S = some (.inr (1, S'))) : gMh w 8 yL_does cL_does 5 (some .int) [(0, 54, 105, 82), (55, 60, 105, 82), (61, 67, 105, 82), (68, 74, 105, 82), (75, 80, 105, 82), (81, 87, 105, 82), (88, 93, 105, 82), (94, 99, 105, 82), (100, 104, 105, 82), (0, 54, 109, 20), (55, 60, 109, 20), (61, 67, 109, 20), (68, 74, 109, 20), (75, 80, 109, 20), (81, 87, 109, 20), (88, 93, 109, 20), (94, 99, 109, 20), (100, 104, 109, 20), (0, 54, 114, 84), (55, 60, 114, 84), (61, 67, 114, 84), (68, 74, 114, 84), (75, 80, 114, 84), (81, 87, 114, 84), (88, 93, 114, 84), (94, 99, 114, 84), (100, 104, 114, 84)] [.ref (wAd w (7, 11, 6, 0)), .int 7, .int a, .int b] (cA w (S, o)) (some (.int (-3))) (cA w (S', o)) 1 6 := by
  refine gMh_of "HedgeMessagesLaw" rfl (by decide) (kR rfl) fun X C hT9 => ?_
  show gU w X _ _ 0 [(0, .ref (wAd w (7, 11, 6, 0))), (1, .int 7), (2, .int a), (3, .int b)] []
  refine r_iload_n C (k := 1) rfl rfl dL_does_0 ?_
  refine r_tabIn C (v := 7) (tgt := 94) (off := 93) rfl dL_does_1 (by decide) (by decide) (by decide) (by decide) ?_
  refine r_aload_n C (k := 0) rfl rfl dL_does_94 ?_
  refine r_iload_n C (k := 2) rfl rfl dL_does_95 ?_
  refine r_callC C hT9 (d' := 7) (E := xN 1) [.int a] (x_X10_endDays (Ω := (S, o)) hW hS hZ rfl N a hF rfl) myX10_endDays wm4_129 ⟨_, _, _, _, (hW.ok k7), rfl, rfl, rfl, rfl⟩ rfl (kR rfl) (by decide) (kR rfl) rfl dL_does_96 [⟨0, 54, 105, 82⟩, ⟨55, 60, 105, 82⟩, ⟨61, 67, 105, 82⟩, ⟨68, 74, 105, 82⟩, ⟨75, 80, 105, 82⟩, ⟨81, 87, 105, 82⟩, ⟨88, 93, 105, 82⟩, ⟨94, 99, 105, 82⟩, ⟨100, 104, 105, 82⟩, ⟨0, 54, 109, 20⟩, ⟨55, 60, 109, 20⟩, ⟨61, 67, 109, 20⟩, ⟨68, 74, 109, 20⟩, ⟨75, 80, 109, 20⟩, ⟨81, 87, 109, 20⟩, ⟨88, 93, 109, 20⟩, ⟨94, 99, 109, 20⟩, ⟨100, 104, 109, 20⟩, ⟨0, 54, 114, 84⟩, ⟨55, 60, 114, 84⟩, ⟨61, 67, 114, 84⟩, ⟨68, 74, 114, 84⟩, ⟨75, 80, 114, 84⟩, ⟨81, 87, 114, 84⟩, ⟨88, 93, 114, 84⟩] [⟨100, 104, 114, 84⟩] ⟨94, 99, 114, 84⟩ rfl ((gZ.x hZ C).imp fun _ _ _ h => xfz (Or.inl (by decide)) <| xfz (Or.inl (by decide)) <| xfz (Or.inl (by decide)) <| xfz (Or.inl (by decide)) <| xfz (Or.inl (by decide)) <| xfz (Or.inl (by decide)) <| xfz (Or.inl (by decide)) <| xfz (Or.inr ⟨by decide, _, wm3_196, rfl, h.2.2.2.1⟩) <| xfz (Or.inl (by decide)) <| xfz (Or.inl (by decide)) <| xfz (Or.inl (by decide)) <| xfz (Or.inl (by decide)) <| xfz (Or.inl (by decide)) <| xfz (Or.inl (by decide)) <| xfz (Or.inl (by decide)) <| xfz (Or.inl (by decide)) <| xfz (Or.inr ⟨by decide, _, wm3_97, rfl, h.2.2.1⟩) <| xfz (Or.inl (by decide)) <| xfz (Or.inl (by decide)) <| xfz (Or.inl (by decide)) <| xfz (Or.inl (by decide)) <| xfz (Or.inl (by decide)) <| xfz (Or.inl (by decide)) <| xfz (Or.inl (by decide)) <| xfz (Or.inl (by decide)) <| fun _ h => nomatch h) (by decide) (by decide) wm3_197 rfl wm2_220 fun q => ?_
  refine r_astore C (lo' := [(4, .ref q), (0, .ref (wAd w (7, 11, 6, 0))), (1, .int 7), (2, .int a), (3, .int b)]) (by decide) rfl dL_does_114 ?_
  refine r_bipush C (v := (-3)) (by decide) dL_does_116 ?_
  exact r_hreturn C dL_does_118
theorem x_does_7_2 {w : WP} (hW : gW w) (hS : gS w) (hZ : gZ w) {S : SS} {o : HV × CT} (N : Nat) (a b : Int32) {S' : SS} (hF : F_X10_endDays N a S = some (.inr (2, S'))) : gMh w 8 yL_does cL_does 5 (some .int) [(0, 54, 105, 82), (55, 60, 105, 82), (61, 67, 105, 82), (68, 74, 105, 82), (75, 80, 105, 82), (81, 87, 105, 82), (88, 93, 105, 82), (94, 99, 105, 82), (100, 104, 105, 82), (0, 54, 109, 20), (55, 60, 109, 20), (61, 67, 109, 20), (68, 74, 109, 20), (75, 80, 109, 20), (81, 87, 109, 20), (88, 93, 109, 20), (94, 99, 109, 20), (100, 104, 109, 20), (0, 54, 114, 84), (55, 60, 114, 84), (61, 67, 114, 84), (68, 74, 114, 84), (75, 80, 114, 84), (81, 87, 114, 84), (88, 93, 114, 84), (94, 99, 114, 84), (100, 104, 114, 84)] [.ref (wAd w (7, 11, 6, 0)), .int 7, .int a, .int b] (cA w (S, o)) (some (.int (-2))) (cA w (S', o)) 1 6 := by
  refine gMh_of "HedgeMessagesLaw" rfl (by decide) (kR rfl) fun X C hT9 => ?_
  show gU w X _ _ 0 [(0, .ref (wAd w (7, 11, 6, 0))), (1, .int 7), (2, .int a), (3, .int b)] []
  refine r_iload_n C (k := 1) rfl rfl dL_does_0 ?_
  refine r_tabIn C (v := 7) (tgt := 94) (off := 93) rfl dL_does_1 (by decide) (by decide) (by decide) (by decide) ?_
  refine r_aload_n C (k := 0) rfl rfl dL_does_94 ?_
  refine r_iload_n C (k := 2) rfl rfl dL_does_95 ?_
  refine r_callC C hT9 (d' := 7) (E := xN 2) [.int a] (x_X10_endDays (Ω := (S, o)) hW hS hZ rfl N a hF rfl) myX10_endDays wm4_129 ⟨_, _, _, _, (hW.ok k7), rfl, rfl, rfl, rfl⟩ rfl (kR rfl) (by decide) (kR rfl) rfl dL_does_96 [⟨0, 54, 105, 82⟩, ⟨55, 60, 105, 82⟩, ⟨61, 67, 105, 82⟩, ⟨68, 74, 105, 82⟩, ⟨75, 80, 105, 82⟩, ⟨81, 87, 105, 82⟩, ⟨88, 93, 105, 82⟩, ⟨94, 99, 105, 82⟩, ⟨100, 104, 105, 82⟩, ⟨0, 54, 109, 20⟩, ⟨55, 60, 109, 20⟩, ⟨61, 67, 109, 20⟩, ⟨68, 74, 109, 20⟩, ⟨75, 80, 109, 20⟩, ⟨81, 87, 109, 20⟩, ⟨88, 93, 109, 20⟩] [⟨100, 104, 109, 20⟩, ⟨0, 54, 114, 84⟩, ⟨55, 60, 114, 84⟩, ⟨61, 67, 114, 84⟩, ⟨68, 74, 114, 84⟩, ⟨75, 80, 114, 84⟩, ⟨81, 87, 114, 84⟩, ⟨88, 93, 114, 84⟩, ⟨94, 99, 114, 84⟩, ⟨100, 104, 114, 84⟩] ⟨94, 99, 109, 20⟩ rfl ((gZ.x hZ C).imp fun _ _ _ h => xfz (Or.inl (by decide)) <| xfz (Or.inl (by decide)) <| xfz (Or.inl (by decide)) <| xfz (Or.inl (by decide)) <| xfz (Or.inl (by decide)) <| xfz (Or.inl (by decide)) <| xfz (Or.inl (by decide)) <| xfz (Or.inr ⟨by decide, _, wm3_196, rfl, h.2.2.2.2.1⟩) <| xfz (Or.inl (by decide)) <| xfz (Or.inl (by decide)) <| xfz (Or.inl (by decide)) <| xfz (Or.inl (by decide)) <| xfz (Or.inl (by decide)) <| xfz (Or.inl (by decide)) <| xfz (Or.inl (by decide)) <| xfz (Or.inl (by decide)) <| fun _ h => nomatch h) (by decide) (by decide) wm3_97 rfl wm3_80 fun q => ?_
  refine r_astore C (lo' := [(4, .ref q), (0, .ref (wAd w (7, 11, 6, 0))), (1, .int 7), (2, .int a), (3, .int b)]) (by decide) rfl dL_does_109 ?_
  refine r_bipush C (v := (-2)) (by decide) dL_does_111 ?_
  exact r_hreturn C dL_does_113
theorem x_does_7_3 {w : WP} (hW : gW w) (hS : gS w) (hZ : gZ w) {S : SS} {o : HV × CT} (N : Nat) (a b : Int32) {S' : SS} (hF : F_X10_endDays N a S = some (.inr (3, S'))) : gMh w 8 yL_does cL_does 5 (some .int) [(0, 54, 105, 82), (55, 60, 105, 82), (61, 67, 105, 82), (68, 74, 105, 82), (75, 80, 105, 82), (81, 87, 105, 82), (88, 93, 105, 82), (94, 99, 105, 82), (100, 104, 105, 82), (0, 54, 109, 20), (55, 60, 109, 20), (61, 67, 109, 20), (68, 74, 109, 20), (75, 80, 109, 20), (81, 87, 109, 20), (88, 93, 109, 20), (94, 99, 109, 20), (100, 104, 109, 20), (0, 54, 114, 84), (55, 60, 114, 84), (61, 67, 114, 84), (68, 74, 114, 84), (75, 80, 114, 84), (81, 87, 114, 84), (88, 93, 114, 84), (94, 99, 114, 84), (100, 104, 114, 84)] [.ref (wAd w (7, 11, 6, 0)), .int 7, .int a, .int b] (cA w (S, o)) (some (.int (-1))) (cA w (S', o)) 1 6 := by
  refine gMh_of "HedgeMessagesLaw" rfl (by decide) (kR rfl) fun X C hT9 => ?_
  show gU w X _ _ 0 [(0, .ref (wAd w (7, 11, 6, 0))), (1, .int 7), (2, .int a), (3, .int b)] []
  refine r_iload_n C (k := 1) rfl rfl dL_does_0 ?_
  refine r_tabIn C (v := 7) (tgt := 94) (off := 93) rfl dL_does_1 (by decide) (by decide) (by decide) (by decide) ?_
  refine r_aload_n C (k := 0) rfl rfl dL_does_94 ?_
  refine r_iload_n C (k := 2) rfl rfl dL_does_95 ?_
  refine r_callC C hT9 (d' := 7) (E := xN 3) [.int a] (x_X10_endDays (Ω := (S, o)) hW hS hZ rfl N a hF rfl) myX10_endDays wm4_129 ⟨_, _, _, _, (hW.ok k7), rfl, rfl, rfl, rfl⟩ rfl (kR rfl) (by decide) (kR rfl) rfl dL_does_96 [⟨0, 54, 105, 82⟩, ⟨55, 60, 105, 82⟩, ⟨61, 67, 105, 82⟩, ⟨68, 74, 105, 82⟩, ⟨75, 80, 105, 82⟩, ⟨81, 87, 105, 82⟩, ⟨88, 93, 105, 82⟩] [⟨100, 104, 105, 82⟩, ⟨0, 54, 109, 20⟩, ⟨55, 60, 109, 20⟩, ⟨61, 67, 109, 20⟩, ⟨68, 74, 109, 20⟩, ⟨75, 80, 109, 20⟩, ⟨81, 87, 109, 20⟩, ⟨88, 93, 109, 20⟩, ⟨94, 99, 109, 20⟩, ⟨100, 104, 109, 20⟩, ⟨0, 54, 114, 84⟩, ⟨55, 60, 114, 84⟩, ⟨61, 67, 114, 84⟩, ⟨68, 74, 114, 84⟩, ⟨75, 80, 114, 84⟩, ⟨81, 87, 114, 84⟩, ⟨88, 93, 114, 84⟩, ⟨94, 99, 114, 84⟩, ⟨100, 104, 114, 84⟩] ⟨94, 99, 105, 82⟩ rfl ((gZ.x hZ C).imp fun _ _ _ h => xfz (Or.inl (by decide)) <| xfz (Or.inl (by decide)) <| xfz (Or.inl (by decide)) <| xfz (Or.inl (by decide)) <| xfz (Or.inl (by decide)) <| xfz (Or.inl (by decide)) <| xfz (Or.inl (by decide)) <| fun _ h => nomatch h) (by decide) (by decide) wm3_196 rfl wm3_212 fun q => ?_
  refine r_astore C (lo' := [(4, .ref q), (0, .ref (wAd w (7, 11, 6, 0))), (1, .int 7), (2, .int a), (3, .int b)]) (by decide) rfl dL_does_105 ?_
  refine r_iconst C (v := (-1)) (by decide) dL_does_107 ?_
  exact r_hreturn C dL_does_108
theorem c_does_7 {w : WP} (hW : gW w) (hS : gS w) (hZ : gZ w) {S : SS} {o : HV × CT} (N : Nat) (a b : Int32) {v : Int32} {S' : SS} (hF : fdR (F_X10_endDays N a S) = some (v, S')) : gMh w 8 yL_does cL_does 5 (some .int) [(0, 54, 105, 82), (55, 60, 105, 82), (61, 67, 105, 82), (68, 74, 105, 82), (75, 80, 105, 82), (81, 87, 105, 82), (88, 93, 105, 82), (94, 99, 105, 82), (100, 104, 105, 82), (0, 54, 109, 20), (55, 60, 109, 20), (61, 67, 109, 20), (68, 74, 109, 20), (75, 80, 109, 20), (81, 87, 109, 20), (88, 93, 109, 20), (94, 99, 109, 20), (100, 104, 109, 20), (0, 54, 114, 84), (55, 60, 114, 84), (61, 67, 114, 84), (68, 74, 114, 84), (75, 80, 114, 84), (81, 87, 114, 84), (88, 93, 114, 84), (94, 99, 114, 84), (100, 104, 114, 84)] [.ref (wAd w (7, 11, 6, 0)), .int 7, .int a, .int b] (cA w (S, o)) (some (.int v)) (cA w (S', o)) 1 6 := by
  rcases fdR_e hF with h | ⟨rfl, h⟩ | ⟨rfl, h⟩ | ⟨rfl, h⟩
  · exact n_does_7 hW hS N a b h
  · exact x_does_7_1 hW hS hZ N a b h
  · exact x_does_7_2 hW hS hZ N a b h
  · exact x_does_7_3 hW hS hZ N a b h
theorem n_does_8 {w : WP} (hW : gW w) (hS : gS w) {S : SS} {o : HV × CT} (a b : Int32) {v : Int32} {S' : SS} (hF : F_X10_undo S = some (.inl (v, S'))) : gMh w 7 yL_does cL_does 5 (some .int) [(0, 54, 105, 82), (55, 60, 105, 82), (61, 67, 105, 82), (68, 74, 105, 82), (75, 80, 105, 82), (81, 87, 105, 82), (88, 93, 105, 82), (94, 99, 105, 82), (100, 104, 105, 82), (0, 54, 109, 20), (55, 60, 109, 20), (61, 67, 109, 20), (68, 74, 109, 20), (75, 80, 109, 20), (81, 87, 109, 20), (88, 93, 109, 20), (94, 99, 109, 20), (100, 104, 109, 20), (0, 54, 114, 84), (55, 60, 114, 84), (61, 67, 114, 84), (68, 74, 114, 84), (75, 80, 114, 84), (81, 87, 114, 84), (88, 93, 114, 84), (94, 99, 114, 84), (100, 104, 114, 84)] [.ref (wAd w (7, 11, 6, 0)), .int 8, .int a, .int b] (cA w (S, o)) (some (.int v)) (cA w (S', o)) 1 6 := by
  refine gMh_of "HedgeMessagesLaw" rfl (by decide) (kR rfl) fun X C hT9 => ?_
  show gU w X _ _ 0 [(0, .ref (wAd w (7, 11, 6, 0))), (1, .int 8), (2, .int a), (3, .int b)] []
  refine r_iload_n C (k := 1) rfl rfl dL_does_0 ?_
  refine r_tabOut C (tgt := 100) dL_does_1 (by decide) (by decide) ?_
  refine r_aload_n C (k := 0) rfl rfl dL_does_100 ?_
  refine r_callV C (d' := 6) [] (c_X10_undo (Ω := (S, o)) hW hS rfl  hF rfl) myX10_undo wm4_212 ⟨_, _, _, _, (hW.ok k7), rfl, rfl, rfl, rfl⟩ rfl (kR rfl) (by decide) (kR rfl) rfl dL_does_101 ?_
  refine r_wid (c' := 1) (s' := 6) (by decide) (by decide) ?_
  exact r_hreturn C dL_does_104
theorem x_does_8_1 {w : WP} (hW : gW w) (hS : gS w) (hZ : gZ w) {S : SS} {o : HV × CT} (a b : Int32) {S' : SS} (hF : F_X10_undo S = some (.inr (1, S'))) : gMh w 7 yL_does cL_does 5 (some .int) [(0, 54, 105, 82), (55, 60, 105, 82), (61, 67, 105, 82), (68, 74, 105, 82), (75, 80, 105, 82), (81, 87, 105, 82), (88, 93, 105, 82), (94, 99, 105, 82), (100, 104, 105, 82), (0, 54, 109, 20), (55, 60, 109, 20), (61, 67, 109, 20), (68, 74, 109, 20), (75, 80, 109, 20), (81, 87, 109, 20), (88, 93, 109, 20), (94, 99, 109, 20), (100, 104, 109, 20), (0, 54, 114, 84), (55, 60, 114, 84), (61, 67, 114, 84), (68, 74, 114, 84), (75, 80, 114, 84), (81, 87, 114, 84), (88, 93, 114, 84), (94, 99, 114, 84), (100, 104, 114, 84)] [.ref (wAd w (7, 11, 6, 0)), .int 8, .int a, .int b] (cA w (S, o)) (some (.int (-3))) (cA w (S', o)) 1 6 := by
  refine gMh_of "HedgeMessagesLaw" rfl (by decide) (kR rfl) fun X C hT9 => ?_
  show gU w X _ _ 0 [(0, .ref (wAd w (7, 11, 6, 0))), (1, .int 8), (2, .int a), (3, .int b)] []
  refine r_iload_n C (k := 1) rfl rfl dL_does_0 ?_
  refine r_tabOut C (tgt := 100) dL_does_1 (by decide) (by decide) ?_
  refine r_aload_n C (k := 0) rfl rfl dL_does_100 ?_
  refine r_callC C hT9 (d' := 6) (E := xN 1) [] (x_X10_undo (Ω := (S, o)) hW hS hZ rfl  hF rfl) myX10_undo wm4_212 ⟨_, _, _, _, (hW.ok k7), rfl, rfl, rfl, rfl⟩ rfl (kR rfl) (by decide) (kR rfl) rfl dL_does_101 [⟨0, 54, 105, 82⟩, ⟨55, 60, 105, 82⟩, ⟨61, 67, 105, 82⟩, ⟨68, 74, 105, 82⟩, ⟨75, 80, 105, 82⟩, ⟨81, 87, 105, 82⟩, ⟨88, 93, 105, 82⟩, ⟨94, 99, 105, 82⟩, ⟨100, 104, 105, 82⟩, ⟨0, 54, 109, 20⟩, ⟨55, 60, 109, 20⟩, ⟨61, 67, 109, 20⟩, ⟨68, 74, 109, 20⟩, ⟨75, 80, 109, 20⟩, ⟨81, 87, 109, 20⟩, ⟨88, 93, 109, 20⟩, ⟨94, 99, 109, 20⟩, ⟨100, 104, 109, 20⟩, ⟨0, 54, 114, 84⟩, ⟨55, 60, 114, 84⟩, ⟨61, 67, 114, 84⟩, ⟨68, 74, 114, 84⟩, ⟨75, 80, 114, 84⟩, ⟨81, 87, 114, 84⟩, ⟨88, 93, 114, 84⟩, ⟨94, 99, 114, 84⟩] [] ⟨100, 104, 114, 84⟩ rfl ((gZ.x hZ C).imp fun _ _ _ h => xfz (Or.inl (by decide)) <| xfz (Or.inl (by decide)) <| xfz (Or.inl (by decide)) <| xfz (Or.inl (by decide)) <| xfz (Or.inl (by decide)) <| xfz (Or.inl (by decide)) <| xfz (Or.inl (by decide)) <| xfz (Or.inl (by decide)) <| xfz (Or.inr ⟨by decide, _, wm3_196, rfl, h.2.2.2.1⟩) <| xfz (Or.inl (by decide)) <| xfz (Or.inl (by decide)) <| xfz (Or.inl (by decide)) <| xfz (Or.inl (by decide)) <| xfz (Or.inl (by decide)) <| xfz (Or.inl (by decide)) <| xfz (Or.inl (by decide)) <| xfz (Or.inl (by decide)) <| xfz (Or.inr ⟨by decide, _, wm3_97, rfl, h.2.2.1⟩) <| xfz (Or.inl (by decide)) <| xfz (Or.inl (by decide)) <| xfz (Or.inl (by decide)) <| xfz (Or.inl (by decide)) <| xfz (Or.inl (by decide)) <| xfz (Or.inl (by decide)) <| xfz (Or.inl (by decide)) <| xfz (Or.inl (by decide)) <| fun _ h => nomatch h) (by decide) (by decide) wm3_197 rfl wm2_220 fun q => ?_
  refine r_astore C (lo' := [(4, .ref q), (0, .ref (wAd w (7, 11, 6, 0))), (1, .int 8), (2, .int a), (3, .int b)]) (by decide) rfl dL_does_114 ?_
  refine r_bipush C (v := (-3)) (by decide) dL_does_116 ?_
  exact r_hreturn C dL_does_118
theorem x_does_8_2 {w : WP} (hW : gW w) (hS : gS w) (hZ : gZ w) {S : SS} {o : HV × CT} (a b : Int32) {S' : SS} (hF : F_X10_undo S = some (.inr (2, S'))) : gMh w 7 yL_does cL_does 5 (some .int) [(0, 54, 105, 82), (55, 60, 105, 82), (61, 67, 105, 82), (68, 74, 105, 82), (75, 80, 105, 82), (81, 87, 105, 82), (88, 93, 105, 82), (94, 99, 105, 82), (100, 104, 105, 82), (0, 54, 109, 20), (55, 60, 109, 20), (61, 67, 109, 20), (68, 74, 109, 20), (75, 80, 109, 20), (81, 87, 109, 20), (88, 93, 109, 20), (94, 99, 109, 20), (100, 104, 109, 20), (0, 54, 114, 84), (55, 60, 114, 84), (61, 67, 114, 84), (68, 74, 114, 84), (75, 80, 114, 84), (81, 87, 114, 84), (88, 93, 114, 84), (94, 99, 114, 84), (100, 104, 114, 84)] [.ref (wAd w (7, 11, 6, 0)), .int 8, .int a, .int b] (cA w (S, o)) (some (.int (-2))) (cA w (S', o)) 1 6 := by
  refine gMh_of "HedgeMessagesLaw" rfl (by decide) (kR rfl) fun X C hT9 => ?_
  show gU w X _ _ 0 [(0, .ref (wAd w (7, 11, 6, 0))), (1, .int 8), (2, .int a), (3, .int b)] []
  refine r_iload_n C (k := 1) rfl rfl dL_does_0 ?_
  refine r_tabOut C (tgt := 100) dL_does_1 (by decide) (by decide) ?_
  refine r_aload_n C (k := 0) rfl rfl dL_does_100 ?_
  refine r_callC C hT9 (d' := 6) (E := xN 2) [] (x_X10_undo (Ω := (S, o)) hW hS hZ rfl  hF rfl) myX10_undo wm4_212 ⟨_, _, _, _, (hW.ok k7), rfl, rfl, rfl, rfl⟩ rfl (kR rfl) (by decide) (kR rfl) rfl dL_does_101 [⟨0, 54, 105, 82⟩, ⟨55, 60, 105, 82⟩, ⟨61, 67, 105, 82⟩, ⟨68, 74, 105, 82⟩, ⟨75, 80, 105, 82⟩, ⟨81, 87, 105, 82⟩, ⟨88, 93, 105, 82⟩, ⟨94, 99, 105, 82⟩, ⟨100, 104, 105, 82⟩, ⟨0, 54, 109, 20⟩, ⟨55, 60, 109, 20⟩, ⟨61, 67, 109, 20⟩, ⟨68, 74, 109, 20⟩, ⟨75, 80, 109, 20⟩, ⟨81, 87, 109, 20⟩, ⟨88, 93, 109, 20⟩, ⟨94, 99, 109, 20⟩] [⟨0, 54, 114, 84⟩, ⟨55, 60, 114, 84⟩, ⟨61, 67, 114, 84⟩, ⟨68, 74, 114, 84⟩, ⟨75, 80, 114, 84⟩, ⟨81, 87, 114, 84⟩, ⟨88, 93, 114, 84⟩, ⟨94, 99, 114, 84⟩, ⟨100, 104, 114, 84⟩] ⟨100, 104, 109, 20⟩ rfl ((gZ.x hZ C).imp fun _ _ _ h => xfz (Or.inl (by decide)) <| xfz (Or.inl (by decide)) <| xfz (Or.inl (by decide)) <| xfz (Or.inl (by decide)) <| xfz (Or.inl (by decide)) <| xfz (Or.inl (by decide)) <| xfz (Or.inl (by decide)) <| xfz (Or.inl (by decide)) <| xfz (Or.inr ⟨by decide, _, wm3_196, rfl, h.2.2.2.2.1⟩) <| xfz (Or.inl (by decide)) <| xfz (Or.inl (by decide)) <| xfz (Or.inl (by decide)) <| xfz (Or.inl (by decide)) <| xfz (Or.inl (by decide)) <| xfz (Or.inl (by decide)) <| xfz (Or.inl (by decide)) <| xfz (Or.inl (by decide)) <| fun _ h => nomatch h) (by decide) (by decide) wm3_97 rfl wm3_80 fun q => ?_
  refine r_astore C (lo' := [(4, .ref q), (0, .ref (wAd w (7, 11, 6, 0))), (1, .int 8), (2, .int a), (3, .int b)]) (by decide) rfl dL_does_109 ?_
  refine r_bipush C (v := (-2)) (by decide) dL_does_111 ?_
  exact r_hreturn C dL_does_113
theorem x_does_8_3 {w : WP} (hW : gW w) (hS : gS w) (hZ : gZ w) {S : SS} {o : HV × CT} (a b : Int32) {S' : SS} (hF : F_X10_undo S = some (.inr (3, S'))) : gMh w 7 yL_does cL_does 5 (some .int) [(0, 54, 105, 82), (55, 60, 105, 82), (61, 67, 105, 82), (68, 74, 105, 82), (75, 80, 105, 82), (81, 87, 105, 82), (88, 93, 105, 82), (94, 99, 105, 82), (100, 104, 105, 82), (0, 54, 109, 20), (55, 60, 109, 20), (61, 67, 109, 20), (68, 74, 109, 20), (75, 80, 109, 20), (81, 87, 109, 20), (88, 93, 109, 20), (94, 99, 109, 20), (100, 104, 109, 20), (0, 54, 114, 84), (55, 60, 114, 84), (61, 67, 114, 84), (68, 74, 114, 84), (75, 80, 114, 84), (81, 87, 114, 84), (88, 93, 114, 84), (94, 99, 114, 84), (100, 104, 114, 84)] [.ref (wAd w (7, 11, 6, 0)), .int 8, .int a, .int b] (cA w (S, o)) (some (.int (-1))) (cA w (S', o)) 1 6 := by
  refine gMh_of "HedgeMessagesLaw" rfl (by decide) (kR rfl) fun X C hT9 => ?_
  show gU w X _ _ 0 [(0, .ref (wAd w (7, 11, 6, 0))), (1, .int 8), (2, .int a), (3, .int b)] []
  refine r_iload_n C (k := 1) rfl rfl dL_does_0 ?_
  refine r_tabOut C (tgt := 100) dL_does_1 (by decide) (by decide) ?_
  refine r_aload_n C (k := 0) rfl rfl dL_does_100 ?_
  refine r_callC C hT9 (d' := 6) (E := xN 3) [] (x_X10_undo (Ω := (S, o)) hW hS hZ rfl  hF rfl) myX10_undo wm4_212 ⟨_, _, _, _, (hW.ok k7), rfl, rfl, rfl, rfl⟩ rfl (kR rfl) (by decide) (kR rfl) rfl dL_does_101 [⟨0, 54, 105, 82⟩, ⟨55, 60, 105, 82⟩, ⟨61, 67, 105, 82⟩, ⟨68, 74, 105, 82⟩, ⟨75, 80, 105, 82⟩, ⟨81, 87, 105, 82⟩, ⟨88, 93, 105, 82⟩, ⟨94, 99, 105, 82⟩] [⟨0, 54, 109, 20⟩, ⟨55, 60, 109, 20⟩, ⟨61, 67, 109, 20⟩, ⟨68, 74, 109, 20⟩, ⟨75, 80, 109, 20⟩, ⟨81, 87, 109, 20⟩, ⟨88, 93, 109, 20⟩, ⟨94, 99, 109, 20⟩, ⟨100, 104, 109, 20⟩, ⟨0, 54, 114, 84⟩, ⟨55, 60, 114, 84⟩, ⟨61, 67, 114, 84⟩, ⟨68, 74, 114, 84⟩, ⟨75, 80, 114, 84⟩, ⟨81, 87, 114, 84⟩, ⟨88, 93, 114, 84⟩, ⟨94, 99, 114, 84⟩, ⟨100, 104, 114, 84⟩] ⟨100, 104, 105, 82⟩ rfl ((gZ.x hZ C).imp fun _ _ _ h => xfz (Or.inl (by decide)) <| xfz (Or.inl (by decide)) <| xfz (Or.inl (by decide)) <| xfz (Or.inl (by decide)) <| xfz (Or.inl (by decide)) <| xfz (Or.inl (by decide)) <| xfz (Or.inl (by decide)) <| xfz (Or.inl (by decide)) <| fun _ h => nomatch h) (by decide) (by decide) wm3_196 rfl wm3_212 fun q => ?_
  refine r_astore C (lo' := [(4, .ref q), (0, .ref (wAd w (7, 11, 6, 0))), (1, .int 8), (2, .int a), (3, .int b)]) (by decide) rfl dL_does_105 ?_
  refine r_iconst C (v := (-1)) (by decide) dL_does_107 ?_
  exact r_hreturn C dL_does_108
theorem c_does_8 {w : WP} (hW : gW w) (hS : gS w) (hZ : gZ w) {S : SS} {o : HV × CT} (a b : Int32) {v : Int32} {S' : SS} (hF : fdR (F_X10_undo S) = some (v, S')) : gMh w 7 yL_does cL_does 5 (some .int) [(0, 54, 105, 82), (55, 60, 105, 82), (61, 67, 105, 82), (68, 74, 105, 82), (75, 80, 105, 82), (81, 87, 105, 82), (88, 93, 105, 82), (94, 99, 105, 82), (100, 104, 105, 82), (0, 54, 109, 20), (55, 60, 109, 20), (61, 67, 109, 20), (68, 74, 109, 20), (75, 80, 109, 20), (81, 87, 109, 20), (88, 93, 109, 20), (94, 99, 109, 20), (100, 104, 109, 20), (0, 54, 114, 84), (55, 60, 114, 84), (61, 67, 114, 84), (68, 74, 114, 84), (75, 80, 114, 84), (81, 87, 114, 84), (88, 93, 114, 84), (94, 99, 114, 84), (100, 104, 114, 84)] [.ref (wAd w (7, 11, 6, 0)), .int 8, .int a, .int b] (cA w (S, o)) (some (.int v)) (cA w (S', o)) 1 6 := by
  rcases fdR_e hF with h | ⟨rfl, h⟩ | ⟨rfl, h⟩ | ⟨rfl, h⟩
  · exact n_does_8 hW hS a b h
  · exact x_does_8_1 hW hS hZ a b h
  · exact x_does_8_2 hW hS hZ a b h
  · exact x_does_8_3 hW hS hZ a b h
