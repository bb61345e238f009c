/-! ===== wrap: methods with handlers; the law's answer ===== -/
theorem putO {w : WP} {Ω : OM} {o : Nat → Int64} (q : ID) (hq : okX q) : upE (cA w Ω) (14, 13, 0, 0) (.inl (wJ w, 1, .inr (.inl o))) q = cA w (sO Ω o) q := by
  obtain ⟨k', j', p', a'⟩ := q
  unfold upE
  split
  · rename_i h
    cases h
    rfl
  · rename_i h
    match k', h, hq with
    | 0, _, _ => rfl
    | 1, _, _ => rfl
    | 2, _, _ => rfl
    | 3, _, _ => rfl
    | 4, _, _ => rfl
    | 5, _, _ => rfl
    | 6, _, _ => rfl
    | 7, _, _ => rfl
    | 8, _, _ => rfl
    | 9, _, _ => rfl
    | 10, _, _ => rfl
    | 11, _, _ => rfl
    | 12, _, _ => rfl
    | 13, _, hq => exact absurd hq (by simp only [okX, okC, okM, okT, or_false, not_false_eq_true])
    | 14, h, hq =>
      simp only [okX, okC, okM, okT, false_or] at hq
      exact absurd (by rw [hq.1, hq.2.1, hq.2.2]) h
    | n + 15, _, hq => exact absurd hq (by simp only [okX, okC, okM, okT, or_false, not_false_eq_true])
def oAns (Ω : OM) (v : Int64) : OM := sO Ω (vp_updL Ω.2.2 0 v)
section WRAP
variable {w : WP} {X : CX} {cc : ByteArray} {own : String} {ret : Option FieldType} {d nL : Nat} {Q : QT} {ct : CT} {pc : Nat} {lo : List (Nat × Value)} {st : List Value} {Ω : OM}
theorem r_last (C : gC w X cc own ret d nL) (hX : ∀ i, wOk w i → okX i) (hfr : wFr w (14, 13, 0, 0)) {x : Int64} (hd : decode cc pc = .ok (.lastore, 1)) (kk : gU w X Q (cA w (oAns Ω x)) (pc + 1) lo st) : gU w X Q (cA w Ω) pc lo (.long x :: .int 0 :: .ref (wAd w (14, 13, 0, 0)) :: st) := by
  obtain ⟨p, e, R, s, m, args, below, meth, c, n9, A⟩ := X
  intro H locs ls hP hS hl
  have hoi := C.2.2.2.2.2.1.2.1 _ hfr
  have h1 : H[wAd w (14, 13, 0, 0)]? = some (vp_cell (wJ w) (1, .inr (.inl Ω.2.2))) := hP _ hoi
  refine W.last C.1 C.2.1 h1 ((C.2.2.2.2.1.2.2 3 _ rfl).1 1 (fun j => .long (Ω.2.2 j))) (fun q => by cases q) (by show ¬ ((0 : Int32) < 0 ∨ (arrV _ _ _).slots.size ≤ _); rw [arrV_size]; show ¬ ((0 : Int32) < 0 ∨ 1 ≤ (0 : Int32).toNatClampNeg); decide) rfl rfl hd fun H1 e z oq => ?_
  refine kk H1 _ ls (gP_cong (fun q hq => putO q (hX q hq)) <| gP_put (e := .inl (wJ w, 1, .inr (.inl (vp_updL Ω.2.2 0 x)))) C.2.2.2.2.2.1 hoi hP ?_ oq) (hS.put z oq (by rw [C.2.2.2.2.2.2.2.2.2.1]; exact Or.inl ⟨_, hfr, rfl⟩)) hl
  show H1[wAd w (14, 13, 0, 0)]? = some (vp_cell _ _)
  rw [e]
  show some ((arrV (wJ w) 1 (fun j => .long (Ω.2.2 j))).setSlot _ _) = some (arrV (wJ w) 1 (fun j => .long (vp_updL Ω.2.2 0 x j)))
  rw [arrV_store]
  congr 2
  funext q
  by_cases hq : q = (0 : Int32).toNatClampNeg
  · subst hq
    simp [updV, vp_updL]
  · have h0 : q ≠ 0 := hq
    simp [updV, vp_updL, hq, h0]
/-- a contract of a method with handlers: c cells, n slots may be made -/
def gMh (w : WP) (d : Nat) (y : MethodName) (cc : ByteArray) (nL : Nat) (ret : Option FieldType) (hh : List (Nat × Nat × Nat × Nat)) (av : List Value) (ct : CT) (v : Option Value) (ct' : CT) (mc ms : Nat) : Prop :=
  ∀ sz, Met (wL w) y [.codeWith y cc nL ret hh] { frames := d, cells := mc, slots := ms, locals := 40 * d } (va_Pc av (fun U => U.heap.size = sz ∧ gK w U ∧ gP w ct U.heap ∧ gD w ∧ wE w (gA w sz) U U.heap)) (gQ w v ct' (gA w sz)) mc ms (gA w sz)
def qH1 (w : WP) (X : CX) (r : Option Value × CT) (mc ms : Nat) : State → Prop := match X with
  | (p, e, R, s, m, args, below, meth, c, n, A) => MQ below (gQ w r.1 r.2 A) args s mc ms A
/-- the room of such a method, and its handlers -/
def gTh (X : CX) (hh : List (Nat × Nat × Nat × Nat)) (mc ms : Nat) : Prop := match X with
  | (p, e, R, s, m, args, below, meth, c, n, A) => mc ≤ R.cells ∧ ms ≤ R.slots ∧ c.exceptionTable.toList = Jvm.tableOf hh
theorem gMh_of {d : Nat} {y : MethodName} {cc : ByteArray} {nL : Nat} {ret : Option FieldType} {hh : List (Nat × Nat × Nat × Nat)} {av : List Value} {ct : CT} {v : Option Value} {ct' : CT} {mc ms : Nat} (own : String) (hown : y.cls = own) (hy : plainName y.cls = true) (hn : (lg_sl av).length ≤ nL)
    (body : ∀ X : CX, gC w X cc own ret d nL → gTh X hh mc ms → gU w X (qH1 w X (v, ct') mc ms, 0, 0) ct 0 (lv_args 0 av) []) : gMh w d y cc nL ret hh av ct v ct' mc ms := by
  intro sz
  refine va_MetW (cc := cc) (maxL := nL) (ret := ret) (hh := hh) hy rfl ?_
  intro p e s m args below meth c s₁ B hml hv
  obtain ⟨rfl, hsz, hK, hP, hD, hE⟩ := hv
  subst hsz
  subst hown
  have hl := lv_entry av (n := nL) hn
  have hown : s.vm.findClass y.cls = some m.cls := findClass_of_methodNamed B.named
  have ht := vx_table (x := y) B (atoms_spec (ws := [.codeWith y cc nL ret hh]) B.pre _ List.mem_cons_self)
  have hb := body (p, e, { frames := d, cells := mc, slots := ms, locals := 40 * d }, s, m, av.toArray, below, meth, c, nL, gA w s.heap.size) ⟨B.exec, B.bytes, hml, hown, hK, hD, B.returns, B.notSynchronized, rfl, rfl, ⟨Nat.le_refl _, Nat.le_refl _⟩, hE⟩ ⟨Nat.le_refl _, Nat.le_refl _, ht⟩ s.heap [] _ hP va_S.rf hl
  rw [lg_entry_eq]
  exact hb
theorem r_hreturn (C : gC w X cc own (some .int) d nL) {x : Int32} {mc ms : Nat} (hd : decode cc pc = .ok (.ireturn, 1)) : gU w X (qH1 w X (some (.int x), ct) mc ms, mc, ms) ct pc lo [.int x] := by
  obtain ⟨p, e, R, s, m, args, below, meth, c, n, A⟩ := X
  exact fun H locs ls hP hS hl => W.iret C.1 C.2.1 C.2.2.2.2.2.2.1 (fun t ht hW => ⟨⟨rfl, by rw [ht]; exact hP⟩, hS.F ht⟩) hS.2.2 hd C.2.2.2.2.2.2.2.1
/-- a reference kept in a local that is no longer read -/
theorem r_callC (C : gC w X cc own ret d nL) {hh : List (Nat × Nat × Nat × Nat)} (hT9 : gTh X hh 1 6) {Q1 : State → Prop} {y : MethodName} {ccy : ByteArray} {nLy ny idx d' b : Nat} {rety : Option FieldType} {E : String} {ct' : CT} (As : List Value) (hM : gMx w d' y ccy nLy rety (.ref b :: As) ct E ct') (Y : gYV y ccy nLy rety ny) (hli : Cond.methodLink own idx y ∈ lw_tbl) (hrc : gRc w ct b y.cls) (hn : As.length = ny) (hdd : d' + 1 ≤ d) (hnl : nLy ≤ 21) (hst : (st.map fun v => v.category).sum ≤ 8) {stk : List Value} (hstk : stk = As.reverse ++ .ref b :: st) (hd : decode cc pc = .ok (.invokevirtual idx, 3))
    (pre suf : List ExceptionTableEntry) (x : ExceptionTableEntry) (hsplit : Jvm.tableOf hh = pre ++ x :: suf) (hpass : gX w X (fun _ U _ => ∀ z ∈ pre, covers z pc = false ∨ (z.catchType ≠ 0 ∧ ∃ nm : String, Cond.classLink own z.catchType nm ∈ lw_tbl ∧ tkw (Cond.classLink own z.catchType nm) = true ∧ va_Nc E nm U))) (hx : covers x pc = true) (h0 : x.catchType ≠ 0) (hlink : Cond.classLink own x.catchType E ∈ lw_tbl) (hlk : tkw (Cond.classLink own x.catchType E) = true) (hcast : Cond.castable E E ∈ lw_tbl)
    (kk : ∀ q : Nat, gU w X (Q1, 1, 6) ct' x.handlerPc lo [.ref q]) : gU w X (Q1, 0, 0) ct pc lo stk := by
  obtain ⟨p, e, R, s, m, args, below, meth, c, n, A⟩ := X
  intro H locs ls hP hS hl T hT X9
  have hA : A = gA w s.heap.size := C.2.2.2.2.2.2.2.2.2.1
  subst hA
  obtain ⟨i, ci, fs, q, g1, g2, g3, g4, g5⟩ := hrc
  have h1 := hP i g1
  rw [g3] at h1
  have hrec : ∃ cell : Cell, H[b]? = some cell ∧ cell.vm.isStatics = false ∧ s.vm.findClass y.cls = some cell.cls := by
    have := va_recv C.2.2.2.2.1.2 (one_P h1) (q0 := 0) g4 rfl
    rw [g2, g5] at this
    exact this
  have hr := vx_runV (As := As) (rest := st) (Ts := []) (own := own) (locs := locs) (cells := 0) (slots := 0) (p := p) (e := e) (R := R) (args := args) (below := below) (meth := meth) (c := c) (g := F0 m pc ls stk) (cc := cc) (nL := nL) ⟨C.1, C.2.1, C.2.2.1, C.2.2.2.1, fun _ h => by cases h⟩ (hM H.size) ⟨gBx C.2.2.2.2.1.1 Y.1 Y.2.1 Y.2.2.1 hli C.2.2.2.2.2.2.2.2.2.2.1 hdd hnl, C.2.2.2.2.1.1.use Y.2.2.2.1 rfl, C.2.2.2.2.1.1.use Y.2.2.2.2 rfl⟩ ⟨(gPc C.2.2.2.2.1 C.2.2.2.2.2.1 hP C.2.2.2.2.2.2.2.2.2.2.2 hS).1, hrec, (gPc C.2.2.2.2.1 C.2.2.2.2.2.1 hP C.2.2.2.2.2.2.2.2.2.2.2 hS).2⟩ rfl hn (by show ls.size = nL; rw [hl.1]; exact C.2.2.2.2.2.2.2.2.1) hstk (lv_room hst) hd ⟨by rw [Nat.zero_add]; exact hT9.1, by rw [Nat.zero_add]; exact hT9.2.1⟩
  rcases hr T hT X9 with ⟨v, st₀, t, T', L, h0, X', hL, e1, e2, hF, st9⟩ | ⟨q9, st₀, t, T', L, E', ce, h9, X', hL, e1, e2, ⟨hE, hp, hz, hk⟩, hce, hcv, hcl, st9⟩
  · exact hF.elim
  · subst hE
    rw [h9] at hz hk
    have hf : ∀ q, gA w H.size q → gA w s.heap.size q := fun q h2 => h2.elim Or.inl (fun h => Or.inr (Nat.le_trans hS.1 h))
    obtain ⟨t2, a1, b1⟩ := vx_catch (p := p) (l := wL w) (e := e) (R := R) (args := args) (own := own) (name := E') (E := E') (cells := 0 + 1) (slots := 0 + 6) (Q := Q1) (rest := st) (pc := pc) (H := T'.heap) (locs := locs ++ L) (ls := ls) C.2.2.2.1 pre x suf (hT9.2.2.trans hsplit)
      (fun z hz => (hpass z hz).elim Or.inl (fun h => Or.inr ⟨h.1, by obtain ⟨nm, n1, n2, n3⟩ := h.2; exact ⟨nm, C.2.2.2.2.1.1.use n1 n2, n3⟩⟩)) hx h0 (C.2.2.2.2.1.1.use hlink hlk) (C.2.2.2.2.1.1.use hcast rfl) (by rw [e1]; exact hce) hcv hcl
      (kk q9 T'.heap (locs ++ L) ls (by rw [e1]; exact hp) ⟨by rw [e1]; exact Nat.le_trans hS.1 hz, fun q h1 h2 => by rw [e1, hk q (Nat.lt_of_lt_of_le h1 hS.1) (fun z => h2 (hf q z))]; exact hS.2.1 q h1 h2, fun z hz => (List.mem_append.mp hz).elim (hS.2.2 z) (fun h => hf _ (hL z h))⟩ hl) T' rfl X'
    exact ⟨t2, st9.trans a1, b1⟩
end WRAP

theorem gXt {w : WP} {X : CX} {F : (Nat → Prop) → State → Heap → Prop} (h : ∀ {A U H}, F A U H) : gX w X F := by
  obtain ⟨p, e, R, s, m, args, below, meth, c, n, A⟩ := X
  exact h
theorem gZ.x {w : WP} {X : CX} {cc : ByteArray} {own : String} {ret : Option FieldType} {d nL : Nat} (h : gZ w) (C : gC w X cc own ret d nL) : gX w X (EXx w) := by
  obtain ⟨p, e, R, s, m, args, below, meth, c, n, A⟩ := X
  exact h.2 _ _ _ C.2.2.2.2.2.2.2.2.2.2.2
theorem xfz {P : ExceptionTableEntry → Prop} {a : ExceptionTableEntry} {l : List ExceptionTableEntry} (h : P a) (t : ∀ c ∈ l, P c) : ∀ c ∈ a :: l, P c := fun c hc => (List.mem_cons.mp hc).elim (fun e => by rw [e]; exact h) (t c)
