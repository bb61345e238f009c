/-! ===== grow: contracts of methods that make things; things that come and go (kinds from 30 on) ===== -/
abbrev PT : Type := (ID → Prop) → (ID → Nat) → Option Value → CT → Prop
def gQe (w : WP) (Post : PT) (sz : Nat) (A : Nat → Prop) : Array Value → State → Outcome → State → Prop := fun _ st oc t => ∃ I ad v ct', Post I ad v ct' ∧ gAg w I ad ∧ (oc = .returned v ∧ gP (wM w I ad) ct' t.heap ∧ gD (wM w I ad) ∧ ∀ i, I i → sz ≤ ad i) ∧ va_F A st t
/-- a contract: some new ids, a value and a world of which Post speaks; at most mc cells of ms slots are made -/
def gMe (w : WP) (d : Nat) (y : MethodName) (cc : ByteArray) (nL : Nat) (ret : Option FieldType) (av : List Value) (ct : CT) (Post : PT) (mc ms : Nat) : Prop :=
  ∀ sz, Met (wL w) y [.code y cc nL ret] { frames := d, cells := mc, slots := ms, locals := 40 * d } (va_Pc av (fun U => U.heap.size = sz ∧ gK w U ∧ gP w ct U.heap ∧ gD w ∧ wE w (gA w sz) U U.heap)) (gQe w Post sz (gA w sz)) mc ms (gA w sz)
def qE1 (w : WP) (X : CX) (Post : PT) (mc ms : Nat) : State → Prop := match X with
  | (p, e, R, s, m, args, below, meth, c, n, A) => MQ below (gQe w Post s.heap.size A) args s mc ms A
/-- room, and the method's name -/
def gTe (X : CX) (nm : String) (mc ms : Nat) : Prop := match X with
  | (p, e, R, s, m, args, below, meth, c, n, A) => mc ≤ R.cells ∧ ms ≤ R.slots ∧ meth.name = nm
theorem gTe.q {X : CX} {nm : String} {mc ms a b : Nat} {F : State → Prop} (h : gTe X nm mc ms) (h1 : a ≤ mc) (h2 : b ≤ ms) : qOk X (F, a, b) := by
  obtain ⟨p, e, R, s, m, args, below, meth, c, n, A⟩ := X
  exact ⟨Nat.le_trans h1 h.1, Nat.le_trans h2 h.2.1⟩
theorem gTe.n {X : CX} {mc ms : Nat} (h : gTe X "<init>" mc ms) : gTn X mc ms := by
  obtain ⟨p, e, R, s, m, args, below, meth, c, n, A⟩ := X
  exact h
section GROW
variable {w : WP} {X : CX} {cc : ByteArray} {own : String} {ret : Option FieldType} {d nL : Nat} {Q : QT} {ct : CT} {pc : Nat} {lo : List (Nat × Value)} {st : List Value}
theorem gMe_of {y : MethodName} {av : List Value} {Post : PT} {mc ms : Nat} (own : String) (hown : y.cls = own) (hy : plainName y.cls = true) (hn : (lg_sl av).length ≤ nL)
    (body : ∀ X : CX, gC w X cc own ret d nL → gTe X y.name mc ms → gU w X (qE1 w X Post mc ms, 0, 0) ct 0 (lv_args 0 av) []) : gMe w d y cc nL ret av ct Post mc ms := by
  intro sz
  refine Met.ofW (cc := cc) (maxL := nL) (ret := ret) hy rfl ?_
  intro p e s m args below meth c s₁ B hml hv
  obtain ⟨rfl, hsz, hK, hP, hD, hE⟩ := hv
  subst hsz
  subst hown
  have hl := lv_entry av (n := nL) hn
  have hown : s.vm.findClass y.cls = some m.cls := findClass_of_methodNamed B.named
  have hb := body (p, e, { frames := d, cells := mc, slots := ms, locals := 40 * d }, s, m, av.toArray, below, meth, c, nL, gA w s.heap.size) ⟨B.exec, B.bytes, hml, hown, hK, hD, B.returns, B.notSynchronized, rfl, rfl, ⟨Nat.le_refl _, Nat.le_refl _⟩, hE⟩ ⟨Nat.le_refl _, Nat.le_refl _, (name_of_methodNamed B.named B.method).1⟩ s.heap [] _ hP va_S.rf hl
  rw [lg_entry_eq]
  exact hb
theorem r_wid {c' s' : Nat} {F : State → Prop} {a b : Nat} (h1 : a ≤ c') (h2 : b ≤ s') (k : gU w X (F, c', s') ct pc lo st) : gU w X (F, a, b) ct pc lo st := by
  obtain ⟨p, e, R, s, m, args, below, meth, c, n, A⟩ := X
  exact fun H locs ls hP hS hl => W.widen h1 h2 (k H locs ls hP hS hl)
/-- what the end owes: the new ids, the world there -/
theorem gQe_at {I : ID → Prop} {ad : ID → Nat} {Post : PT} {v : Option Value} {p : Program} {e : Env} {R : Room} {s : State} {m : MethodId} {args : Array Value} {below : List Frame} {meth : Method} {c : Code} {n : Nat} {A : Nat → Prop} (C : gC (wM w I ad) (p, e, R, s, m, args, below, meth, c, n, A) cc own ret d nL) (hag : gAg w I ad) (hI : gBh (p, e, R, s, m, args, below, meth, c, n, A) I ad) (hp : Post I ad v ct) {H : Heap} {locs : List Loc} (hP : gP (wM w I ad) ct H) (hS : va_S A s.heap H locs) {t : State} (ht : t.heap = H) : gQe w Post s.heap.size A args s (.returned v) t :=
  ⟨I, ad, v, ct, hp, hag, ⟨rfl, by rw [ht]; exact hP, C.2.2.2.2.2.1, hI⟩, hS.F ht⟩
theorem r_eendA {I : ID → Prop} {ad : ID → Nat} {rt : FieldType} (C : gC (wM w I ad) X cc own (some rt) d nL) (hrt : (∃ n, rt = .object n) ∨ ∃ t, rt = .array t) (hag : gAg w I ad) (hI : gBh X I ad) {Post : PT} {mc ms a : Nat} (hp : Post I ad (some (.ref a)) ct) (hd : decode cc pc = .ok (.areturn, 1)) : gU (wM w I ad) X (qE1 w X Post mc ms, mc, ms) ct pc lo [.ref a] := by
  obtain ⟨p, e, R, s, m, args, below, meth, c, n, A⟩ := X
  exact fun H locs ls hP hS hl => W.aret (Qc := gQe w Post s.heap.size A) (free := A) (cells := mc) (slots := ms) C.1 C.2.1 C.2.2.2.2.2.2.1 hrt (Or.inr ⟨a, rfl⟩) (fun t ht hW => gQe_at C hag hI hp hP hS ht) hS.2.2 hd C.2.2.2.2.2.2.2.1
theorem r_eendV {I : ID → Prop} {ad : ID → Nat} (C : gC (wM w I ad) X cc own none d nL) (hag : gAg w I ad) (hI : gBh X I ad) {Post : PT} {mc ms : Nat} (hp : Post I ad none ct) (hd : decode cc pc = .ok (.return_, 1)) : gU (wM w I ad) X (qE1 w X Post mc ms, mc, ms) ct pc lo [] := by
  obtain ⟨p, e, R, s, m, args, below, meth, c, n, A⟩ := X
  exact fun H locs ls hP hS hl => W.vret (Qc := gQe w Post s.heap.size A) (free := A) (cells := mc) (slots := ms) C.1 C.2.1 C.2.2.2.2.2.2.1 (fun t ht hW => gQe_at C hag hI hp hP hS ht) hS.2.2 hd C.2.2.2.2.2.2.2.1
theorem r_eendI {I : ID → Prop} {ad : ID → Nat} {rt : FieldType} (C : gC (wM w I ad) X cc own (some rt) d nL) {x : Int32} (hn : narrow rt (.int x) = .int x) (hag : gAg w I ad) (hI : gBh X I ad) {Post : PT} {mc ms : Nat} (hp : Post I ad (some (.int x)) ct) (hd : decode cc pc = .ok (.ireturn, 1)) : gU (wM w I ad) X (qE1 w X Post mc ms, mc, ms) ct pc lo [.int x] := by
  obtain ⟨p, e, R, s, m, args, below, meth, c, n, A⟩ := X
  exact fun H locs ls hP hS hl => W.zret (Qc := gQe w Post s.heap.size A) (free := A) (cells := mc) (slots := ms) C.1 C.2.1 C.2.2.2.2.2.2.1 hn (fun t ht hW => gQe_at C hag hI hp hP hS ht) hS.2.2 hd C.2.2.2.2.2.2.2.1
/-- behind a call of a method that makes things -/
theorem ge_on {Post : PT} {mc ms : Nat} (C : gC w X cc own ret d nL) {stk : List Value}
    (k : ∀ I ad v ct', Post I ad v ct' → gAg w I ad → gBh X I ad → gC (wM w I ad) X cc own ret d nL → gU (wM w I ad) X (Q.1, Q.2.1 + mc, Q.2.2 + ms) ct' (pc + 3) lo (v.toList ++ st))
    (hrun : match X with
      | (p, e, R, s, m, args, below, meth, c, n, A) => ∀ (H : Heap) (locs : List Loc) (ls : Array Slot), gP w ct H → va_S A s.heap H locs → lv_has ls n lo → ∃ a, va_Run p (wL w) e R s m args below meth c H locs Q.2.1 Q.2.2 mc ms (F0 m pc ls stk) st (gQe w Post H.size (gA w H.size) a) (gA w H.size)) : gU w X Q ct pc lo stk := by
  obtain ⟨p, e, R, s, m, args, below, meth, c, n, A⟩ := X
  intro H locs ls hP hS hl
  obtain ⟨a, hr⟩ := hrun H locs ls hP hS hl
  have hA : A = gA w s.heap.size := C.2.2.2.2.2.2.2.2.2.1
  subst hA
  have hA9 : ∀ q, q < H.size → gA w H.size q → gA w s.heap.size q := fun q h1 h2 => h2.elim Or.inl (fun h => absurd h (Nat.not_le.mpr h1))
  have hf : ∀ q, gA w H.size q → gA w s.heap.size q := fun q h2 => h2.elim Or.inl (fun h => Or.inr (Nat.le_trans hS.1 h))
  intro T hT X9
  obtain ⟨v9, st₀, t, T', L, h0, X', hL, e1, e2, ⟨I, ad, v, ct', hp9, hag, ⟨hv, hp, hD', hI⟩, hz, hk⟩, st9⟩ := hr T hT X9
  cases hv
  rw [h0] at hz hk
  have hI' : ∀ i, I i → s.heap.size ≤ ad i := fun i hi => Nat.le_trans hS.1 (hI i hi)
  obtain ⟨t2, a1, b1⟩ := k I ad _ ct' hp9 hag hI' (gC_M C hag hI' hD') T'.heap (locs ++ L) ls (by rw [e1]; exact hp) ⟨Nat.le_trans hS.1 (by rw [e1]; exact hz), fun q h1 h2 => by rw [e1, hk q (Nat.lt_of_lt_of_le h1 hS.1) (fun z => h2 (hA9 q (Nat.lt_of_lt_of_le h1 hS.1) z))]; exact hS.2.1 q h1 h2, fun q hq => by
      rcases List.mem_append.mp hq with h | h
      · exact hS.2.2 q h
      · exact hf _ (hL q h)⟩ hl T' rfl X'
  exact ⟨t2, st9 t2 a1, b1⟩
theorem gBe {s : State} {args : Array Value} {R : Room} {y : MethodName} {ccy : ByteArray} {nLy ny idx d' mc ms : Nat} {rety : Option FieldType} (hT : TK s) (h1 : Cond.code y ccy nLy rety ∈ lw_tbl) (h2 : Cond.initialized y.cls ∈ lw_tbl) (h3 : y.cls ≠ "java/lang/invoke/MethodHandle" ∧ y.cls ≠ "java/lang/invoke/VarHandle" ∧ (parseMethodDescriptor y.desc).map (fun d => d.parameters.length) = some ny) (hli : Cond.methodLink own idx y ∈ lw_tbl) (hR : d ≤ R.frames ∧ 40 * d ≤ R.locals) (hdd : d' + 1 ≤ d) (hnl : nLy ≤ 21) :
    CallB R s args own idx y ccy nLy rety [.code y ccy nLy rety] { frames := d', cells := mc, slots := ms, locals := 40 * d' } mc ms ny := by
  refine ⟨rfl, rfl, Nat.le_trans hdd hR.1, ?_, ?_, List.mem_cons_self, hT.use h1 rfl, hT.use h2 rfl, ⟨h3.1, h3.2.1⟩, fun sig h => ?_, hT.use hli rfl⟩
  · show 8 + (nLy + 11) + 40 * d' ≤ R.locals
    have := hR.2
    omega
  · intro c hc a' U hW
    rw [List.mem_singleton.mp hc]
    exact (hT.warm hW).use h1 rfl
  · have h2 := h3.2.2
    rw [h] at h2
    exact (Option.some.inj h2).symm
/-- what the tables say of a method found on objects of class Cq -/
def gYB (y : MethodName) (cc : ByteArray) (nL : Nat) (ret : Option FieldType) (n : Nat) : Prop := Cond.code y cc nL ret ∈ lw_tbl ∧ Cond.initialized y.cls ∈ lw_tbl ∧ (y.cls ≠ "java/lang/invoke/MethodHandle" ∧ y.cls ≠ "java/lang/invoke/VarHandle" ∧ (parseMethodDescriptor y.desc).map (fun d => d.parameters.length) = some n) ∧ Cond.instanceMethod y ∈ lw_tbl
/-- it is found there -/
def gSel (w : WP) (X : CX) (Cq : String) (y : MethodName) : Prop := gX w X (fun _ U _ => va_Nw (Cond.selects Cq y y) U)
theorem sel_tbl (C : gC w X cc own ret d nL) {Cq : String} {y : MethodName} (h : Cond.selects Cq y y ∈ lw_tbl) (ht : tkw (Cond.selects Cq y y) = true) : gSel w X Cq y := by
  obtain ⟨p, e, R, s, m, args, below, meth, c, n, A⟩ := X
  exact C.2.2.2.2.1.1 _ h ht
theorem r_geV (C : gC w X cc own ret d nL) {Cq : String} {y : MethodName} {ccy : ByteArray} {nLy ny idx d' b mc ms : Nat} {rety : Option FieldType} {Post : PT} (As : List Value) (hM : gMe w d' y ccy nLy rety (.ref b :: As) ct Post mc ms) (Y : gYB y ccy nLy rety ny) (hsel : gSel w X Cq y) (hli : Cond.methodLink own idx y ∈ lw_tbl) (hrc : gRc w ct b Cq) (hn : As.length = ny) (hdd : d' + 1 ≤ d) (hnl : nLy ≤ 21) (hst : (st.map fun v => v.category).sum ≤ 8) {stk : List Value} (hstk : stk = As.reverse ++ .ref b :: st) (hd : decode cc pc = .ok (.invokevirtual idx, 3)) (hq : qOk X (Q.1, Q.2.1 + mc, Q.2.2 + ms))
    (k : ∀ I ad v ct', Post I ad v ct' → gAg w I ad → gBh X I ad → gC (wM w I ad) X cc own ret d nL → gU (wM w I ad) X (Q.1, Q.2.1 + mc, Q.2.2 + ms) ct' (pc + 3) lo (v.toList ++ st)) : gU w X Q ct pc lo stk := by
  refine ge_on C k ?_
  obtain ⟨p, e, R, s, m, args, below, meth, c, n, A⟩ := X
  intro H locs ls hP hS hl
  have hA0 := C.2.2.2.2.2.2.2.2.2.1
  subst hA0
  obtain ⟨i, ci, fs, q, g1, g2, g3, g4, g5⟩ := hrc
  have h1 := hP i g1
  rw [g3] at h1
  refine ⟨_, va_runV (As := As) (rest := st) (Ts := []) (own := own) (C := Cq) ⟨C.1, C.2.1, C.2.2.1, C.2.2.2.1, fun _ h => by cases h⟩ (hM H.size) ⟨gBe C.2.2.2.2.1.1 Y.1 Y.2.1 Y.2.2.1 hli C.2.2.2.2.2.2.2.2.2.2.1 hdd hnl, C.2.2.2.2.1.1.use Y.2.2.2 rfl, va_Nw.use rfl hsel⟩ ⟨(gPc C.2.2.2.2.1 C.2.2.2.2.2.1 hP C.2.2.2.2.2.2.2.2.2.2.2 hS).1, ?_, (gPc C.2.2.2.2.1 C.2.2.2.2.2.1 hP C.2.2.2.2.2.2.2.2.2.2.2 hS).2⟩ rfl hn ?_ hstk (lv_room hst) hd hq⟩
  · have := va_recv C.2.2.2.2.1.2 (one_P h1) (q0 := 0) g4 rfl
    rw [g2, g5] at this
    exact this
  · rw [hl.1]
    exact C.2.2.2.2.2.2.2.2.1
theorem r_geS (C : gC w X cc own ret d nL) {y : MethodName} {ccy : ByteArray} {nLy ny idx d' mc ms : Nat} {rety : Option FieldType} {Post : PT} (As : List Value) (hM : gMe w d' y ccy nLy rety As ct Post mc ms) (Y : gYS y ccy nLy rety ny) (hli : Cond.methodLink own idx y ∈ lw_tbl) (hn : As.length = ny) (hdd : d' + 1 ≤ d) (hnl : nLy ≤ 21) (hst : (st.map fun v => v.category).sum ≤ 8) {stk : List Value} (hstk : stk = As.reverse ++ st) (hd : decode cc pc = .ok (.invokestatic idx, 3)) (hq : qOk X (Q.1, Q.2.1 + mc, Q.2.2 + ms))
    (k : ∀ I ad v ct', Post I ad v ct' → gAg w I ad → gBh X I ad → gC (wM w I ad) X cc own ret d nL → gU (wM w I ad) X (Q.1, Q.2.1 + mc, Q.2.2 + ms) ct' (pc + 3) lo (v.toList ++ st)) : gU w X Q ct pc lo stk := by
  refine ge_on C k ?_
  obtain ⟨p, e, R, s, m, args, below, meth, c, n, A⟩ := X
  intro H locs ls hP hS hl
  have hA0 := C.2.2.2.2.2.2.2.2.2.1
  subst hA0
  refine ⟨_, va_runS (As := As) (rest := st) (Ts := []) (own := own) ⟨C.1, C.2.1, C.2.2.1, C.2.2.2.1, fun _ h => by cases h⟩ (hM H.size) ⟨gBe C.2.2.2.2.1.1 Y.1 Y.2.1 Y.2.2.1 hli C.2.2.2.2.2.2.2.2.2.2.1 hdd hnl, C.2.2.2.2.1.1.use Y.2.2.2 rfl⟩ ⟨(gPc C.2.2.2.2.1 C.2.2.2.2.2.1 hP C.2.2.2.2.2.2.2.2.2.2.2 hS).1, (gPc C.2.2.2.2.1 C.2.2.2.2.2.1 hP C.2.2.2.2.2.2.2.2.2.2.2 hS).2⟩ rfl hn ?_ hstk (lv_room hst) hd hq⟩
  rw [hl.1]
  exact C.2.2.2.2.2.2.2.2.1
theorem r_geI (C : gC w X cc own ret d nL) {y : MethodName} {ccy : ByteArray} {nLy ny idx d' b mc ms : Nat} {Post : PT} (As : List Value) (hM : gMe w d' y ccy nLy none (.ref b :: As) ct Post mc ms) (Y : gYI y ccy nLy ny) (hli : Cond.methodLink own idx y ∈ lw_tbl) (hn : As.length = ny) (hdd : d' + 1 ≤ d) (hnl : nLy ≤ 21) (hst : (st.map fun v => v.category).sum ≤ 8) {stk : List Value} (hstk : stk = As.reverse ++ .ref b :: st) (hd : decode cc pc = .ok (.invokespecial idx, 3)) (hq : qOk X (Q.1, Q.2.1 + mc, Q.2.2 + ms))
    (k : ∀ I ad v ct', Post I ad v ct' → gAg w I ad → gBh X I ad → gC (wM w I ad) X cc own ret d nL → gU (wM w I ad) X (Q.1, Q.2.1 + mc, Q.2.2 + ms) ct' (pc + 3) lo (v.toList ++ st)) : gU w X Q ct pc lo stk := by
  refine ge_on C k ?_
  obtain ⟨p, e, R, s, m, args, below, meth, c, n, A⟩ := X
  intro H locs ls hP hS hl
  have hA0 := C.2.2.2.2.2.2.2.2.2.1
  subst hA0
  refine ⟨_, va_runI (As := As) (rest := st) (Ts := []) (own := own) ⟨C.1, C.2.1, C.2.2.1, C.2.2.2.1, fun _ h => by cases h⟩ (hM H.size) ⟨gBe C.2.2.2.2.1.1 Y.1 Y.2.1 Y.2.2.1 hli C.2.2.2.2.2.2.2.2.2.2.1 hdd hnl, Y.2.2.2.2, C.2.2.2.2.1.1.use Y.2.2.2.1 rfl⟩ ⟨(gPc C.2.2.2.2.1 C.2.2.2.2.2.1 hP C.2.2.2.2.2.2.2.2.2.2.2 hS).1, (gPc C.2.2.2.2.1 C.2.2.2.2.2.1 hP C.2.2.2.2.2.2.2.2.2.2.2 hS).2⟩ rfl hn ?_ hstk (lv_room hst) hd hq⟩
  show ls.size = nL
  rw [hl.1]
  exact C.2.2.2.2.2.2.2.2.1
/-- super.m(..) -/
def gYU (own : String) (y : MethodName) (cc : ByteArray) (nL : Nat) (ret : Option FieldType) (n : Nat) : Prop := Cond.code y cc nL ret ∈ lw_tbl ∧ Cond.initialized y.cls ∈ lw_tbl ∧ (y.name ≠ "<init>" ∧ (parseMethodDescriptor y.desc).map (fun d => d.parameters.length) = some n) ∧ Cond.instanceMethod y ∈ lw_tbl ∧ Cond.sameMethod y.cls y.cls y.name y.desc ∈ lw_tbl ∧ Cond.superclass own y.cls ∈ lw_tbl
theorem r_geU (C : gC w X cc own ret d nL) {y : MethodName} {ccy : ByteArray} {nLy ny idx d' mc ms : Nat} {rety : Option FieldType} {Post : PT} (As : List Value) (i : ID) (hi : wOk w i) {ci : Nat} {q : vw_C} {fs : List Value} (hct : ct i = .inr (ci, fs)) (hci : vwCl[ci]? = some q) (hM : gMe w d' y ccy nLy rety (.ref (wAd w i) :: As) ct Post mc ms) (Y : gYU own y ccy nLy rety ny) (hsw : tkw (Cond.sameMethod y.cls y.cls y.name y.desc) = true) (hsu : tkw (Cond.superclass own y.cls) = true) (hli : Cond.methodLink own idx y ∈ lw_tbl) (hn : As.length = ny) (hdd : d' + 1 ≤ d) (hnl : nLy ≤ 21) (hst : (st.map fun v => v.category).sum ≤ 8) {stk : List Value} (hstk : stk = As.reverse ++ .ref (wAd w i) :: st) (hd : decode cc pc = .ok (.invokespecial idx, 3)) (hq : qOk X (Q.1, Q.2.1 + mc, Q.2.2 + ms))
    (k : ∀ I ad v ct', Post I ad v ct' → gAg w I ad → gBh X I ad → gC (wM w I ad) X cc own ret d nL → gU (wM w I ad) X (Q.1, Q.2.1 + mc, Q.2.2 + ms) ct' (pc + 3) lo (v.toList ++ st)) : gU w X Q ct pc lo stk := by
  refine ge_on C k ?_
  obtain ⟨p, e, R, s, m, args, below, meth, c, n, A⟩ := X
  intro H locs ls hP hS hl
  have hA0 := C.2.2.2.2.2.2.2.2.2.1
  subst hA0
  have h1 := hP i hi
  rw [hct] at h1
  have hrv := va_recv C.2.2.2.2.1.2 (one_P h1) (q0 := 0) hci rfl
  obtain ⟨cell, r1, r2, r3⟩ := hrv
  have hT := C.2.2.2.2.1.1
  have hR := C.2.2.2.2.2.2.2.2.2.2.1
  obtain ⟨r9, g1, -⟩ := h1
  have hKn := C.2.2.2.2.1.2.1 ci _ g1
  cases g1.symm.trans hci
  refine ⟨_, va_runSU (As := As) (rest := st) (Ts := []) (own := own) (C := q.1) (cC := cell.cls) ⟨r3, ?_⟩ ⟨C.1, C.2.1, C.2.2.1, C.2.2.2.1, fun _ h => by cases h⟩ (hM H.size) ⟨⟨rfl, rfl, Nat.le_trans hdd hR.1, by have := hR.2; show 8 + (nLy + 11) + 40 * d' ≤ R.locals; omega, fun c9 hc a' U hW => by rw [List.mem_singleton.mp hc]; exact (hT.warm hW).use Y.1 rfl, List.mem_cons_self⟩, hT.use hli rfl, hT.use Y.2.2.2.2.1 hsw, hT.use Y.2.2.2.2.2 hsu, hT.use Y.2.2.2.1 rfl, hT.use Y.2.1 rfl, hT.use Y.1 rfl, Y.2.2.1.1, fun sig h => by have h2 := Y.2.2.1.2; rw [h] at h2; exact (Option.some.inj h2).symm⟩ ⟨(gPc C.2.2.2.2.1 C.2.2.2.2.2.1 hP C.2.2.2.2.2.2.2.2.2.2.2 hS).1, ⟨cell, r1, r2, r3⟩, (gPc C.2.2.2.2.1 C.2.2.2.2.2.1 hP C.2.2.2.2.2.2.2.2.2.2.2 hS).2⟩ rfl hn ?_ hstk (lv_room hst) hd hq⟩
  · have e9 := Option.some.inj (r3.symm.trans hKn.2.1)
    rw [e9]
    exact hKn.2.2
  · rw [hl.1]
    exact C.2.2.2.2.2.2.2.2.1
end GROW
