/-! ===== base: a world by ids, one judgement for a walk, contracts of methods that make nothing ===== -/
abbrev ID : Type := Nat × Nat × Nat × Nat
abbrev CT : Type := ID → va_E
/-- launch, classes and slots, the ids that are there, those that may be written, addresses, array classes, what else stands still -/
abbrev WP : Type := Launch × va_G × (ID → Prop) × (ID → Prop) × (ID → Nat) × (ClassId × ClassId × ClassId × ClassId × ClassId) × ((Nat → Prop) → State → Heap → Prop)
abbrev wL (w : WP) : Launch := w.1
abbrev wD (w : WP) : va_G := w.2.1
abbrev wOk (w : WP) : ID → Prop := w.2.2.1
abbrev wFr (w : WP) : ID → Prop := w.2.2.2.1
abbrev wAd (w : WP) : ID → Nat := w.2.2.2.2.1
abbrev wI (w : WP) : ClassId := w.2.2.2.2.2.1.1
abbrev wHs (w : WP) : ClassId := w.2.2.2.2.2.1.2.1
abbrev wFs (w : WP) : ClassId := w.2.2.2.2.2.1.2.2.1
abbrev wJ (w : WP) : ClassId := w.2.2.2.2.2.1.2.2.2.1
abbrev wZ (w : WP) : ClassId := w.2.2.2.2.2.1.2.2.2.2
abbrev wTy (w : WP) : List (ClassId × FieldType) := [(wI w, .int), (wHs w, .object "HedgeMessages$Hedge"), (wFs w, .object "HedgeMessages$CommandForm"), (wJ w, .byte), (wZ w, .boolean)]
abbrev wE (w : WP) : (Nat → Prop) → State → Heap → Prop := w.2.2.2.2.2.2
abbrev CX : Type := Program × Env × Room × State × MethodId × Array Value × List Frame × Method × Code × Nat × (Nat → Prop)
def upE (ct : CT) (i : ID) (e : va_E) : CT := fun k => if k = i then e else ct k
def gP (w : WP) (ct : CT) (H : Heap) : Prop := ∀ i, wOk w i → va_at (wD w) vwCl (wAd w i, ct i) H
/-- what else stands still: it bears warming, other frames, writes at the free places, and fewer free places -/
def gE (E : (Nat → Prop) → State → Heap → Prop) : Prop := (∀ A s U H, E A s H → s.WarmedH U.vm → E A U H) ∧ (∀ A u U H, E A u H → u.vm = U.vm → E A U H) ∧ (∀ A U H H1, E A U H → (∀ a, a < H.size → ¬ A a → H1[a]? = H[a]?) → E A U H1) ∧ ∀ A B U H, E A U H → (∀ q, B q → A q) → E B U H
def gD (w : WP) : Prop := (∀ i k, wOk w i → wOk w k → wAd w i = wAd w k → i = k) ∧ (∀ i, wFr w i → wOk w i) ∧ gE (wE w)
def gA (w : WP) (sz : Nat) : Nat → Prop := fun q => (∃ i, wFr w i ∧ wAd w i = q) ∨ sz ≤ q
/-- words that stay true while the tables warm -/
def tkw (c : Cond) : Bool := c.onTables && (c.keeps || match c with
  | .fieldLinkNest .. => true
  | .methodLinkNest .. => true
  | .castable .. => true
  | .declares .. => true
  | _ => false)
def TK (U : State) : Prop := ∀ c ∈ lw_tbl, tkw c = true → va_Nw c U
theorem TK.of {args : Array Value} {s : State} (h : ∀ c ∈ lw_tbl, c.before args s = true) : TK s := fun c hc ht => va_Nw.of (by
  unfold tkw at ht
  simp only [Bool.and_eq_true] at ht
  exact ht.1) (h c hc)
theorem TK.warm {s U : State} (hW : s.WarmedH U.vm) (h : TK s) : TK U := by
  intro c hc ht
  have h1 := h c hc ht
  unfold tkw at ht
  simp only [Bool.and_eq_true, Bool.or_eq_true] at ht
  obtain ⟨h2, h3 | h3⟩ := ht
  · exact word_at hW (Or.inl (by rw [h2, h3]; rfl)) h1
  · cases c <;> first | exact va_Nw.warmF hW h1 | exact va_Nw.warmM hW h1 | exact va_Nw.warmC hW h1 | exact va_Nw.warmD hW h1 | exact absurd h3 (by simp)
theorem TK.same {u U : State} (e : u.vm = U.vm) (h : TK u) : TK U := fun c hc ht => va_Nw.same (by
  unfold tkw at ht
  simp only [Bool.and_eq_true] at ht
  exact ht.1) e (h c hc ht)
theorem TK.use {s : State} {args : Array Value} (h : TK s) {c : Cond} (hc : c ∈ lw_tbl) (ht : tkw c = true) : c.before args s = true := va_Nw.use (by
  unfold tkw at ht
  simp only [Bool.and_eq_true] at ht
  exact ht.1) (h c hc ht)
def gK (w : WP) (U : State) : Prop := TK U ∧ va_K (wD w) vwCl (wTy w) U
theorem gK.warm {w : WP} {s U : State} (hW : s.WarmedH U.vm) (h : gK w s) : gK w U := ⟨h.1.warm hW, va_K.moved hW.alike h.2⟩
theorem gK.same {w : WP} {u U : State} (e : u.vm = U.vm) (h : gK w u) : gK w U := ⟨h.1.same e, va_K.moved (by rw [e]; exact Vm.Alike.refl U.vm) h.2⟩
def gQ (w : WP) (v : Option Value) (ct : CT) (A : Nat → Prop) : Array Value → State → Outcome → State → Prop := fun _ st oc t => (oc = .returned v ∧ gP w ct t.heap) ∧ va_F A st t
abbrev gR (d : Nat) : Room := { frames := d, cells := 0, slots := 0, locals := 40 * d }
/-- a contract: from the world ct with these arguments the method answers v and leaves the world ct' -/
def gM (w : WP) (d : Nat) (y : MethodName) (cc : ByteArray) (nL : Nat) (ret : Option FieldType) (av : List Value) (ct : CT) (v : Option Value) (ct' : CT) : Prop :=
  ∀ sz, Met (wL w) y [.code y cc nL ret] (gR d) (va_Pc av (fun U => U.heap.size = sz ∧ gK w U ∧ gP w ct U.heap ∧ gD w ∧ wE w (gA w sz) U U.heap)) (gQ w v ct' (gA w sz)) 0 0 (gA w sz)
def gC (w : WP) (X : CX) (cc : ByteArray) (own : String) (ret : Option FieldType) (d nL : Nat) : Prop := match X with
  | (p, e, R, s, m, args, below, meth, c, n, A) => p.tables.exec = Jvm.exec ∧ c.code = cc ∧ c.maxLocals = nL ∧ s.vm.findClass own = some m.cls ∧ gK w s ∧ gD w ∧ meth.sig.returnType = ret ∧ meth.locks = false ∧ n = nL ∧ A = gA w s.heap.size ∧ (d ≤ R.frames ∧ 40 * d ≤ R.locals) ∧ wE w (gA w s.heap.size) s s.heap
/-- what is owed at the end, and what was made so far: cells, slots -/
abbrev QT : Type := (State → Prop) × Nat × Nat
/-- from this picture the walk comes to an end that keeps Q -/
def gU (w : WP) (X : CX) (Q : QT) (ct : CT) (pc : Nat) (lo : List (Nat × Value)) (st : List Value) : Prop := match X with
  | (p, e, R, s, m, args, below, meth, c, n, A) => ∀ (H : Heap) (locs : List Loc) (ls : Array Slot), gP w ct H → va_S A s.heap H locs → lv_has ls n lo → W p (wL w) e R s m args below meth c H locs Q.2.1 Q.2.2 Q.1 (F0 m pc ls st)
/-- the end by a return -/
def qR1 (w : WP) (X : CX) (r : Option Value × CT) : State → Prop := match X with
  | (p, e, R, s, m, args, below, meth, c, n, A) => MQ below (gQ w r.1 r.2 A) args s 0 0 A
def qR (w : WP) (X : CX) (r : Option Value × CT) : QT := (qR1 w X r, 0, 0)
/-- there is room for what was made so far -/
def qOk (X : CX) (Q : QT) : Prop := match X with
  | (p, e, R, s, m, args, below, meth, c, n, A) => Q.2.1 ≤ R.cells ∧ Q.2.2 ≤ R.slots
theorem qOk0 {X : CX} {Q : QT} (h1 : Q.2.1 = 0) (h2 : Q.2.2 = 0) : qOk X Q := by
  obtain ⟨p, e, R, s, m, args, below, meth, c, n, A⟩ := X
  unfold qOk
  rw [h1, h2]
  exact ⟨Nat.zero_le _, Nat.zero_le _⟩
abbrev gV (w : WP) (X : CX) (r : Option Value × CT) (ct : CT) (pc : Nat) (lo : List (Nat × Value)) (st : List Value) : Prop := gU w X (qR w X r) ct pc lo st
theorem gM_of {w : WP} {d : Nat} {y : MethodName} {cc : ByteArray} {nL : Nat} {ret : Option FieldType} {av : List Value} {ct : CT} {v : Option Value} {ct' : CT} (own : String) (hown : y.cls = own) (hy : plainName y.cls = true) (hn : (lg_sl av).length ≤ nL)
    (body : ∀ X : CX, gC w X cc own ret d nL → gV w X (v, ct') ct 0 (lv_args 0 av) []) : gM w d y cc nL ret av ct v ct' := by
  intro sz
  refine Met.ofW (cc := cc) (maxL := nL) (ret := ret) hy rfl ?_
  intro p e s m args below meth c s₁ B hml hv
  obtain ⟨rfl, hsz, hK, hP, hD, hE⟩ := hv
  subst hsz
  subst hown
  have hl := lv_entry av (n := nL) hn
  have hown : s.vm.findClass y.cls = some m.cls := findClass_of_methodNamed B.named
  have hb := body (p, e, gR d, s, m, av.toArray, below, meth, c, nL, gA w s.heap.size) ⟨B.exec, B.bytes, hml, hown, hK, hD, B.returns, B.notSynchronized, rfl, rfl, ⟨Nat.le_refl _, Nat.le_refl _⟩, hE⟩ s.heap [] _ hP va_S.rf hl
  rw [lg_entry_eq]
  exact hb
/-- another text for the same locals -/
theorem r_lo {w : WP} {X : CX} {Q : QT} {ct : CT} {pc : Nat} {lo : List (Nat × Value)} {st : List Value} (ks : List Nat) {lo' : List (Nat × Value)} (h : lv_pick lo ks = lo') (k : gU w X Q ct pc lo' st) : gU w X Q ct pc lo st := by
  obtain ⟨p, e, R, s, m, args, below, meth, c, n, A⟩ := X
  exact fun H locs ls hP hS hl => k H locs ls hP hS (lv_sub hl ks h)
theorem r_ct {w : WP} {X : CX} {Q : QT} {ct ct' : CT} {pc : Nat} {lo : List (Nat × Value)} {st : List Value} (h : ct = ct') (k : gU w X Q ct' pc lo st) : gU w X Q ct pc lo st := h ▸ k
theorem r_st {w : WP} {X : CX} {Q : QT} {ct : CT} {pc : Nat} {lo : List (Nat × Value)} {st st' : List Value} (h : st = st') (k : gU w X Q ct pc lo st') : gU w X Q ct pc lo st := h ▸ k
section BASE
variable {w : WP} {X : CX} {cc : ByteArray} {own : String} {ret : Option FieldType} {d nL : Nat} {Q : QT} {ct : CT} {pc : Nat} {lo : List (Nat × Value)} {st : List Value}

theorem r_iconst (C : gC w X cc own ret d nL) {n : Int} {v : Int32} (hv : Int32.ofInt n = v) (hd : decode cc pc = .ok (.iconst n, 1)) (k : gU w X Q ct (pc + 1) lo (.int v :: st)) : gU w X Q ct pc lo st := by
  obtain ⟨p, e, R, s, m, args, below, meth, c, n, A⟩ := X
  exact fun H locs ls hP hS hl => lv_iconst C.1 C.2.1  hd hv (k H locs ls hP hS hl)
theorem r_bipush (C : gC w X cc own ret d nL) {n : Int} {v : Int32} (hv : (Int8.ofInt n).toInt32 = v) (hd : decode cc pc = .ok (.bipush n, 2)) (k : gU w X Q ct (pc + 2) lo (.int v :: st)) : gU w X Q ct pc lo st := by
  obtain ⟨p, e, R, s, m, args, below, meth, c, n, A⟩ := X
  exact fun H locs ls hP hS hl => lv_bipush C.1 C.2.1  hd hv (k H locs ls hP hS hl)
theorem r_sipush (C : gC w X cc own ret d nL) {n : Int} {v : Int32} (hv : (Int16.ofInt n).toInt32 = v) (hd : decode cc pc = .ok (.sipush n, 3)) (k : gU w X Q ct (pc + 3) lo (.int v :: st)) : gU w X Q ct pc lo st := by
  obtain ⟨p, e, R, s, m, args, below, meth, c, n, A⟩ := X
  exact fun H locs ls hP hS hl => lv_sipush C.1 C.2.1  hd hv (k H locs ls hP hS hl)
theorem r_lconst (C : gC w X cc own ret d nL) {n : Fin 2} {v : Int64} (hv : Int64.ofNat (n : Nat) = v) (hd : decode cc pc = .ok (.lconst n, 1)) (k : gU w X Q ct (pc + 1) lo (.long v :: st)) : gU w X Q ct pc lo st := by
  obtain ⟨p, e, R, s, m, args, below, meth, c, n, A⟩ := X
  exact fun H locs ls hP hS hl => lv_lconst C.1 C.2.1  hd hv (k H locs ls hP hS hl)
theorem r_iload_n (C : gC w X cc own ret d nL) {i k : Nat} {x : Int32} {f : Fin 4} (hl : lo[k]? = some (i, .int x)) (hi : (f : Nat) = i) (hd : decode cc pc = .ok (.iload_n f, 1)) (kk : gU w X Q ct (pc + 1) lo (.int x :: st)) : gU w X Q ct pc lo st := by
  obtain ⟨p, e, R, s, m, args, below, meth, c, n, A⟩ := X
  exact fun H locs ls hP hS hl9 => lv_iload_n C.1 C.2.1 hd hi (lv_at hl9 k hl) (kk H locs ls hP hS hl9)
theorem r_iload (C : gC w X cc own ret d nL) {i k : Nat} {x : Int32} (hl : lo[k]? = some (i, .int x)) (hd : decode cc pc = .ok (.iload i, 2)) (kk : gU w X Q ct (pc + 2) lo (.int x :: st)) : gU w X Q ct pc lo st := by
  obtain ⟨p, e, R, s, m, args, below, meth, c, n, A⟩ := X
  exact fun H locs ls hP hS hl9 => lv_iload C.1 C.2.1 hd (lv_at hl9 k hl) (kk H locs ls hP hS hl9)
theorem r_lload_n (C : gC w X cc own ret d nL) {i k : Nat} {x : Int64} {f : Fin 4} (hl : lo[k]? = some (i, .long x)) (hi : (f : Nat) = i) (hd : decode cc pc = .ok (.lload_n f, 1)) (kk : gU w X Q ct (pc + 1) lo (.long x :: st)) : gU w X Q ct pc lo st := by
  obtain ⟨p, e, R, s, m, args, below, meth, c, n, A⟩ := X
  exact fun H locs ls hP hS hl9 => lv_lload_n C.1 C.2.1 hd hi (lv_at hl9 k hl) (kk H locs ls hP hS hl9)
theorem r_lload (C : gC w X cc own ret d nL) {i k : Nat} {x : Int64} (hl : lo[k]? = some (i, .long x)) (hd : decode cc pc = .ok (.lload i, 2)) (kk : gU w X Q ct (pc + 2) lo (.long x :: st)) : gU w X Q ct pc lo st := by
  obtain ⟨p, e, R, s, m, args, below, meth, c, n, A⟩ := X
  exact fun H locs ls hP hS hl9 => lv_lload C.1 C.2.1 hd (lv_at hl9 k hl) (kk H locs ls hP hS hl9)
theorem r_aload_n (C : gC w X cc own ret d nL) {i k : Nat} {x : Nat} {f : Fin 4} (hl : lo[k]? = some (i, .ref x)) (hi : (f : Nat) = i) (hd : decode cc pc = .ok (.aload_n f, 1)) (kk : gU w X Q ct (pc + 1) lo (.ref x :: st)) : gU w X Q ct pc lo st := by
  obtain ⟨p, e, R, s, m, args, below, meth, c, n, A⟩ := X
  exact fun H locs ls hP hS hl9 => lv_aload_n C.1 C.2.1 hd hi (lv_at hl9 k hl) (kk H locs ls hP hS hl9)
theorem r_aload (C : gC w X cc own ret d nL) {i k : Nat} {x : Nat} (hl : lo[k]? = some (i, .ref x)) (hd : decode cc pc = .ok (.aload i, 2)) (kk : gU w X Q ct (pc + 2) lo (.ref x :: st)) : gU w X Q ct pc lo st := by
  obtain ⟨p, e, R, s, m, args, below, meth, c, n, A⟩ := X
  exact fun H locs ls hP hS hl9 => lv_aload C.1 C.2.1 hd (lv_at hl9 k hl) (kk H locs ls hP hS hl9)
theorem r_istore_n (C : gC w X cc own ret d nL) {i : Nat} {x : Int32} {f : Fin 4} {lo' : List (Nat × Value)} (hi : (f : Nat) = i) (hn : i < nL) (hl : (i, Value.int x) :: lo.filter (fun q => !(q.1 == i) && !(q.1 + 1 == i && q.2.category == 2)) = lo') (hd : decode cc pc = .ok (.istore_n f, 1)) (k : gU w X Q ct (pc + 1) lo' st) : gU w X Q ct pc lo (.int x :: st) := by
  obtain ⟨p, e, R, s, m, args, below, meth, c, n, A⟩ := X
  exact fun H locs ls hP hS hl9 => lv_istore_n C.1 C.2.1 hd hi hl9 (by rw [C.2.2.2.2.2.2.2.2.1]; exact hn) hl (fun ls9 h9 => k H locs ls9 hP hS h9)
theorem r_istore (C : gC w X cc own ret d nL) {i : Nat} {x : Int32} {lo' : List (Nat × Value)} (hn : i < nL) (hl : (i, Value.int x) :: lo.filter (fun q => !(q.1 == i) && !(q.1 + 1 == i && q.2.category == 2)) = lo') (hd : decode cc pc = .ok (.istore i, 2)) (k : gU w X Q ct (pc + 2) lo' st) : gU w X Q ct pc lo (.int x :: st) := by
  obtain ⟨p, e, R, s, m, args, below, meth, c, n, A⟩ := X
  exact fun H locs ls hP hS hl9 => lv_istore C.1 C.2.1 hd hl9 (by rw [C.2.2.2.2.2.2.2.2.1]; exact hn) hl (fun ls9 h9 => k H locs ls9 hP hS h9)
theorem r_astore_n (C : gC w X cc own ret d nL) {i : Nat} {x : Nat} {f : Fin 4} {lo' : List (Nat × Value)} (hi : (f : Nat) = i) (hn : i < nL) (hl : (i, Value.ref x) :: lo.filter (fun q => !(q.1 == i) && !(q.1 + 1 == i && q.2.category == 2)) = lo') (hd : decode cc pc = .ok (.astore_n f, 1)) (k : gU w X Q ct (pc + 1) lo' st) : gU w X Q ct pc lo (.ref x :: st) := by
  obtain ⟨p, e, R, s, m, args, below, meth, c, n, A⟩ := X
  exact fun H locs ls hP hS hl9 => lv_astore_n C.1 C.2.1 hd hi hl9 (by rw [C.2.2.2.2.2.2.2.2.1]; exact hn) hl (fun ls9 h9 => k H locs ls9 hP hS h9)
theorem r_astore (C : gC w X cc own ret d nL) {i : Nat} {x : Nat} {lo' : List (Nat × Value)} (hn : i < nL) (hl : (i, Value.ref x) :: lo.filter (fun q => !(q.1 == i) && !(q.1 + 1 == i && q.2.category == 2)) = lo') (hd : decode cc pc = .ok (.astore i, 2)) (k : gU w X Q ct (pc + 2) lo' st) : gU w X Q ct pc lo (.ref x :: st) := by
  obtain ⟨p, e, R, s, m, args, below, meth, c, n, A⟩ := X
  exact fun H locs ls hP hS hl9 => lv_astore C.1 C.2.1 hd hl9 (by rw [C.2.2.2.2.2.2.2.2.1]; exact hn) hl (fun ls9 h9 => k H locs ls9 hP hS h9)
theorem r_iinc (C : gC w X cc own ret d nL) {i k : Nat} {n9 : Int} {x v : Int32} {lo' : List (Nat × Value)} (hk : lo[k]? = some (i, .int x)) (hv : x + Int32.ofInt n9 = v) (hn : i < nL) (hl : (i, Value.int v) :: lo.filter (fun q => !(q.1 == i) && !(q.1 + 1 == i && q.2.category == 2)) = lo') (hd : decode cc pc = .ok (.iinc i n9, 3)) (kk : gU w X Q ct (pc + 3) lo' st) : gU w X Q ct pc lo st := by
  obtain ⟨p, e, R, s, m, args, below, meth, c, n, A⟩ := X
  exact fun H locs ls hP hS hl9 => lv_iinc C.1 C.2.1 hd hl9 hk hv (by rw [C.2.2.2.2.2.2.2.2.1]; exact hn) hl (fun ls9 h9 => kk H locs ls9 hP hS h9)
theorem r_iadd (C : gC w X cc own ret d nL) {x y : Int32} (hd : decode cc pc = .ok (.iadd, 1)) (k : gU w X Q ct (pc + 1) lo (.int (x + y) :: st)) : gU w X Q ct pc lo (.int y :: .int x :: st) := by
  obtain ⟨p, e, R, s, m, args, below, meth, c, n, A⟩ := X
  exact fun H locs ls hP hS hl => lv_iadd C.1 C.2.1  hd  (k H locs ls hP hS hl)
theorem r_isub (C : gC w X cc own ret d nL) {x y : Int32} (hd : decode cc pc = .ok (.isub, 1)) (k : gU w X Q ct (pc + 1) lo (.int (x - y) :: st)) : gU w X Q ct pc lo (.int y :: .int x :: st) := by
  obtain ⟨p, e, R, s, m, args, below, meth, c, n, A⟩ := X
  exact fun H locs ls hP hS hl => lv_isub C.1 C.2.1  hd  (k H locs ls hP hS hl)
theorem r_imul (C : gC w X cc own ret d nL) {x y : Int32} (hd : decode cc pc = .ok (.imul, 1)) (k : gU w X Q ct (pc + 1) lo (.int (x * y) :: st)) : gU w X Q ct pc lo (.int y :: .int x :: st) := by
  obtain ⟨p, e, R, s, m, args, below, meth, c, n, A⟩ := X
  exact fun H locs ls hP hS hl => lv_imul C.1 C.2.1  hd  (k H locs ls hP hS hl)
theorem r_iand (C : gC w X cc own ret d nL) {x y : Int32} (hd : decode cc pc = .ok (.iand, 1)) (k : gU w X Q ct (pc + 1) lo (.int (x &&& y) :: st)) : gU w X Q ct pc lo (.int y :: .int x :: st) := by
  obtain ⟨p, e, R, s, m, args, below, meth, c, n, A⟩ := X
  exact fun H locs ls hP hS hl => lv_iand C.1 C.2.1  hd  (k H locs ls hP hS hl)
theorem r_ior (C : gC w X cc own ret d nL) {x y : Int32} (hd : decode cc pc = .ok (.ior, 1)) (k : gU w X Q ct (pc + 1) lo (.int (x ||| y) :: st)) : gU w X Q ct pc lo (.int y :: .int x :: st) := by
  obtain ⟨p, e, R, s, m, args, below, meth, c, n, A⟩ := X
  exact fun H locs ls hP hS hl => lv_ior C.1 C.2.1  hd  (k H locs ls hP hS hl)
theorem r_ineg (C : gC w X cc own ret d nL) {x : Int32} (hd : decode cc pc = .ok (.ineg, 1)) (k : gU w X Q ct (pc + 1) lo (.int (-x) :: st)) : gU w X Q ct pc lo (.int x :: st) := by
  obtain ⟨p, e, R, s, m, args, below, meth, c, n, A⟩ := X
  exact fun H locs ls hP hS hl => lv_ineg C.1 C.2.1  hd  (k H locs ls hP hS hl)
theorem r_ishl (C : gC w X cc own ret d nL) {x y : Int32} (hd : decode cc pc = .ok (.ishl, 1)) (k : gU w X Q ct (pc + 1) lo (.int (x <<< (y &&& 31)) :: st)) : gU w X Q ct pc lo (.int y :: .int x :: st) := by
  obtain ⟨p, e, R, s, m, args, below, meth, c, n, A⟩ := X
  exact fun H locs ls hP hS hl => lv_ishl C.1 C.2.1  hd  (k H locs ls hP hS hl)
theorem r_ishr (C : gC w X cc own ret d nL) {x y : Int32} (hd : decode cc pc = .ok (.ishr, 1)) (k : gU w X Q ct (pc + 1) lo (.int (x >>> (y &&& 31)) :: st)) : gU w X Q ct pc lo (.int y :: .int x :: st) := by
  obtain ⟨p, e, R, s, m, args, below, meth, c, n, A⟩ := X
  exact fun H locs ls hP hS hl => lv_ishr C.1 C.2.1  hd  (k H locs ls hP hS hl)
theorem r_iushr (C : gC w X cc own ret d nL) {x y v : Int32} (hv : (x.toUInt32 >>> (y.toUInt32 &&& Int32.toUInt32 31)).toInt32 = v) (hd : decode cc pc = .ok (.iushr, 1)) (k : gU w X Q ct (pc + 1) lo (.int v :: st)) : gU w X Q ct pc lo (.int y :: .int x :: st) := by
  obtain ⟨p, e, R, s, m, args, below, meth, c, n, A⟩ := X
  exact fun H locs ls hP hS hl => lv_iushr C.1 C.2.1  hd hv (k H locs ls hP hS hl)
theorem r_i2l (C : gC w X cc own ret d nL) {x : Int32} {v : Int64} (hv : x.toInt64 = v) (hd : decode cc pc = .ok (.i2l, 1)) (k : gU w X Q ct (pc + 1) lo (.long v :: st)) : gU w X Q ct pc lo (.int x :: st) := by
  obtain ⟨p, e, R, s, m, args, below, meth, c, n, A⟩ := X
  exact fun H locs ls hP hS hl => lv_i2l C.1 C.2.1  hd hv (k H locs ls hP hS hl)
theorem r_i2c (C : gC w X cc own ret d nL) {x v : Int32} (hv : (x.toUInt32 % 65536).toInt32 = v) (hd : decode cc pc = .ok (.i2c, 1)) (k : gU w X Q ct (pc + 1) lo (.int v :: st)) : gU w X Q ct pc lo (.int x :: st) := by
  obtain ⟨p, e, R, s, m, args, below, meth, c, n, A⟩ := X
  exact fun H locs ls hP hS hl => lv_i2c C.1 C.2.1  hd hv (k H locs ls hP hS hl)
theorem r_idiv (C : gC w X cc own ret d nL) {x y : Int32} (hne : ¬ y = 0) (hd : decode cc pc = .ok (.idiv, 1)) (k : gU w X Q ct (pc + 1) lo (.int (x / y) :: st)) : gU w X Q ct pc lo (.int y :: .int x :: st) := by
  obtain ⟨p, e, R, s, m, args, below, meth, c, n, A⟩ := X
  exact fun H locs ls hP hS hl => lv_idiv C.1 C.2.1  hd hne (k H locs ls hP hS hl)
theorem r_irem (C : gC w X cc own ret d nL) {x y : Int32} (hne : ¬ y = 0) (hd : decode cc pc = .ok (.irem, 1)) (k : gU w X Q ct (pc + 1) lo (.int (x - x / y * y) :: st)) : gU w X Q ct pc lo (.int y :: .int x :: st) := by
  obtain ⟨p, e, R, s, m, args, below, meth, c, n, A⟩ := X
  exact fun H locs ls hP hS hl => lv_irem C.1 C.2.1  hd hne (k H locs ls hP hS hl)
theorem r_dup (C : gC w X cc own ret d nL) {a : Value} (ha : a.category = 1) (hd : decode cc pc = .ok (.dup, 1)) (k : gU w X Q ct (pc + 1) lo (a :: a :: st)) : gU w X Q ct pc lo (a :: st) := by
  obtain ⟨p, e, R, s, m, args, below, meth, c, n, A⟩ := X
  exact fun H locs ls hP hS hl => lv_dup C.1 C.2.1  hd ha (k H locs ls hP hS hl)
theorem r_pop (C : gC w X cc own ret d nL) {a : Value} (ha : a.category = 1) (hd : decode cc pc = .ok (.pop, 1)) (k : gU w X Q ct (pc + 1) lo st) : gU w X Q ct pc lo (a :: st) := by
  obtain ⟨p, e, R, s, m, args, below, meth, c, n, A⟩ := X
  exact fun H locs ls hP hS hl => lv_pop C.1 C.2.1  hd ha (k H locs ls hP hS hl)
theorem r_dup2_11 (C : gC w X cc own ret d nL) {a b : Value} (ha : a.category = 1) (hb : b.category = 1) (hd : decode cc pc = .ok (.dup2, 1)) (k : gU w X Q ct (pc + 1) lo (a :: b :: a :: b :: st)) : gU w X Q ct pc lo (a :: b :: st) := by
  obtain ⟨p, e, R, s, m, args, below, meth, c, n, A⟩ := X
  exact fun H locs ls hP hS hl => lv_dup2_11 C.1 C.2.1  hd ha hb (k H locs ls hP hS hl)
theorem r_lcmp (C : gC w X cc own ret d nL) {x y : Int64} (hd : decode cc pc = .ok (.lcmp, 1)) (k : gU w X Q ct (pc + 1) lo (.int (lg_cmp x y) :: st)) : gU w X Q ct pc lo (.long y :: .long x :: st) := by
  obtain ⟨p, e, R, s, m, args, below, meth, c, n, A⟩ := X
  exact fun H locs ls hP hS hl => W.lcmp C.1 C.2.1 hd (k H locs ls hP hS hl)
theorem r_if_eq (C : gC w X cc own ret d nL) {x : Int32} {off : Int} {tgt : Nat} (ht : (pc : Int) + off = (tgt : Int)) (hd : decode cc pc = .ok (.ifCond .eq off, 3)) (kt : x = 0 → gU w X Q ct tgt lo st) (kf : ¬ x = 0 → gU w X Q ct (pc + 3) lo st) : gU w X Q ct pc lo (.int x :: st) := by
  obtain ⟨p, e, R, s, m, args, below, meth, c, n, A⟩ := X
  exact fun H locs ls hP hS hl => lv_if_eq C.1 C.2.1 hd ht (fun h => kt h H locs ls hP hS hl) (fun h => kf h H locs ls hP hS hl)
theorem r_if_ne (C : gC w X cc own ret d nL) {x : Int32} {off : Int} {tgt : Nat} (ht : (pc : Int) + off = (tgt : Int)) (hd : decode cc pc = .ok (.ifCond .ne off, 3)) (kt : ¬ x = 0 → gU w X Q ct tgt lo st) (kf : x = 0 → gU w X Q ct (pc + 3) lo st) : gU w X Q ct pc lo (.int x :: st) := by
  obtain ⟨p, e, R, s, m, args, below, meth, c, n, A⟩ := X
  exact fun H locs ls hP hS hl => lv_if_ne C.1 C.2.1 hd ht (fun h => kt h H locs ls hP hS hl) (fun h => kf h H locs ls hP hS hl)
theorem r_if_lt (C : gC w X cc own ret d nL) {x : Int32} {off : Int} {tgt : Nat} (ht : (pc : Int) + off = (tgt : Int)) (hd : decode cc pc = .ok (.ifCond .lt off, 3)) (kt : x < 0 → gU w X Q ct tgt lo st) (kf : ¬ x < 0 → gU w X Q ct (pc + 3) lo st) : gU w X Q ct pc lo (.int x :: st) := by
  obtain ⟨p, e, R, s, m, args, below, meth, c, n, A⟩ := X
  exact fun H locs ls hP hS hl => lv_if_lt C.1 C.2.1 hd ht (fun h => kt h H locs ls hP hS hl) (fun h => kf h H locs ls hP hS hl)
theorem r_if_ge (C : gC w X cc own ret d nL) {x : Int32} {off : Int} {tgt : Nat} (ht : (pc : Int) + off = (tgt : Int)) (hd : decode cc pc = .ok (.ifCond .ge off, 3)) (kt : 0 ≤ x → gU w X Q ct tgt lo st) (kf : ¬ 0 ≤ x → gU w X Q ct (pc + 3) lo st) : gU w X Q ct pc lo (.int x :: st) := by
  obtain ⟨p, e, R, s, m, args, below, meth, c, n, A⟩ := X
  exact fun H locs ls hP hS hl => lv_if_ge C.1 C.2.1 hd ht (fun h => kt h H locs ls hP hS hl) (fun h => kf h H locs ls hP hS hl)
theorem r_if_gt (C : gC w X cc own ret d nL) {x : Int32} {off : Int} {tgt : Nat} (ht : (pc : Int) + off = (tgt : Int)) (hd : decode cc pc = .ok (.ifCond .gt off, 3)) (kt : 0 < x → gU w X Q ct tgt lo st) (kf : ¬ 0 < x → gU w X Q ct (pc + 3) lo st) : gU w X Q ct pc lo (.int x :: st) := by
  obtain ⟨p, e, R, s, m, args, below, meth, c, n, A⟩ := X
  exact fun H locs ls hP hS hl => lv_if_gt C.1 C.2.1 hd ht (fun h => kt h H locs ls hP hS hl) (fun h => kf h H locs ls hP hS hl)
theorem r_if_le (C : gC w X cc own ret d nL) {x : Int32} {off : Int} {tgt : Nat} (ht : (pc : Int) + off = (tgt : Int)) (hd : decode cc pc = .ok (.ifCond .le off, 3)) (kt : x ≤ 0 → gU w X Q ct tgt lo st) (kf : ¬ x ≤ 0 → gU w X Q ct (pc + 3) lo st) : gU w X Q ct pc lo (.int x :: st) := by
  obtain ⟨p, e, R, s, m, args, below, meth, c, n, A⟩ := X
  exact fun H locs ls hP hS hl => lv_if_le C.1 C.2.1 hd ht (fun h => kt h H locs ls hP hS hl) (fun h => kf h H locs ls hP hS hl)
theorem r_icmp_eq (C : gC w X cc own ret d nL) {x y : Int32} {off : Int} {tgt : Nat} (ht : (pc : Int) + off = (tgt : Int)) (hd : decode cc pc = .ok (.if_icmp .eq off, 3)) (kt : x = y → gU w X Q ct tgt lo st) (kf : ¬ x = y → gU w X Q ct (pc + 3) lo st) : gU w X Q ct pc lo (.int y :: .int x :: st) := by
  obtain ⟨p, e, R, s, m, args, below, meth, c, n, A⟩ := X
  exact fun H locs ls hP hS hl => lv_icmp_eq C.1 C.2.1 hd ht (fun h => kt h H locs ls hP hS hl) (fun h => kf h H locs ls hP hS hl)
theorem r_icmp_ne (C : gC w X cc own ret d nL) {x y : Int32} {off : Int} {tgt : Nat} (ht : (pc : Int) + off = (tgt : Int)) (hd : decode cc pc = .ok (.if_icmp .ne off, 3)) (kt : ¬ x = y → gU w X Q ct tgt lo st) (kf : x = y → gU w X Q ct (pc + 3) lo st) : gU w X Q ct pc lo (.int y :: .int x :: st) := by
  obtain ⟨p, e, R, s, m, args, below, meth, c, n, A⟩ := X
  exact fun H locs ls hP hS hl => lv_icmp_ne C.1 C.2.1 hd ht (fun h => kt h H locs ls hP hS hl) (fun h => kf h H locs ls hP hS hl)
theorem r_icmp_lt (C : gC w X cc own ret d nL) {x y : Int32} {off : Int} {tgt : Nat} (ht : (pc : Int) + off = (tgt : Int)) (hd : decode cc pc = .ok (.if_icmp .lt off, 3)) (kt : x < y → gU w X Q ct tgt lo st) (kf : ¬ x < y → gU w X Q ct (pc + 3) lo st) : gU w X Q ct pc lo (.int y :: .int x :: st) := by
  obtain ⟨p, e, R, s, m, args, below, meth, c, n, A⟩ := X
  exact fun H locs ls hP hS hl => lv_icmp_lt C.1 C.2.1 hd ht (fun h => kt h H locs ls hP hS hl) (fun h => kf h H locs ls hP hS hl)
theorem r_icmp_ge (C : gC w X cc own ret d nL) {x y : Int32} {off : Int} {tgt : Nat} (ht : (pc : Int) + off = (tgt : Int)) (hd : decode cc pc = .ok (.if_icmp .ge off, 3)) (kt : y ≤ x → gU w X Q ct tgt lo st) (kf : ¬ y ≤ x → gU w X Q ct (pc + 3) lo st) : gU w X Q ct pc lo (.int y :: .int x :: st) := by
  obtain ⟨p, e, R, s, m, args, below, meth, c, n, A⟩ := X
  exact fun H locs ls hP hS hl => lv_icmp_ge C.1 C.2.1 hd ht (fun h => kt h H locs ls hP hS hl) (fun h => kf h H locs ls hP hS hl)
theorem r_icmp_gt (C : gC w X cc own ret d nL) {x y : Int32} {off : Int} {tgt : Nat} (ht : (pc : Int) + off = (tgt : Int)) (hd : decode cc pc = .ok (.if_icmp .gt off, 3)) (kt : y < x → gU w X Q ct tgt lo st) (kf : ¬ y < x → gU w X Q ct (pc + 3) lo st) : gU w X Q ct pc lo (.int y :: .int x :: st) := by
  obtain ⟨p, e, R, s, m, args, below, meth, c, n, A⟩ := X
  exact fun H locs ls hP hS hl => lv_icmp_gt C.1 C.2.1 hd ht (fun h => kt h H locs ls hP hS hl) (fun h => kf h H locs ls hP hS hl)
theorem r_icmp_le (C : gC w X cc own ret d nL) {x y : Int32} {off : Int} {tgt : Nat} (ht : (pc : Int) + off = (tgt : Int)) (hd : decode cc pc = .ok (.if_icmp .le off, 3)) (kt : x ≤ y → gU w X Q ct tgt lo st) (kf : ¬ x ≤ y → gU w X Q ct (pc + 3) lo st) : gU w X Q ct pc lo (.int y :: .int x :: st) := by
  obtain ⟨p, e, R, s, m, args, below, meth, c, n, A⟩ := X
  exact fun H locs ls hP hS hl => lv_icmp_le C.1 C.2.1 hd ht (fun h => kt h H locs ls hP hS hl) (fun h => kf h H locs ls hP hS hl)
theorem r_goto (C : gC w X cc own ret d nL) {off : Int} {tgt : Nat} (ht : (pc : Int) + off = (tgt : Int)) (hd : decode cc pc = .ok (.goto off, 3)) (k : gU w X Q ct tgt lo st) : gU w X Q ct pc lo st := by
  obtain ⟨p, e, R, s, m, args, below, meth, c, n, A⟩ := X
  exact fun H locs ls hP hS hl => lv_goto C.1 C.2.1 hd ht (k H locs ls hP hS hl)
theorem r_ireturn (C : gC w X cc own (some .int) d nL) {x : Int32} (hd : decode cc pc = .ok (.ireturn, 1)) : gV w X (some (.int x), ct) ct pc lo [.int x] := by
  obtain ⟨p, e, R, s, m, args, below, meth, c, n, A⟩ := X
  exact fun H locs ls hP hS hl => W.iret C.1 C.2.1 C.2.2.2.2.2.2.1 (fun t ht hW => ⟨⟨rfl, by rw [ht]; exact hP⟩, hS.F ht⟩) hS.2.2 hd C.2.2.2.2.2.2.2.1
def b2i (b : Bool) : Int32 := if b then 1 else 0
theorem b2i_nar (b : Bool) : narrow .boolean (.int (b2i b)) = .int (b2i b) := by cases b <;> decide
theorem r_zreturn (C : gC w X cc own (some .boolean) d nL) {x : Int32} (b : Bool) (hb : x = b2i b) (hd : decode cc pc = .ok (.ireturn, 1)) : gV w X (some (.int (b2i b)), ct) ct pc lo [.int x] := by
  obtain ⟨p, e, R, s, m, args, below, meth, c, n, A⟩ := X
  subst hb
  exact fun H locs ls hP hS hl => W.zret C.1 C.2.1 C.2.2.2.2.2.2.1 (b2i_nar b) (fun t ht hW => ⟨⟨rfl, by rw [ht]; exact hP⟩, hS.F ht⟩) hS.2.2 hd C.2.2.2.2.2.2.2.1
theorem r_return (C : gC w X cc own none d nL) (hd : decode cc pc = .ok (.return_, 1)) : gV w X (none, ct) ct pc lo [] := by
  obtain ⟨p, e, R, s, m, args, below, meth, c, n, A⟩ := X
  exact fun H locs ls hP hS hl => W.vret C.1 C.2.1 C.2.2.2.2.2.2.1 (fun t ht hW => ⟨⟨rfl, by rw [ht]; exact hP⟩, hS.F ht⟩) hS.2.2 hd C.2.2.2.2.2.2.2.1
theorem r_areturn {rt : FieldType} (C : gC w X cc own (some rt) d nL) (hrt : (∃ n, rt = .object n) ∨ ∃ t, rt = .array t) {a : Nat} (hd : decode cc pc = .ok (.areturn, 1)) : gV w X (some (.ref a), ct) ct pc lo [.ref a] := by
  obtain ⟨p, e, R, s, m, args, below, meth, c, n, A⟩ := X
  exact fun H locs ls hP hS hl => W.aret C.1 C.2.1 C.2.2.2.2.2.2.1 hrt (Or.inr ⟨a, rfl⟩) (fun t ht hW => ⟨⟨rfl, by rw [ht]; exact hP⟩, hS.F ht⟩) hS.2.2 hd C.2.2.2.2.2.2.2.1
theorem r_areturnN {rt : FieldType} (C : gC w X cc own (some rt) d nL) (hrt : (∃ n, rt = .object n) ∨ ∃ t, rt = .array t) (hd : decode cc pc = .ok (.areturn, 1)) : gV w X (some .null, ct) ct pc lo [.null] := by
  obtain ⟨p, e, R, s, m, args, below, meth, c, n, A⟩ := X
  exact fun H locs ls hP hS hl => W.aret C.1 C.2.1 C.2.2.2.2.2.2.1 hrt (Or.inl rfl) (fun t ht hW => ⟨⟨rfl, by rw [ht]; exact hP⟩, hS.F ht⟩) hS.2.2 hd C.2.2.2.2.2.2.2.1
theorem one_P {D : va_G} {q : Nat × va_E} {H : Heap} (h : va_at D vwCl q H) : va_P D vwCl [q] H := by
  intro k q' hk
  match k, hk with
  | 0, hk => cases hk; exact h
  | k + 1, hk => simp at hk
theorem in_ws {C : String} {T : u_T} {N : Nat} {s : State} {args : Array Value} (hK : TK s) (h : ∀ c ∈ u_ws C T N, c ∈ lw_tbl ∧ tkw c = true) : ∀ c ∈ u_ws C T N, c.before args s = true := fun c hc => hK.use (h c hc).1 (h c hc).2
/-- what a class's table says: its place among the classes, its layout's words -/
def gF (ci : Nat) (cl : String) (T : u_T) (N : Nat) (ty : Nat → FieldType) : Prop := vwCl[ci]? = some (cl, T, N) ∧ (∀ c ∈ u_ws cl T N, c ∈ lw_tbl ∧ tkw c = true) ∧ (∀ k, k < N → parseFieldDescriptor (T k).2.2.1 = some (ty k)) ∧ (∀ a, a < N → ∀ b, b < N → a ≠ b → (T a).2.1 ≠ (T b).2.1) ∧ True
theorem r_get (C : gC w X cc own ret d nL) {ci N idx : Nat} {cl : String} {T : u_T} {ty : Nat → FieldType} (F : gF ci cl T N ty) (k : Nat) (i : ID) (hi : wOk w i) {fs : List Value} (hct : ct i = .inr (ci, fs)) (hk : k < N) (hlink : Cond.fieldLink own idx (T k).1 (T k).2.1 (T k).2.2.1 ∈ lw_tbl) {v : Value} (hv : fs[k]? = some v) (hd : decode cc pc = .ok (.getfield idx, 3)) (kk : gU w X Q ct (pc + 3) lo (v :: st)) : gU w X Q ct pc lo (.ref (wAd w i) :: st) := by
  obtain ⟨p, e, R, s, m, args, below, meth, c, n, A⟩ := X
  intro H locs ls hP hS hl
  have h1 := hP i hi
  rw [hct] at h1
  exact va_get C.1 C.2.1 (in_ws C.2.2.2.2.1.1 F.2.1) (fun _ h => h) C.2.2.2.1 C.2.2.2.2.1.2 (one_P h1) 0 rfl F.1 k hk (C.2.2.2.2.1.1.use hlink rfl) (fun _ h => h) hv hd (kk H locs ls hP hS hl)
theorem r_getN (C : gC w X cc own ret d nL) {ci N idx : Nat} {cl host : String} {T : u_T} {ty : Nat → FieldType} (F : gF ci cl T N ty) (k : Nat) (i : ID) (hi : wOk w i) {fs : List Value} (hct : ct i = .inr (ci, fs)) (hk : k < N) (hlink : Cond.fieldLinkNest own idx (T k).1 (T k).2.1 (T k).2.2.1 host ∈ lw_tbl) {v : Value} (hv : fs[k]? = some v) (hd : decode cc pc = .ok (.getfield idx, 3)) (kk : gU w X Q ct (pc + 3) lo (v :: st)) : gU w X Q ct pc lo (.ref (wAd w i) :: st) := by
  obtain ⟨p, e, R, s, m, args, below, meth, c, n, A⟩ := X
  intro H locs ls hP hS hl
  have h1 := hP i hi
  rw [hct] at h1
  exact va_getN C.1 C.2.1 (in_ws C.2.2.2.2.1.1 F.2.1) (fun _ h => h) C.2.2.2.1 C.2.2.2.2.1.2 (one_P h1) 0 rfl F.1 k hk (C.2.2.2.2.1.1.use hlink rfl) (fun _ h => h) hv hd (kk H locs ls hP hS hl)
theorem gP_cong {ct' : CT} {H : Heap} (h : ∀ q, wOk w q → ct q = ct' q) (hP : gP w ct H) : gP w ct' H := fun i hi => by rw [← h i hi]; exact hP i hi
/-- the world after one cell was written -/
theorem gP_put {H H1 : Heap} {i : ID} {e : va_E} (hD : gD w) (hi : wOk w i) (hP : gP w ct H) (h1 : va_at (wD w) vwCl (wAd w i, e) H1) (oq : ∀ q : Nat, q ≠ wAd w i → H1[q]? = H[q]?) : gP w (upE ct i e) H1 := by
  intro k hk
  by_cases hki : k = i
  · subst hki
    show va_at _ _ (wAd w k, if k = k then e else ct k) H1
    rw [if_pos rfl]
    exact h1
  · show va_at _ _ (wAd w k, if k = i then e else ct k) H1
    rw [if_neg hki]
    exact (hP k hk).kept (oq _ (fun z => hki (hD.1 k i hk hi z)))

theorem r_put (C : gC w X cc own ret d nL) {ci N idx : Nat} {cl : String} {T : u_T} {ty : Nat → FieldType} (F : gF ci cl T N ty) (k : Nat) (i : ID) (hi : wFr w i) {fs : List Value} (hct : ct i = .inr (ci, fs)) (hk : k < N) (hlink : Cond.fieldLink own idx (T k).1 (T k).2.1 (T k).2.2.1 ∈ lw_tbl) (hfin : (T k).2.2.2 = false) {v : Value} (hn : narrow (ty k) v = v) (hfit : fits (ty k) v = true) (hlen : k < fs.length) (hd : decode cc pc = .ok (.putfield idx, 3)) {ct' : CT} (hct' : ∀ q, wOk w q → upE ct i (.inr (ci, fs.set k v)) q = ct' q) (kk : gU w X Q ct' (pc + 3) lo st) : gU w X Q ct pc lo (v :: .ref (wAd w i) :: st) := by
  obtain ⟨p, e, R, s, m, args, below, meth, c, n, A⟩ := X
  intro H locs ls hP hS hl
  obtain ⟨F1, F2, F3, F4, F5⟩ := F
  have hoi := C.2.2.2.2.2.1.2.1 i hi
  have h1 := hP i hoi
  rw [hct] at h1
  have hts := in_ws (args := args) C.2.2.2.2.1.1 F2
  have hap := va_apart (own := own) hts (fun _ h => h) ty F3 F4 C.2.2.2.2.1.2 F1
  obtain ⟨r9, g1, cell, q1, q2, q3, q4⟩ := h1
  have hr : r9 = (cl, T, N) := Option.some.inj (g1.symm.trans F1)
  subst hr
  obtain ⟨hS9, hfc, kC, hkC, hkind⟩ := C.2.2.2.2.1.2.1 ci _ F1
  obtain ⟨cf, kf, fi, f, hi9, hsl⟩ := hS9 k hk
  have hlay := hts _ (u_in_lay hk)
  unfold u_lay at hlay
  rw [if_neg (by rw [hfin]; decide)] at hlay
  have hst := (u_facts hfc hkC (u_lays hts (fun _ h => h) hk) hi9).1
  have h6 := u_store hfc hkC hkind hlay hi9 (F3 k hk) hn hfit
  refine W.putK C.1 C.2.1 (f := f) ⟨C.2.2.2.1, C.2.2.2.2.1.1.use hlink rfl, ⟨_, _, _, hi9⟩, hst⟩ (by rw [q2]; exact h6) q1 q3 (by rw [hsl]; exact k2_hasslot (q4 k hk)) rfl rfl hd fun H' e1 e2 e3 => ?_
  rw [hsl] at e1 ⊢
  refine kk H' _ ls (gP_cong hct' <| gP_put C.2.2.2.2.2.1 hoi hP ⟨_, F1, t_OB.to (V := updV (vp_V fs) k v) ⟨_, e1, q2, q3, t_set q4 hap hk v⟩ (fun j _ => vp_updV_set hlen v j)⟩ e3) (hS.put e2 e3 ?_) hl
  rw [C.2.2.2.2.2.2.2.2.2.1]
  exact Or.inl ⟨i, hi, rfl⟩

theorem r_putN (C : gC w X cc own ret d nL) {ci N idx : Nat} {cl : String} {host : String} {T : u_T} {ty : Nat → FieldType} (F : gF ci cl T N ty) (k : Nat) (i : ID) (hi : wFr w i) {fs : List Value} (hct : ct i = .inr (ci, fs)) (hk : k < N) (hlink : Cond.fieldLinkNest own idx (T k).1 (T k).2.1 (T k).2.2.1 host ∈ lw_tbl) (hfin : (T k).2.2.2 = false) {v : Value} (hn : narrow (ty k) v = v) (hfit : fits (ty k) v = true) (hlen : k < fs.length) (hd : decode cc pc = .ok (.putfield idx, 3)) {ct' : CT} (hct' : ∀ q, wOk w q → upE ct i (.inr (ci, fs.set k v)) q = ct' q) (kk : gU w X Q ct' (pc + 3) lo st) : gU w X Q ct pc lo (v :: .ref (wAd w i) :: st) := by
  obtain ⟨p, e, R, s, m, args, below, meth, c, n, A⟩ := X
  intro H locs ls hP hS hl
  obtain ⟨F1, F2, F3, F4, F5⟩ := F
  have hoi := C.2.2.2.2.2.1.2.1 i hi
  have h1 := hP i hoi
  rw [hct] at h1
  have hts := in_ws (args := args) C.2.2.2.2.1.1 F2
  have hap := va_apart (own := own) hts (fun _ h => h) ty F3 F4 C.2.2.2.2.1.2 F1
  obtain ⟨r9, g1, cell, q1, q2, q3, q4⟩ := h1
  have hr : r9 = (cl, T, N) := Option.some.inj (g1.symm.trans F1)
  subst hr
  obtain ⟨hS9, hfc, kC, hkC, hkind⟩ := C.2.2.2.2.1.2.1 ci _ F1
  obtain ⟨cf, kf, fi, f, hi9, hsl⟩ := hS9 k hk
  have hlay := hts _ (u_in_lay hk)
  unfold u_lay at hlay
  rw [if_neg (by rw [hfin]; decide)] at hlay
  have hst := (u_facts hfc hkC (u_lays hts (fun _ h => h) hk) hi9).1
  have h6 := u_store hfc hkC hkind hlay hi9 (F3 k hk) hn hfit
  refine va_WputK C.1 C.2.1 (f := f) C.2.2.2.1 (C.2.2.2.2.1.1.use hlink rfl) hi9 hst (by rw [q2]; exact h6) q1 q3 (by rw [hsl]; exact k2_hasslot (q4 k hk)) rfl rfl hd fun H' e1 e2 e3 => ?_
  rw [hsl] at e1 ⊢
  refine kk H' _ ls (gP_cong hct' <| gP_put C.2.2.2.2.2.1 hoi hP ⟨_, F1, t_OB.to (V := updV (vp_V fs) k v) ⟨_, e1, q2, q3, t_set q4 hap hk v⟩ (fun j _ => vp_updV_set hlen v j)⟩ e3) (hS.put e2 e3 ?_) hl
  rw [C.2.2.2.2.2.2.2.2.2.1]
  exact Or.inl ⟨i, hi, rfl⟩

theorem r_alen (C : gC w X cc own ret d nL) (i : ID) (hi : wOk w i) (t0 : Nat) {cA : ClassId} {x : vp_A} (hct : ct i = .inl (cA, x)) {ty : FieldType} (ht : (wTy w)[t0]? = some (cA, ty)) {v : Int32} (hv : Int32.ofNat x.1 = v) (hd : decode cc pc = .ok (.arraylength, 1)) (kk : gU w X Q ct (pc + 1) lo (.int v :: st)) : gU w X Q ct pc lo (.ref (wAd w i) :: st) := by
  obtain ⟨p, e, R, s, m, args, below, meth, c, n, A⟩ := X
  intro H locs ls hP hS hl
  have h1 := hP i hi
  rw [hct] at h1
  exact va_alen C.1 C.2.1 C.2.2.2.2.1.2 (one_P h1) 0 t0 rfl ht hv hd (kk H locs ls hP hS hl)
theorem r_iald (C : gC w X cc own ret d nL) (i : ID) (hi : wOk w i) (t0 : Nat) {cA : ClassId} {n : Nat} {f : Nat → Int32} (hct : ct i = .inl (cA, n, .inl f)) (ht : (wTy w)[t0]? = some (cA, .int)) {j : Int32} (hin : vp_in j n) (hd : decode cc pc = .ok (.iaload, 1)) (kk : gU w X Q ct (pc + 1) lo (.int (f j.toNatClampNeg) :: st)) : gU w X Q ct pc lo (.int j :: .ref (wAd w i) :: st) := by
  obtain ⟨p, e, R, s, m, args, below, meth, c, n, A⟩ := X
  intro H locs ls hP hS hl
  have h1 := hP i hi
  rw [hct] at h1
  exact va_iald C.1 C.2.1 C.2.2.2.2.1.2 (one_P h1) 0 t0 rfl ht hin hd (kk H locs ls hP hS hl)
theorem r_iast (C : gC w X cc own ret d nL) (i : ID) (hi : wFr w i) (t0 : Nat) {cA : ClassId} {n : Nat} {f : Nat → Int32} (hct : ct i = .inl (cA, n, .inl f)) (ht : (wTy w)[t0]? = some (cA, .int)) {j x : Int32} (hin : vp_in j n) (hd : decode cc pc = .ok (.iastore, 1)) {ct' : CT} (hct' : ∀ q, wOk w q → upE ct i (.inl (cA, n, .inl (upd f j.toNatClampNeg x))) q = ct' q) (kk : gU w X Q ct' (pc + 1) lo st) : gU w X Q ct pc lo (.int x :: .int j :: .ref (wAd w i) :: st) := by
  obtain ⟨p, e, R, s, m, args, below, meth, c, n9, A⟩ := X
  intro H locs ls hP hS hl
  have hoi := C.2.2.2.2.2.1.2.1 i hi
  have h1 := hP i hoi
  rw [hct] at h1
  refine W.iast C.1 C.2.1 h1 ((C.2.2.2.2.1.2.2 t0 _ ht).1 n (fun j => .int (f j))) (fun q => by cases q) (by show ¬ (j < 0 ∨ (arrV _ _ _).slots.size ≤ _); rw [arrV_size]; exact hin) rfl rfl hd fun H1 e z oq => ?_
  refine kk H1 _ ls (gP_cong hct' <| gP_put C.2.2.2.2.2.1 hoi hP ?_ oq) (hS.put z oq (by rw [C.2.2.2.2.2.2.2.2.2.1]; exact Or.inl ⟨i, hi, rfl⟩)) hl
  show H1[wAd w i]? = some (vp_cell _ _)
  rw [e]
  rw [vp_cell_i, vp_cell_i, arrV_store]
  congr 2
  funext q
  by_cases hq : q = j.toNatClampNeg
  · subst hq
    simp [updV, upd]
  · simp [updV, upd, hq]
/-- what the tables say of a method, and its descriptor's parameters -/
def gYV (y : MethodName) (cc : ByteArray) (nL : Nat) (ret : Option FieldType) (n : Nat) : Prop := Cond.code y cc nL ret ∈ lw_tbl ∧ Cond.initialized y.cls ∈ lw_tbl ∧ (y.cls ≠ "java/lang/invoke/MethodHandle" ∧ y.cls ≠ "java/lang/invoke/VarHandle" ∧ (parseMethodDescriptor y.desc).map (fun d => d.parameters.length) = some n) ∧ Cond.instanceMethod y ∈ lw_tbl ∧ Cond.selects y.cls y y ∈ lw_tbl
def gYS (y : MethodName) (cc : ByteArray) (nL : Nat) (ret : Option FieldType) (n : Nat) : Prop := Cond.code y cc nL ret ∈ lw_tbl ∧ Cond.initialized y.cls ∈ lw_tbl ∧ (y.cls ≠ "java/lang/invoke/MethodHandle" ∧ y.cls ≠ "java/lang/invoke/VarHandle" ∧ (parseMethodDescriptor y.desc).map (fun d => d.parameters.length) = some n) ∧ Cond.static y ∈ lw_tbl
def gRc (w : WP) (ct : CT) (b : Nat) (cls : String) : Prop := ∃ (i : ID) (ci : Nat) (fs : List Value) (q : vw_C), wOk w i ∧ wAd w i = b ∧ ct i = .inr (ci, fs) ∧ vwCl[ci]? = some q ∧ q.1 = cls
theorem gB {s : State} {args : Array Value} {R : Room} {y : MethodName} {ccy : ByteArray} {nLy ny idx d' : Nat} {rety : Option FieldType} (hT : TK s) (h1 : Cond.code y ccy nLy rety ∈ lw_tbl) (h2 : Cond.initialized y.cls ∈ lw_tbl) (h3 : y.cls ≠ "java/lang/invoke/MethodHandle" ∧ y.cls ≠ "java/lang/invoke/VarHandle" ∧ (parseMethodDescriptor y.desc).map (fun d => d.parameters.length) = some ny) (hli : Cond.methodLink own idx y ∈ lw_tbl) (hR : d ≤ R.frames ∧ 40 * d ≤ R.locals) (hdd : d' + 1 ≤ d) (hnl : nLy ≤ 21) :
    CallB R s args own idx y ccy nLy rety [.code y ccy nLy rety] (gR d') 0 0 ny := by
  refine ⟨rfl, rfl, Nat.le_trans hdd hR.1, ?_, ?_, List.mem_cons_self, hT.use h1 rfl, hT.use h2 rfl, ⟨h3.1, h3.2.1⟩, fun sig h => ?_, hT.use hli rfl⟩
  · show 8 + (nLy + 11) + 40 * d' ≤ R.locals
    have := hR.2
    omega
  · intro c hc a' U hW
    rw [List.mem_singleton.mp hc]
    exact (hT.warm hW).use h1 rfl
  · have h2 := h3.2.2
    rw [h] at h2
    exact (Option.some.inj h2).symm
theorem gPc {av : List Value} {ct0 : CT} {H : Heap} {s : State} {locs : List Loc} (hK : gK w s) (hD : gD w) (hP : gP w ct0 H) (hE : wE w (gA w s.heap.size) s s.heap) (hS : va_S (gA w s.heap.size) s.heap H locs) : FrameBlind (va_Pc av (fun U => U.heap.size = H.size ∧ gK w U ∧ gP w ct0 U.heap ∧ gD w ∧ wE w (gA w H.size) U U.heap)) ∧ ∀ U : State, U.heap = H → s.WarmedH U.vm → va_Pc av (fun U => U.heap.size = H.size ∧ gK w U ∧ gP w ct0 U.heap ∧ gD w ∧ wE w (gA w H.size) U U.heap) av.toArray U :=
  ⟨fun a U g mk q => by obtain ⟨q0, q1, q2, q3, q4, q5⟩ := q; exact ⟨q0, q1, q2.same (u := U) (U := U.calling g mk a) rfl, q3, q4, hD.2.2.2.1 _ U (U.calling g mk a) _ q5 rfl⟩, fun U hU hW => ⟨rfl, by rw [hU], hK.warm hW, by rw [hU]; exact hP, hD, by
    rw [hU]
    exact hD.2.2.2.2.2 _ _ _ _ (hD.2.2.2.2.1 _ _ _ _ (hD.2.2.1 _ _ _ _ hE hW) (fun a h1 h2 => hS.2.1 a h1 h2)) (fun q h => h.elim Or.inl (fun h => Or.inr (Nat.le_trans hS.1 h)))⟩⟩
theorem g_on {v : Option Value} {ct' : CT} (C : gC w X cc own ret d nL) (k : gU w X Q ct' (pc + 3) lo (v.toList ++ st)) {stk : List Value}
    (hrun : match X with
      | (p, e, R, s, m, args, below, meth, c, n, A) => ∀ (H : Heap) (locs : List Loc) (ls : Array Slot), gP w ct H → va_S A s.heap H locs → lv_has ls n lo → ∃ a, va_Run p (wL w) e R s m args below meth c H locs Q.2.1 Q.2.2 0 0 (F0 m pc ls stk) st (gQ w v ct' (gA w H.size) a) (gA w H.size)) : gU w X Q ct pc lo stk := by
  obtain ⟨p, e, R, s, m, args, below, meth, c, n, A⟩ := X
  intro H locs ls hP hS hl
  obtain ⟨a, hr⟩ := hrun H locs ls hP hS hl
  have hA : A = gA w s.heap.size := C.2.2.2.2.2.2.2.2.2.1
  subst hA
  have hA : ∀ q, q < H.size → gA w H.size q → gA w s.heap.size q := fun q h1 h2 => h2.elim Or.inl (fun h => absurd h (Nat.not_le.mpr h1))
  have hf : ∀ q, gA w H.size q → gA w s.heap.size q := fun q h2 => h2.elim Or.inl (fun h => Or.inr (Nat.le_trans hS.1 h))
  intro T hT X9
  obtain ⟨v9, st₀, t, T', L, h0, X', hL, e1, e2, ⟨⟨hv, hp⟩, hz, hk⟩, st9⟩ := hr T hT X9
  cases hv
  rw [h0] at hz hk
  obtain ⟨t2, a1, b1⟩ := k T'.heap (locs ++ L) ls (by rw [e1]; exact hp) ⟨Nat.le_trans hS.1 (by rw [e1]; exact hz), fun q h1 h2 => by rw [e1, hk q (Nat.lt_of_lt_of_le h1 hS.1) (fun z => h2 (hA q (Nat.lt_of_lt_of_le h1 hS.1) z))]; exact hS.2.1 q h1 h2, fun q hq => by
      rcases List.mem_append.mp hq with h | h
      · exact hS.2.2 q h
      · exact hf _ (hL q h)⟩ hl T' rfl X'
  exact ⟨t2, st9 t2 a1, b1⟩
theorem r_callV (C : gC w X cc own ret d nL) {y : MethodName} {ccy : ByteArray} {nLy ny idx d' b : Nat} {rety : Option FieldType} {v : Option Value} {ct' : CT} (As : List Value) (hM : gM w d' y ccy nLy rety (.ref b :: As) ct v ct') (Y : gYV y ccy nLy rety ny) (hli : Cond.methodLink own idx y ∈ lw_tbl) (hrc : gRc w ct b y.cls) (hn : As.length = ny) (hdd : d' + 1 ≤ d) (hnl : nLy ≤ 21) (hst : (st.map fun v => v.category).sum ≤ 8) {stk : List Value} (hstk : stk = As.reverse ++ .ref b :: st) (hd : decode cc pc = .ok (.invokevirtual idx, 3)) (k : gU w X Q ct' (pc + 3) lo (v.toList ++ st)) (hq : qOk X Q := by first | exact qOk0 rfl rfl | assumption) : gU w X Q ct pc lo stk := by
  refine g_on C k ?_
  obtain ⟨p, e, R, s, m, args, below, meth, c, n, A⟩ := X
  intro H locs ls hP hS hl
  have hA0 := C.2.2.2.2.2.2.2.2.2.1
  subst hA0
  obtain ⟨i, ci, fs, q, g1, g2, g3, g4, g5⟩ := hrc
  have h1 := hP i g1
  rw [g3] at h1
  refine ⟨_, va_runV (As := As) (rest := st) (Ts := []) (own := own) ⟨C.1, C.2.1, C.2.2.1, C.2.2.2.1, fun _ h => by cases h⟩ (hM H.size) ⟨gB C.2.2.2.2.1.1 Y.1 Y.2.1 Y.2.2.1 hli C.2.2.2.2.2.2.2.2.2.2.1 hdd hnl, C.2.2.2.2.1.1.use Y.2.2.2.1 rfl, C.2.2.2.2.1.1.use Y.2.2.2.2 rfl⟩ ⟨(gPc C.2.2.2.2.1 C.2.2.2.2.2.1 hP C.2.2.2.2.2.2.2.2.2.2.2 hS).1, ?_, (gPc C.2.2.2.2.1 C.2.2.2.2.2.1 hP C.2.2.2.2.2.2.2.2.2.2.2 hS).2⟩ rfl hn ?_ hstk (lv_room hst) hd hq⟩
  · have := va_recv C.2.2.2.2.1.2 (one_P h1) (q0 := 0) g4 rfl
    rw [g2, g5] at this
    exact this
  · rw [hl.1]
    exact C.2.2.2.2.2.2.2.2.1
theorem r_callS (C : gC w X cc own ret d nL) {y : MethodName} {ccy : ByteArray} {nLy ny idx d' : Nat} {rety : Option FieldType} {v : Option Value} {ct' : CT} (As : List Value) (hM : gM w d' y ccy nLy rety As ct v ct') (Y : gYS y ccy nLy rety ny) (hli : Cond.methodLink own idx y ∈ lw_tbl) (hn : As.length = ny) (hdd : d' + 1 ≤ d) (hnl : nLy ≤ 21) (hst : (st.map fun v => v.category).sum ≤ 8) {stk : List Value} (hstk : stk = As.reverse ++ st) (hd : decode cc pc = .ok (.invokestatic idx, 3)) (k : gU w X Q ct' (pc + 3) lo (v.toList ++ st)) (hq : qOk X Q := by first | exact qOk0 rfl rfl | assumption) : gU w X Q ct pc lo stk := by
  refine g_on C k ?_
  obtain ⟨p, e, R, s, m, args, below, meth, c, n, A⟩ := X
  intro H locs ls hP hS hl
  have hA0 := C.2.2.2.2.2.2.2.2.2.1
  subst hA0
  refine ⟨_, va_runS (As := As) (rest := st) (Ts := []) (own := own) ⟨C.1, C.2.1, C.2.2.1, C.2.2.2.1, fun _ h => by cases h⟩ (hM H.size) ⟨gB C.2.2.2.2.1.1 Y.1 Y.2.1 Y.2.2.1 hli C.2.2.2.2.2.2.2.2.2.2.1 hdd hnl, C.2.2.2.2.1.1.use Y.2.2.2 rfl⟩ ⟨(gPc C.2.2.2.2.1 C.2.2.2.2.2.1 hP C.2.2.2.2.2.2.2.2.2.2.2 hS).1, (gPc C.2.2.2.2.1 C.2.2.2.2.2.1 hP C.2.2.2.2.2.2.2.2.2.2.2 hS).2⟩ rfl hn ?_ hstk (lv_room hst) hd hq⟩
  rw [hl.1]
  exact C.2.2.2.2.2.2.2.2.1
end BASE
