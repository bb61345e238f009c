/-! ===== lrows: rows of the law's own methods; contracts with room; things forgotten ===== -/
def okI {α β : Type} (x : Option (α ⊕ β)) : Option α := match x with
  | some (.inl a) => some a
  | _ => none
theorem okI_e {α β : Type} {x : Option (α ⊕ β)} {a : α} (h : okI x = some a) : x = some (.inl a) := by
  rcases x with _ | ⟨b | b⟩
  · cases h
  · cases h; rfl
  · cases h
def om {α β γ : Type} (x : Option (α ⊕ β)) (g : β → Option γ) (f : α → Option γ) : Option γ := match x with
  | none => none
  | some q => Sum.elim f g q
theorem om_e {α β γ : Type} {x : Option (α ⊕ β)} {g : β → Option γ} {f : α → Option γ} {b : γ} (h : om x g f = some b) : ∃ q, x = some q ∧ Sum.elim f g q = some b := by
  rcases x with _ | q
  · cases h
  · exact ⟨q, rfl, h⟩
section LROWS
variable {w : WP} {X : CX} {cc : ByteArray} {own : String} {ret : Option FieldType} {d nL : Nat} {Q : QT} {ct : CT} {pc : Nat} {lo : List (Nat × Value)} {st : List Value}
theorem r_ladd (C : gC w X cc own ret d nL) {x y : Int64} (hd : decode cc pc = .ok (.ladd, 1)) (k : gU w X Q ct (pc + 1) lo (.long (x + y) :: st)) : gU w X Q ct pc lo (.long y :: .long x :: st) := by
  obtain ⟨p, e, R, s, m, args, below, meth, c, n, A⟩ := X
  exact fun H locs ls hP hS hl => lv_ladd C.1 C.2.1 hd (k H locs ls hP hS hl)
theorem r_lmul (C : gC w X cc own ret d nL) {x y : Int64} (hd : decode cc pc = .ok (.lmul, 1)) (k : gU w X Q ct (pc + 1) lo (.long (x * y) :: st)) : gU w X Q ct pc lo (.long y :: .long x :: st) := by
  obtain ⟨p, e, R, s, m, args, below, meth, c, n, A⟩ := X
  exact fun H locs ls hP hS hl => lv_lmul C.1 C.2.1 hd (k H locs ls hP hS hl)
theorem r_lstore_n (C : gC w X cc own ret d nL) {i : Nat} {x : Int64} {f : Fin 4} {lo' : List (Nat × Value)} (hi : (f : Nat) = i) (hn : i + 1 < nL) (hl : (i, Value.long x) :: lo.filter (fun q => !(q.1 == i) && (!(q.1 == i + 1) && !(q.1 + 1 == i && q.2.category == 2))) = lo') (hd : decode cc pc = .ok (.lstore_n f, 1)) (k : gU w X Q ct (pc + 1) lo' st) : gU w X Q ct pc lo (.long x :: st) := by
  obtain ⟨p, e, R, s, m, args, below, meth, c, n, A⟩ := X
  exact fun H locs ls hP hS hl9 => lv_lstore_n C.1 C.2.1 hd hi hl9 (by rw [C.2.2.2.2.2.2.2.2.1]; exact hn) hl (fun ls9 h9 => k H locs ls9 hP hS h9)
theorem r_lstore (C : gC w X cc own ret d nL) {i : Nat} {x : Int64} {lo' : List (Nat × Value)} (hn : i + 1 < nL) (hl : (i, Value.long x) :: lo.filter (fun q => !(q.1 == i) && (!(q.1 == i + 1) && !(q.1 + 1 == i && q.2.category == 2))) = lo') (hd : decode cc pc = .ok (.lstore i, 2)) (k : gU w X Q ct (pc + 2) lo' st) : gU w X Q ct pc lo (.long x :: st) := by
  obtain ⟨p, e, R, s, m, args, below, meth, c, n, A⟩ := X
  exact fun H locs ls hP hS hl9 => lv_lstore C.1 C.2.1 hd hl9 (by rw [C.2.2.2.2.2.2.2.2.1]; exact hn) hl (fun ls9 h9 => k H locs ls9 hP hS h9)
theorem r_fcmp (C : gC w X cc own ret d nL) {x y : UInt32} {op : CmpOp} {v : Int32} (hv : Op.cmpValue (FP.fcmp x y) op = v) (hd : decode cc pc = .ok (.fcmp op, 1)) (kk : gU w X Q ct (pc + 1) lo (.int v :: st)) : gU w X Q ct pc lo (.float y :: .float x :: st) := by
  obtain ⟨p, e, R, s, m, args, below, meth, c, n, A⟩ := X
  subst hv
  exact fun H locs ls hP hS hl => lv_fcmp C.1 C.2.1 hd (kk H locs ls hP hS hl)
theorem r_dcmp (C : gC w X cc own ret d nL) {x y : UInt64} {op : CmpOp} {v : Int32} (hv : Op.cmpValue (FP.dcmp x y) op = v) (hd : decode cc pc = .ok (.dcmp op, 1)) (kk : gU w X Q ct (pc + 1) lo (.int v :: st)) : gU w X Q ct pc lo (.double y :: .double x :: st) := by
  obtain ⟨p, e, R, s, m, args, below, meth, c, n, A⟩ := X
  subst hv
  exact fun H locs ls hP hS hl => lv_dcmp C.1 C.2.1 hd (kk H locs ls hP hS hl)
theorem r_lreturn (C : gC w X cc own (some .long) d nL) {x : Int64} (hd : decode cc pc = .ok (.lreturn, 1)) : gV w X (some (.long x), ct) ct pc lo [.long x] := by
  obtain ⟨p, e, R, s, m, args, below, meth, c, n, A⟩ := X
  exact fun H locs ls hP hS hl => W.lret C.1 C.2.1 C.2.2.2.2.2.2.1 (fun t ht hW => ⟨⟨rfl, by rw [ht]; exact hP⟩, hS.F ht⟩) hS.2.2 hd C.2.2.2.2.2.2.2.1
/-- the things I are no longer spoken of -/
theorem r_forget {I : ID → Prop} {ad : ID → Nat} (hag : gAg w I ad) (k : gU w X Q ct pc lo st) : gU (wM w I ad) X Q ct pc lo st := by
  obtain ⟨p, e, R, s, m, args, below, meth, c, n, A⟩ := X
  intro H locs ls hP hS hl
  refine k H locs ls (fun i hi => ?_) hS hl
  have h := hP i (Or.inl hi)
  rw [← hag.1 i hi]
  exact h
/-- only what is there matters -/
theorem r_same {ct' : CT} (h : ∀ i, wOk w i → ct i = ct' i) (k : gU w X Q ct' pc lo st) : gU w X Q ct pc lo st := by
  obtain ⟨p, e, R, s, m, args, below, meth, c, n, A⟩ := X
  intro H locs ls hP hS hl
  exact k H locs ls (fun i hi => by rw [← h i hi]; exact hP i hi) hS hl
/-- the third part holds what comes and goes -/
theorem cA_up {Ω : OM} {i : ID} {e : va_E} (hi : 11 ≤ i.1) : upE (cA w Ω) i e = cA w (Ω.1, Ω.2.1, upE Ω.2.2 i e) := by
  funext z
  obtain ⟨k, j, p, a⟩ := z
  unfold upE
  by_cases h : (k, j, p, a) = i
  · subst h
    rw [if_pos rfl]
    match k, hi with
    | n + 11, _ => exact (if_pos rfl).symm
  · rw [if_neg h]
    match k, h with
    | 0, _ => rfl
    | 1, _ => rfl
    | 2, _ => rfl
    | 3, _ => rfl
    | 4, _ => rfl
    | 5, _ => rfl
    | 6, _ => rfl
    | 7, _ => rfl
    | 8, _ => rfl
    | 9, _ => rfl
    | 10, _ => rfl
    | n + 11, h => exact (if_neg h).symm
theorem cA_fr {Ω : OM} {ct : CT} (h : ∀ z : ID, z.1 < 11 → ct z = cA w Ω z) : ct = cA w (Ω.1, Ω.2.1, ct) := by
  funext z
  obtain ⟨k, j, p, a⟩ := z
  match k with
  | 0 => exact h _ (by show 0 < 11; decide)
  | 1 => exact h _ (by show 1 < 11; decide)
  | 2 => exact h _ (by show 2 < 11; decide)
  | 3 => exact h _ (by show 3 < 11; decide)
  | 4 => exact h _ (by show 4 < 11; decide)
  | 5 => exact h _ (by show 5 < 11; decide)
  | 6 => exact h _ (by show 6 < 11; decide)
  | 7 => exact h _ (by show 7 < 11; decide)
  | 8 => exact h _ (by show 8 < 11; decide)
  | 9 => exact h _ (by show 9 < 11; decide)
  | 10 => exact h _ (by show 10 < 11; decide)
  | n + 11 => rfl
theorem cA_m {Ω : OM} {z : ID} (h : 11 ≤ z.1) : cA w Ω z = Ω.2.2 z := by
  obtain ⟨k, j, p, a⟩ := z
  match k, h with
  | n + 11, _ => rfl
/-- a contract of a method that may make things and forgets them: c cells, n slots may be made -/
def gMg (w : WP) (d : Nat) (y : MethodName) (cc : ByteArray) (nL : Nat) (ret : Option FieldType) (av : List Value) (ct : CT) (v : Option Value) (ct' : CT) (mc ms : Nat) : Prop :=
  ∀ sz, Met (wL w) y [.code y cc nL ret] { frames := d, cells := mc, slots := ms, locals := 40 * d } (va_Pc av (fun U => U.heap.size = sz ∧ gK w U ∧ gP w ct U.heap ∧ gD w ∧ wE w (gA w sz) U U.heap)) (gQ w v ct' (gA w sz)) mc ms (gA w sz)
theorem gM.g {y : MethodName} {cc : ByteArray} {av : List Value} {v : Option Value} {ct' : CT} (h : gM w d y cc nL ret av ct v ct') : gMg w d y cc nL ret av ct v ct' 0 0 := h
def qH1 (w : WP) (X : CX) (r : Option Value × CT) (mc ms : Nat) : State → Prop := match X with
  | (p, e, R, s, m, args, below, meth, c, n, A) => MQ below (gQ w r.1 r.2 A) args s mc ms A
/-- room -/
def gTg (X : CX) (mc ms : Nat) : Prop := match X with
  | (p, e, R, s, m, args, below, meth, c, n, A) => mc ≤ R.cells ∧ ms ≤ R.slots
theorem gTg.q {mc ms a b : Nat} {F : State → Prop} (h : gTg X mc ms) (h1 : a ≤ mc) (h2 : b ≤ ms) : qOk X (F, a, b) := by
  obtain ⟨p, e, R, s, m, args, below, meth, c, n, A⟩ := X
  exact ⟨Nat.le_trans h1 h.1, Nat.le_trans h2 h.2⟩
theorem gMg_of {y : MethodName} {av : List Value} {v : Option Value} {ct' : CT} {mc ms : Nat} (own : String) (hown : y.cls = own) (hy : plainName y.cls = true) (hn : (lg_sl av).length ≤ nL)
    (body : ∀ X : CX, gC w X cc own ret d nL → gTg X mc ms → gU w X (qH1 w X (v, ct') mc ms, 0, 0) ct 0 (lv_args 0 av) []) : gMg w d y cc nL ret av ct v ct' mc ms := by
  intro sz
  refine Met.ofW (cc := cc) (maxL := nL) (ret := ret) hy rfl ?_
  intro p e s m args below meth c s₁ B hml hv
  obtain ⟨rfl, hsz, hK, hP, hD, hE⟩ := hv
  subst hsz
  subst hown
  have hl := lv_entry av (n := nL) hn
  have hown : s.vm.findClass y.cls = some m.cls := findClass_of_methodNamed B.named
  have hb := body (p, e, { frames := d, cells := mc, slots := ms, locals := 40 * d }, s, m, av.toArray, below, meth, c, nL, gA w s.heap.size) ⟨B.exec, B.bytes, hml, hown, hK, hD, B.returns, B.notSynchronized, rfl, rfl, ⟨Nat.le_refl _, Nat.le_refl _⟩, hE⟩ ⟨Nat.le_refl _, Nat.le_refl _⟩ s.heap [] _ hP va_S.rf hl
  rw [lg_entry_eq]
  exact hb
theorem r_hreturn (C : gC w X cc own (some .int) d nL) {x : Int32} {mc ms : Nat} (hd : decode cc pc = .ok (.ireturn, 1)) : gU w X (qH1 w X (some (.int x), ct) mc ms, mc, ms) ct pc lo [.int x] := by
  obtain ⟨p, e, R, s, m, args, below, meth, c, n, A⟩ := X
  exact fun H locs ls hP hS hl => W.iret C.1 C.2.1 C.2.2.2.2.2.2.1 (fun t ht hW => ⟨⟨rfl, by rw [ht]; exact hP⟩, hS.F ht⟩) hS.2.2 hd C.2.2.2.2.2.2.2.1
theorem r_hzreturn (C : gC w X cc own (some .boolean) d nL) {x : Int32} (b : Bool) (hb : x = b2i b) {mc ms : Nat} (hd : decode cc pc = .ok (.ireturn, 1)) : gU w X (qH1 w X (some (.int (b2i b)), ct) mc ms, mc, ms) ct pc lo [.int x] := by
  obtain ⟨p, e, R, s, m, args, below, meth, c, n, A⟩ := X
  subst hb
  exact fun H locs ls hP hS hl => W.zret C.1 C.2.1 C.2.2.2.2.2.2.1 (by cases b <;> rfl) (fun t ht hW => ⟨⟨rfl, by rw [ht]; exact hP⟩, hS.F ht⟩) hS.2.2 hd C.2.2.2.2.2.2.2.1
theorem r_hvreturn (C : gC w X cc own none d nL) {mc ms : Nat} (hd : decode cc pc = .ok (.return_, 1)) : gU w X (qH1 w X (none, ct) mc ms, mc, ms) ct pc lo [] := by
  obtain ⟨p, e, R, s, m, args, below, meth, c, n, A⟩ := X
  exact fun H locs ls hP hS hl => W.vret C.1 C.2.1 C.2.2.2.2.2.2.1 (fun t ht hW => ⟨⟨rfl, by rw [ht]; exact hP⟩, hS.F ht⟩) hS.2.2 hd C.2.2.2.2.2.2.2.1
/-- behind a call of a method with room -/
theorem gg_on {v : Option Value} {ct' : CT} {mc ms : Nat} (C : gC w X cc own ret d nL) {stk : List Value}
    (k : gU w X (Q.1, Q.2.1 + mc, Q.2.2 + ms) ct' (pc + 3) lo (v.toList ++ st))
    (hrun : match X with
      | (p, e, R, s, m, args, below, meth, c, n, A) => ∀ (H : Heap) (locs : List Loc) (ls : Array Slot), gP w ct H → va_S A s.heap H locs → lv_has ls n lo → ∃ a, va_Run p (wL w) e R s m args below meth c H locs Q.2.1 Q.2.2 mc ms (F0 m pc ls stk) st (gQ w v ct' (gA w H.size) a) (gA w H.size)) : gU w X Q ct pc lo stk := by
  obtain ⟨p, e, R, s, m, args, below, meth, c, n, A⟩ := X
  intro H locs ls hP hS hl
  obtain ⟨a, hr⟩ := hrun H locs ls hP hS hl
  have hA : A = gA w s.heap.size := C.2.2.2.2.2.2.2.2.2.1
  subst hA
  have hA9 : ∀ q, q < H.size → gA w H.size q → gA w s.heap.size q := fun q h1 h2 => h2.elim Or.inl (fun h => absurd h (Nat.not_le.mpr h1))
  have hf : ∀ q, gA w H.size q → gA w s.heap.size q := fun q h2 => h2.elim Or.inl (fun h => Or.inr (Nat.le_trans hS.1 h))
  intro T hT X9
  obtain ⟨v9, st₀, t, T', L, h0, X', hL, e1, e2, ⟨⟨hv, hp⟩, hz, hk⟩, st9⟩ := hr T hT X9
  cases hv
  rw [h0] at hz hk
  obtain ⟨t2, a1, b1⟩ := k T'.heap (locs ++ L) ls (by rw [e1]; exact hp) ⟨Nat.le_trans hS.1 (by rw [e1]; exact hz), fun q h1 h2 => by rw [e1, hk q (Nat.lt_of_lt_of_le h1 hS.1) (fun z => h2 (hA9 q (Nat.lt_of_lt_of_le h1 hS.1) z))]; exact hS.2.1 q h1 h2, fun q hq => by
      rcases List.mem_append.mp hq with h | h
      · exact hS.2.2 q h
      · exact hf _ (hL q h)⟩ hl T' rfl X'
  exact ⟨t2, st9 t2 a1, b1⟩
theorem r_ggS (C : gC w X cc own ret d nL) {y : MethodName} {ccy : ByteArray} {nLy ny idx d' mc ms : Nat} {rety : Option FieldType} {v : Option Value} {ct' : CT} (As : List Value) (hM : gMg w d' y ccy nLy rety As ct v ct' mc ms) (Y : gYS y ccy nLy rety ny) (hli : Cond.methodLink own idx y ∈ lw_tbl) (hn : As.length = ny) (hdd : d' + 1 ≤ d) (hnl : nLy ≤ 21) (hst : (st.map fun v => v.category).sum ≤ 8) {stk : List Value} (hstk : stk = As.reverse ++ st) (hd : decode cc pc = .ok (.invokestatic idx, 3)) (hq : qOk X (Q.1, Q.2.1 + mc, Q.2.2 + ms))
    (k : gU w X (Q.1, Q.2.1 + mc, Q.2.2 + ms) ct' (pc + 3) lo (v.toList ++ st)) : gU w X Q ct pc lo stk := by
  refine gg_on C k ?_
  obtain ⟨p, e, R, s, m, args, below, meth, c, n, A⟩ := X
  intro H locs ls hP hS hl
  have hA0 := C.2.2.2.2.2.2.2.2.2.1
  subst hA0
  refine ⟨_, va_runS (As := As) (rest := st) (Ts := []) (own := own) ⟨C.1, C.2.1, C.2.2.1, C.2.2.2.1, fun _ h => by cases h⟩ (hM H.size) ⟨gBe C.2.2.2.2.1.1 Y.1 Y.2.1 Y.2.2.1 hli C.2.2.2.2.2.2.2.2.2.2.1 hdd hnl, C.2.2.2.2.1.1.use Y.2.2.2 rfl⟩ ⟨(gPc C.2.2.2.2.1 C.2.2.2.2.2.1 hP C.2.2.2.2.2.2.2.2.2.2.2 hS).1, (gPc C.2.2.2.2.1 C.2.2.2.2.2.1 hP C.2.2.2.2.2.2.2.2.2.2.2 hS).2⟩ rfl hn ?_ hstk (lv_room hst) hd hq⟩
  rw [hl.1]
  exact C.2.2.2.2.2.2.2.2.1
end LROWS
