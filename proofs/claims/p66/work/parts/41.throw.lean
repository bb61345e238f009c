/-! ===== throw: methods that throw ===== -/
theorem xw3_0 : Cond.superclass "java/lang/Throwable" "java/lang/Object" ∈ lw_tbl := in_t3 (List.mem_of_getElem? (i := 0) rfl)
theorem xw3_13 : Cond.codeSync ({ cls := "java/lang/Throwable", name := "fillInStackTrace", desc := "()Ljava/lang/Throwable;" } : Jvm.MethodName) prog_28_method_18_code 1 (Option.some (Jvm.ClassFile.FieldType.object "java/lang/Throwable")) ∈ lw_tbl := in_t3 (List.mem_of_getElem? (i := 13) rfl)
theorem xw2_224 : Cond.declares ({ cls := "java/lang/Exception", name := "<init>", desc := "(Ljava/lang/String;)V" } : Jvm.MethodName) ∈ lw_tbl := in_t2 (List.mem_of_getElem? (i := 224) rfl)
theorem xw2_226 : Cond.declares ({ cls := "java/lang/Throwable", name := "<init>", desc := "(Ljava/lang/String;)V" } : Jvm.MethodName) ∈ lw_tbl := in_t2 (List.mem_of_getElem? (i := 226) rfl)
theorem xw2_222 : Cond.declares ({ cls := "java/lang/RuntimeException", name := "<init>", desc := "(Ljava/lang/String;)V" } : Jvm.MethodName) ∈ lw_tbl := in_t2 (List.mem_of_getElem? (i := 222) rfl)
theorem xfa {P : Cond → Prop} {a : Cond} {l : List Cond} (h : P a) (t : ∀ c ∈ l, P c) : ∀ c ∈ a :: l, P c := fun c hc => (List.mem_cons.mp hc).elim (fun e => by rw [e]; exact h) (t c)
theorem xap {P : Cond → Prop} {a l : List Cond} (h : ∀ c ∈ a, P c) (t : ∀ c ∈ l, P c) : ∀ c ∈ a ++ l, P c := fun c hc => (List.mem_append.mp hc).elim (h c) (t c)
theorem xnil {P : Cond → Prop} : ∀ c ∈ ([] : List Cond), P c := fun _ h => nomatch h
def xP (c : Cond) : Prop := vx_no c = true → c ∈ lw_tbl ∧ tkw c = true
theorem xT : ∀ c ∈ Bundle.throwableAtoms, xP c := xfa (fun _ => ⟨wm1_20, rfl⟩) <| xfa (fun _ => ⟨xw3_0, rfl⟩) <| xfa (fun _ => ⟨wm3_9, rfl⟩) <| xfa (fun _ => ⟨xw3_13, rfl⟩) <| xfa (fun _ => ⟨wm3_16, rfl⟩) <| xfa (fun _ => ⟨wm3_18, rfl⟩) <| xfa (fun _ => ⟨wm3_1, rfl⟩) <| xfa (fun _ => ⟨wm3_2, rfl⟩) <| xfa (fun _ => ⟨wm1_33, rfl⟩) <| xfa (fun _ => ⟨wm1_34, rfl⟩) <| xfa (fun _ => ⟨wm3_3, rfl⟩) <| xfa (fun _ => ⟨wm3_8, rfl⟩) <| xfa (fun _ => ⟨wm3_14, rfl⟩) <| xfa (fun _ => ⟨wm3_34, rfl⟩) <| xfa (fun _ => ⟨wm2_230, rfl⟩) <| xfa (fun _ => ⟨wm3_35, rfl⟩) <| xfa (fun _ => ⟨wm2_232, rfl⟩) <| xfa (fun _ => ⟨wm3_36, rfl⟩) <| xfa (fun _ => ⟨wm2_234, rfl⟩) <| xfa (fun _ => ⟨wm3_4, rfl⟩) <| xfa (fun h => absurd h (by decide +kernel)) <| xfa (fun _ => ⟨wm3_6, rfl⟩) <| xfa (fun h => absurd h (by decide +kernel)) <| xfa (fun _ => ⟨wm2_236, rfl⟩) <| xnil
theorem xTS : ∀ c ∈ Bundle.throwableSAtoms, xP c := xfa (fun _ => ⟨wm3_30, rfl⟩) <| xfa (fun _ => ⟨wm3_31, rfl⟩) <| xfa (fun _ => ⟨wm3_33, rfl⟩) <| xfa (fun _ => ⟨wm2_236, rfl⟩) <| xnil
theorem xRE : ∀ c ∈ Bundle.chainSAtoms "java/lang/RuntimeException" ["java/lang/Exception"], xP c := xap (xfa (fun _ => ⟨wm3_24, rfl⟩) <| xfa (fun _ => ⟨wm3_25, rfl⟩) <| xfa (fun _ => ⟨wm3_26, rfl⟩) <| xfa (fun _ => ⟨wm3_27, rfl⟩) <| xfa (fun _ => ⟨xw2_224, rfl⟩) <| xnil) (xfa (fun _ => ⟨wm3_27, rfl⟩) <| xfa (fun _ => ⟨wm3_28, rfl⟩) <| xfa (fun _ => ⟨wm3_29, rfl⟩) <| xfa (fun _ => ⟨wm3_30, rfl⟩) <| xfa (fun _ => ⟨xw2_226, rfl⟩) <| xnil)
def xN (k : Nat) : String := match k with
  | 1 => "java/lang/IllegalStateException"
  | 2 => "java/lang/IllegalArgumentException"
  | _ => "java/lang/IndexOutOfBoundsException"
def xNm : List String := ["java/lang/RuntimeException", "java/lang/Exception"]
theorem xO1 : ∀ c ∈ vx_atS "HedgeMessages" 82 "java/lang/IllegalStateException" xNm, c ∈ lw_tbl ∧ tkw c = true := fun c hc => (xap (xap (xap xT xTS) (xap (xfa (fun _ => ⟨wm3_21, rfl⟩) <| xfa (fun _ => ⟨wm3_22, rfl⟩) <| xfa (fun _ => ⟨wm3_23, rfl⟩) <| xfa (fun _ => ⟨wm3_24, rfl⟩) <| xfa (fun _ => ⟨xw2_222, rfl⟩) <| xnil) xRE)) (xfa (fun _ => ⟨wm3_20, rfl⟩) <| xfa (fun _ => ⟨wm2_219, rfl⟩) <| xfa (fun _ => ⟨wm2_220, rfl⟩) <| xfa (fun _ => ⟨wm2_227, rfl⟩) <| xfa (fun _ => ⟨wm2_228, rfl⟩) <| xfa (fun _ => ⟨wm2_229, rfl⟩) <| xfa (fun _ => ⟨wm2_231, rfl⟩) <| xfa (fun _ => ⟨wm2_233, rfl⟩) <| xfa (fun _ => ⟨wm2_235, rfl⟩) <| xfa (fun h => absurd h (by decide +kernel)) <| xfa (fun h => absurd h (by decide +kernel)) <| xfa (fun _ => ⟨wm2_239, rfl⟩) <| xfa (fun _ => ⟨wm2_238, rfl⟩) <| xfa (fun _ => ⟨wm2_237, rfl⟩) <| xnil) : ∀ c ∈ Bundle.ownAtoms "HedgeMessages" 82 "java/lang/IllegalStateException" xNm, xP c) c (List.mem_filter.mp hc).1 (List.mem_filter.mp hc).2
theorem xK1 : Cond.classLink "HedgeMessages" 78 "java/lang/IllegalStateException" ∈ lw_tbl := wm2_218
theorem xI1 : Cond.initialized "java/lang/IllegalStateException" ∈ lw_tbl := wm1_24
theorem xO2 : ∀ c ∈ vx_atS "HedgeMessages" 92 "java/lang/IllegalArgumentException" xNm, c ∈ lw_tbl ∧ tkw c = true := fun c hc => (xap (xap (xap xT xTS) (xap (xfa (fun _ => ⟨wm3_89, rfl⟩) <| xfa (fun _ => ⟨wm3_90, rfl⟩) <| xfa (fun _ => ⟨wm3_91, rfl⟩) <| xfa (fun _ => ⟨wm3_24, rfl⟩) <| xfa (fun _ => ⟨xw2_222, rfl⟩) <| xnil) xRE)) (xfa (fun _ => ⟨wm3_88, rfl⟩) <| xfa (fun _ => ⟨wm3_79, rfl⟩) <| xfa (fun _ => ⟨wm3_80, rfl⟩) <| xfa (fun _ => ⟨wm3_81, rfl⟩) <| xfa (fun _ => ⟨wm3_11, rfl⟩) <| xfa (fun _ => ⟨wm3_82, rfl⟩) <| xfa (fun _ => ⟨wm3_83, rfl⟩) <| xfa (fun _ => ⟨wm3_84, rfl⟩) <| xfa (fun _ => ⟨wm3_85, rfl⟩) <| xfa (fun h => absurd h (by decide +kernel)) <| xfa (fun h => absurd h (by decide +kernel)) <| xfa (fun _ => ⟨wm2_239, rfl⟩) <| xfa (fun _ => ⟨wm2_238, rfl⟩) <| xfa (fun _ => ⟨wm3_86, rfl⟩) <| xnil) : ∀ c ∈ Bundle.ownAtoms "HedgeMessages" 92 "java/lang/IllegalArgumentException" xNm, xP c) c (List.mem_filter.mp hc).1 (List.mem_filter.mp hc).2
theorem xK2 : Cond.classLink "HedgeMessages" 88 "java/lang/IllegalArgumentException" ∈ lw_tbl := wm3_78
theorem xI2 : Cond.initialized "java/lang/IllegalArgumentException" ∈ lw_tbl := wm1_23
theorem xO3 : ∀ c ∈ vx_atS "HedgeMessages" 361 "java/lang/IndexOutOfBoundsException" xNm, c ∈ lw_tbl ∧ tkw c = true := fun c hc => (xap (xap (xap xT xTS) (xap (xfa (fun _ => ⟨wm3_221, rfl⟩) <| xfa (fun _ => ⟨wm3_222, rfl⟩) <| xfa (fun _ => ⟨wm3_223, rfl⟩) <| xfa (fun _ => ⟨wm3_24, rfl⟩) <| xfa (fun _ => ⟨xw2_222, rfl⟩) <| xnil) xRE)) (xfa (fun _ => ⟨wm3_220, rfl⟩) <| xfa (fun _ => ⟨wm3_211, rfl⟩) <| xfa (fun _ => ⟨wm3_212, rfl⟩) <| xfa (fun _ => ⟨wm3_213, rfl⟩) <| xfa (fun _ => ⟨wm3_12, rfl⟩) <| xfa (fun _ => ⟨wm3_214, rfl⟩) <| xfa (fun _ => ⟨wm3_215, rfl⟩) <| xfa (fun _ => ⟨wm3_216, rfl⟩) <| xfa (fun _ => ⟨wm3_217, rfl⟩) <| xfa (fun h => absurd h (by decide +kernel)) <| xfa (fun h => absurd h (by decide +kernel)) <| xfa (fun _ => ⟨wm2_239, rfl⟩) <| xfa (fun _ => ⟨wm2_238, rfl⟩) <| xfa (fun _ => ⟨wm3_218, rfl⟩) <| xnil) : ∀ c ∈ Bundle.ownAtoms "HedgeMessages" 361 "java/lang/IndexOutOfBoundsException" xNm, xP c) c (List.mem_filter.mp hc).1 (List.mem_filter.mp hc).2
theorem xK3 : Cond.classLink "HedgeMessages" 357 "java/lang/IndexOutOfBoundsException" ∈ lw_tbl := wm3_210
theorem xI3 : Cond.initialized "java/lang/IndexOutOfBoundsException" ∈ lw_tbl := wm1_26

def EXx (w : WP) (A : Nat → Prop) (U : State) (H : Heap) : Prop :=
  vx_Zq Bundle.tN "UNASSIGNED_STACK" Bundle.steD A U H ∧ vx_Zq Bundle.tN "SUPPRESSED_SENTINEL" Bundle.listD A U H ∧ va_Nc (xN 1) (xN 2) U ∧ va_Nc (xN 1) (xN 3) U ∧ va_Nc (xN 2) (xN 3) U ∧ va_Nc (xN 3) (xN 2) U
def gZ (w : WP) : Prop := (wL w).stackTraces = false ∧ ∀ A U H, wE w A U H → EXx w A U H
def gXC (w : WP) (E : String) (ct' : CT) (A : Nat → Prop) : String → State → State → Prop := fun E' st t => E' = E ∧ gP w ct' t.heap ∧ va_F A st t
/-- the end by a throw -/
def qX1 (w : WP) (X : CX) (r : String × CT) : State → Prop := match X with
  | (p, e, R, s, m, args, below, meth, c, n, A) => vx_MQ below (fun _ _ _ _ => False) (gXC w r.1 r.2 A) args s 1 6 A
def qX (w : WP) (X : CX) (r : String × CT) : QT := (qX1 w X r, 0, 0)
abbrev gRx (d : Nat) : Room := { frames := d, cells := 1, slots := 6, locals := 40 * d }
/-- a contract: with these arguments the method throws E and leaves the world ct' -/
def gMx (w : WP) (d : Nat) (y : MethodName) (cc : ByteArray) (nL : Nat) (ret : Option FieldType) (av : List Value) (ct : CT) (E : String) (ct' : CT) : Prop :=
  ∀ sz, vx_Met (wL w) y [.code y cc nL ret] (gRx d) (va_Pc av (fun U => U.heap.size = sz ∧ gK w U ∧ gP w ct U.heap ∧ gD w ∧ wE w (gA w sz) U U.heap)) (fun _ _ _ _ => False) (gXC w E ct' (gA w sz)) 1 6 (gA w sz)
/-- there is room for a throw, and nothing is caught here -/
def gT (X : CX) : Prop := match X with
  | (p, e, R, s, m, args, below, meth, c, n, A) => 1 ≤ R.cells ∧ 6 ≤ R.slots ∧ ∀ x ∈ c.exceptionTable.toList, False
theorem gMx_of {w : WP} {d : Nat} {y : MethodName} {cc : ByteArray} {nL : Nat} {ret : Option FieldType} {av : List Value} {ct : CT} {E : String} {ct' : CT} (own : String) (hown : y.cls = own) (hy : plainName y.cls = true) (hn : (lg_sl av).length ≤ nL)
    (body : ∀ X : CX, gC w X cc own ret d nL → gT X → gU w X (qX w X (E, ct')) ct 0 (lv_args 0 av) []) : gMx w d y cc nL ret av ct E ct' := by
  intro sz
  refine vx_ofW (cc := cc) (maxL := nL) (ret := ret) hy rfl ?_
  intro p e s m args below meth c s₁ B hml ht hv
  obtain ⟨rfl, hsz, hK, hP, hD, hE⟩ := hv
  subst hsz
  subst hown
  have hl := lv_entry av (n := nL) hn
  have hown : s.vm.findClass y.cls = some m.cls := findClass_of_methodNamed B.named
  have hb := body (p, e, gRx d, s, m, av.toArray, below, meth, c, nL, gA w s.heap.size) ⟨B.exec, B.bytes, hml, hown, hK, hD, B.returns, B.notSynchronized, rfl, rfl, ⟨Nat.le_refl _, Nat.le_refl _⟩, hE⟩ ⟨Nat.le_refl _, Nat.le_refl _, ht⟩ s.heap [] _ hP va_S.rf hl
  rw [lg_entry_eq]
  exact hb
def ox {α β : Type} (x : Option (α ⊕ Nat)) (g : Nat → Option β) (f : α → Option β) : Option β := match x with
  | some (.inl v) => f v
  | some (.inr k) => g k
  | none => none
theorem ox_e {α β : Type} {x : Option (α ⊕ Nat)} {g : Nat → Option β} {f : α → Option β} {r : β} (h : ox x g f = some r) : (∃ v, x = some (.inl v) ∧ f v = some r) ∨ ∃ k, x = some (.inr k) ∧ g k = some r := by
  unfold ox at h
  split at h
  · exact Or.inl ⟨_, rfl, h⟩
  · exact Or.inr ⟨_, rfl, h⟩
  · cases h
theorem gP_far {w : WP} {ct : CT} {H H1 : Heap} (hP : gP w ct H) (h : ∀ q : Nat, q < H.size → H1[q]? = H[q]?) : gP w ct H1 := fun i hi => (hP i hi).kept (h _ (hP i hi).lt)
section THROW
variable {w : WP} {X : CX} {cc : ByteArray} {own : String} {ret : Option FieldType} {d nL : Nat} {Q : QT} {ct : CT} {pc : Nat} {lo : List (Nat × Value)} {st : List Value}
theorem xgood {L : List Cond} {a b : Cond} (h1 : a ∈ lw_tbl) (h2 : tkw a = true) (h3 : b ∈ lw_tbl) (h4 : tkw b = true) (h : ∀ c ∈ L, c ∈ lw_tbl ∧ tkw c = true) : ∀ c ∈ a :: b :: L, vx_ot c = true := by
  have key : ∀ c : Cond, tkw c = true → vx_ot c = true := fun c hc => by
    unfold tkw at hc
    simp only [Bool.and_eq_true] at hc
    unfold vx_ot
    rw [hc.1]
    rfl
  exact xfa (key _ h2) (xfa (key _ h4) fun c hc => key c (h c hc).2)
theorem x_throwSW (C : gC w X cc own ret d nL) (hZ : gZ w) (hT9 : gT X) {ik is ic sa : Nat} {E tx : String} (hE9 : Bundle.fit E = true) (hk : Cond.classLink own ik E ∈ lw_tbl) (hki : tkw (Cond.classLink own ik E) = true) (hini : Cond.initialized E ∈ lw_tbl) (hat : ∀ c ∈ vx_atS own ic E xNm, c ∈ lw_tbl ∧ tkw c = true) (hstr : gX w X (fun _ U _ => vk_R own is tx sa U)) (hdd : 6 ≤ d) (hst : (st.map fun v => v.category).sum ≤ 8)
    (d0 : decode cc pc = .ok (.new ik, 3)) (d3 : decode cc (pc + 3) = .ok (.dup, 1)) (d4 : decode cc (pc + 4) = .ok (.ldc_w is, 3)) (d7 : decode cc (pc + 7) = .ok (.invokespecial ic, 3)) (d10 : decode cc (pc + 10) = .ok (.athrow, 1)) : gU w X (qX w X (E, ct)) ct pc lo st := by
  obtain ⟨p, e, R, s, m, args, below, meth, c, n, A⟩ := X
  intro H locs ls hP hS hl
  have hA : A = gA w s.heap.size := C.2.2.2.2.2.2.2.2.2.1
  subst hA
  have hR := C.2.2.2.2.2.2.2.2.2.2.1
  have hx := hZ.2 _ _ _ C.2.2.2.2.2.2.2.2.2.2.2
  exact vx_throwSW C.1 C.2.1 hZ.1 (names := xNm) C.2.2.2.1 hE9 (by decide +kernel) (C.2.2.2.2.1.1.use hk hki) (C.2.2.2.2.1.1.use hini rfl) hstr (fun c hc => C.2.2.2.2.1.1.use (hat c hc).1 (hat c hc).2) (xgood hk hki hini rfl hat) hx.1 hx.2.1 hS (by rw [hl.1, C.2.2.1]; exact C.2.2.2.2.2.2.2.2.1) d0 d3 d4 d7 d10 (fun x hx => (hT9.2.2 x hx).elim) (by have := hR.1; show 2 + 3 < R.frames; omega) (by have := hR.2; show _ + (13 * (2 + 1) + 43) ≤ R.locals; omega) hT9.1 hT9.2.1 C.2.2.2.2.2.2.2.1
    (fun t _ h2 h3 => ⟨rfl, gP_far hP h3, Nat.le_trans hS.1 h2, fun q hq hA => by rw [h3 q (Nat.lt_of_lt_of_le hq hS.1)]; exact hS.2.1 q hq hA⟩) hS.2.2 (Nat.le_refl _) (Nat.le_refl _)
theorem x_throwS (C : gC w X cc own ret d nL) (hZ : gZ w) (hT9 : gT X) {ik is ic sa : Nat} {E tx : String} (hE9 : Bundle.fit E = true) (hk : Cond.classLink own ik E ∈ lw_tbl) (hki : tkw (Cond.classLink own ik E) = true) (hini : Cond.initialized E ∈ lw_tbl) (hat : ∀ c ∈ vx_atS own ic E xNm, c ∈ lw_tbl ∧ tkw c = true) (hstr : gX w X (fun _ U _ => vk_R own is tx sa U)) (hdd : 6 ≤ d) (hst : (st.map fun v => v.category).sum ≤ 8)
    (d0 : decode cc pc = .ok (.new ik, 3)) (d3 : decode cc (pc + 3) = .ok (.dup, 1)) (d4 : decode cc (pc + 4) = .ok (.ldc is, 2)) (d6 : decode cc (pc + 6) = .ok (.invokespecial ic, 3)) (d9 : decode cc (pc + 9) = .ok (.athrow, 1)) : gU w X (qX w X (E, ct)) ct pc lo st := by
  obtain ⟨p, e, R, s, m, args, below, meth, c, n, A⟩ := X
  intro H locs ls hP hS hl
  have hA : A = gA w s.heap.size := C.2.2.2.2.2.2.2.2.2.1
  subst hA
  have hR := C.2.2.2.2.2.2.2.2.2.2.1
  have hx := hZ.2 _ _ _ C.2.2.2.2.2.2.2.2.2.2.2
  exact vx_throwS C.1 C.2.1 hZ.1 (names := xNm) C.2.2.2.1 hE9 (by decide +kernel) (C.2.2.2.2.1.1.use hk hki) (C.2.2.2.2.1.1.use hini rfl) hstr (fun c hc => C.2.2.2.2.1.1.use (hat c hc).1 (hat c hc).2) (xgood hk hki hini rfl hat) hx.1 hx.2.1 hS (by rw [hl.1, C.2.2.1]; exact C.2.2.2.2.2.2.2.2.1) d0 d3 d4 d6 d9 (fun x hx => (hT9.2.2 x hx).elim) (by have := hR.1; show 2 + 3 < R.frames; omega) (by have := hR.2; show _ + (13 * (2 + 1) + 43) ≤ R.locals; omega) hT9.1 hT9.2.1 C.2.2.2.2.2.2.2.1
    (fun t _ h2 h3 => ⟨rfl, gP_far hP h3, Nat.le_trans hS.1 h2, fun q hq hA => by rw [h3 q (Nat.lt_of_lt_of_le hq hS.1)]; exact hS.2.1 q hq hA⟩) hS.2.2 (Nat.le_refl _) (Nat.le_refl _)
theorem gBx {s : State} {args : Array Value} {R : Room} {y : MethodName} {ccy : ByteArray} {nLy ny idx d' : Nat} {rety : Option FieldType} (hT : TK s) (h1 : Cond.code y ccy nLy rety ∈ lw_tbl) (h2 : Cond.initialized y.cls ∈ lw_tbl) (h3 : y.cls ≠ "java/lang/invoke/MethodHandle" ∧ y.cls ≠ "java/lang/invoke/VarHandle" ∧ (parseMethodDescriptor y.desc).map (fun d => d.parameters.length) = some ny) (hli : Cond.methodLink own idx y ∈ lw_tbl) (hR : d ≤ R.frames ∧ 40 * d ≤ R.locals) (hdd : d' + 1 ≤ d) (hnl : nLy ≤ 21) :
    CallB R s args own idx y ccy nLy rety [.code y ccy nLy rety] (gRx d') 1 6 ny := by
  refine ⟨rfl, rfl, Nat.le_trans hdd hR.1, ?_, ?_, List.mem_cons_self, hT.use h1 rfl, hT.use h2 rfl, ⟨h3.1, h3.2.1⟩, fun sig h => ?_, hT.use hli rfl⟩
  · show 8 + (nLy + 11) + 40 * d' ≤ R.locals
    have := hR.2
    omega
  · intro c hc a' U hW
    rw [List.mem_singleton.mp hc]
    exact (hT.warm hW).use h1 rfl
  · have h2 := h3.2.2
    rw [h] at h2
    exact (Option.some.inj h2).symm
/-- a call that throws, and nothing is caught here -/
theorem x_on {E : String} {ct' : CT} (C : gC w X cc own ret d nL) (hT9 : gT X) {stk : List Value}
    (hrun : match X with
      | (p, e, R, s, m, args, below, meth, c, n, A) => ∀ (H : Heap) (locs : List Loc) (ls : Array Slot), gP w ct H → va_S A s.heap H locs → lv_has ls n lo → vx_Run p (wL w) e R s m args below meth c H locs 0 0 1 6 (F0 m pc ls stk) st (fun _ _ _ => False) (gXC w E ct' (gA w H.size)) (gA w H.size)) : gU w X (qX w X (E, ct')) ct pc lo stk := by
  obtain ⟨p, e, R, s, m, args, below, meth, c, n, A⟩ := X
  intro H locs ls hP hS hl T hT X9
  have hA : A = gA w s.heap.size := C.2.2.2.2.2.2.2.2.2.1
  subst hA
  rcases hrun H locs ls hP hS hl T hT X9 with ⟨v, st₀, t, T', L, h0, X', hL, e1, e2, hF, st9⟩ | ⟨q, st₀, t, T', L, E', ce, h0, X', hL, e1, e2, ⟨hE, hp, hz, hk⟩, hce, hcv, hcl, st9⟩
  · exact hF.elim
  · subst hE
    rw [h0] at hz hk
    have hf : ∀ q, gA w H.size q → gA w s.heap.size q := fun q h2 => h2.elim Or.inl (fun h => Or.inr (Nat.le_trans hS.1 h))
    obtain ⟨t2, a1, b1⟩ := vx_out (p := p) (l := wL w) (e := e) (R := R) (args := args) (Qc := fun _ _ _ _ => False) (XC := gXC w E' ct' (gA w s.heap.size)) (free := gA w s.heap.size) (pc := pc) (ls := ls) (rest := st) (H := T'.heap) (locs := locs ++ L) (cells := 0 + 1) (slots := 0 + 6) (mc := 1) (ms := 6) (fun x hx => (hT9.2.2 x hx).elim) C.2.2.2.2.2.2.2.1 (by rw [e1]; exact hce) hcv hcl
      (fun t9 h9 _ => ⟨rfl, by rw [h9, e1]; exact hp, by rw [h9, e1]; exact Nat.le_trans hS.1 hz, fun q h1 h2 => by rw [h9, e1, hk q (Nat.lt_of_lt_of_le h1 hS.1) (fun z => h2 (hf q z))]; exact hS.2.1 q h1 h2⟩)
      (fun z hz => (List.mem_append.mp hz).elim (hS.2.2 z) (fun h => hf _ (hL z h))) (Nat.le_refl _) (Nat.le_refl _) T' rfl X'
    exact ⟨t2, st9.trans a1, b1⟩
theorem x_callV (C : gC w X cc own ret d nL) (hT9 : gT X) {y : MethodName} {ccy : ByteArray} {nLy ny idx d' b : Nat} {rety : Option FieldType} {E : String} {ct' : CT} (As : List Value) (hM : gMx w d' y ccy nLy rety (.ref b :: As) ct E ct') (Y : gYV y ccy nLy rety ny) (hli : Cond.methodLink own idx y ∈ lw_tbl) (hrc : gRc w ct b y.cls) (hn : As.length = ny) (hdd : d' + 1 ≤ d) (hnl : nLy ≤ 21) (hst : (st.map fun v => v.category).sum ≤ 8) {stk : List Value} (hstk : stk = As.reverse ++ .ref b :: st) (hd : decode cc pc = .ok (.invokevirtual idx, 3)) : gU w X (qX w X (E, ct')) ct pc lo stk := by
  refine x_on (st := st) C hT9 ?_
  obtain ⟨p, e, R, s, m, args, below, meth, c, n, A⟩ := X
  intro H locs ls hP hS hl
  have hA0 := C.2.2.2.2.2.2.2.2.2.1
  subst hA0
  obtain ⟨i, ci, fs, q, g1, g2, g3, g4, g5⟩ := hrc
  have h1 := hP i g1
  rw [g3] at h1
  refine vx_runV (As := As) (rest := st) (Ts := []) (own := own) ⟨C.1, C.2.1, C.2.2.1, C.2.2.2.1, fun _ h => by cases h⟩ (hM H.size) ⟨gBx C.2.2.2.2.1.1 Y.1 Y.2.1 Y.2.2.1 hli C.2.2.2.2.2.2.2.2.2.2.1 hdd hnl, C.2.2.2.2.1.1.use Y.2.2.2.1 rfl, C.2.2.2.2.1.1.use Y.2.2.2.2 rfl⟩ ⟨(gPc C.2.2.2.2.1 C.2.2.2.2.2.1 hP C.2.2.2.2.2.2.2.2.2.2.2 hS).1, ?_, (gPc C.2.2.2.2.1 C.2.2.2.2.2.1 hP C.2.2.2.2.2.2.2.2.2.2.2 hS).2⟩ rfl hn ?_ hstk (lv_room hst) hd ⟨by rw [Nat.zero_add]; exact hT9.1, by rw [Nat.zero_add]; exact hT9.2.1⟩
  · have := va_recv C.2.2.2.2.1.2 (one_P h1) (q0 := 0) g4 rfl
    rw [g2, g5] at this
    exact this
  · rw [hl.1]
    exact C.2.2.2.2.2.2.2.2.1
theorem x_callS (C : gC w X cc own ret d nL) (hT9 : gT X) {y : MethodName} {ccy : ByteArray} {nLy ny idx d' : Nat} {rety : Option FieldType} {E : String} {ct' : CT} (As : List Value) (hM : gMx w d' y ccy nLy rety As ct E ct') (Y : gYS y ccy nLy rety ny) (hli : Cond.methodLink own idx y ∈ lw_tbl) (hn : As.length = ny) (hdd : d' + 1 ≤ d) (hnl : nLy ≤ 21) (hst : (st.map fun v => v.category).sum ≤ 8) {stk : List Value} (hstk : stk = As.reverse ++ st) (hd : decode cc pc = .ok (.invokestatic idx, 3)) : gU w X (qX w X (E, ct')) ct pc lo stk := by
  refine x_on (st := st) C hT9 ?_
  obtain ⟨p, e, R, s, m, args, below, meth, c, n, A⟩ := X
  intro H locs ls hP hS hl
  have hA0 := C.2.2.2.2.2.2.2.2.2.1
  subst hA0
  refine vx_runS (As := As) (rest := st) (Ts := []) (own := own) ⟨C.1, C.2.1, C.2.2.1, C.2.2.2.1, fun _ h => by cases h⟩ (hM H.size) ⟨gBx C.2.2.2.2.1.1 Y.1 Y.2.1 Y.2.2.1 hli C.2.2.2.2.2.2.2.2.2.2.1 hdd hnl, C.2.2.2.2.1.1.use Y.2.2.2 rfl⟩ ⟨(gPc C.2.2.2.2.1 C.2.2.2.2.2.1 hP C.2.2.2.2.2.2.2.2.2.2.2 hS).1, (gPc C.2.2.2.2.1 C.2.2.2.2.2.1 hP C.2.2.2.2.2.2.2.2.2.2.2 hS).2⟩ rfl hn ?_ hstk (lv_room hst) hd ⟨by rw [Nat.zero_add]; exact hT9.1, by rw [Nat.zero_add]; exact hT9.2.1⟩
  rw [hl.1]
  exact C.2.2.2.2.2.2.2.2.1
end THROW
