/-! ===== sbrows: more rows; a builder of text, as it lies ===== -/
section SBROWS
variable {w : WP} {X : CX} {cc : ByteArray} {own : String} {ret : Option FieldType} {d nL : Nat} {Q : QT} {ct : CT} {pc : Nat} {lo : List (Nat × Value)} {st : List Value}
theorem r_dup_x1 (C : gC w X cc own ret d nL) {a b : Value} (ha : a.category = 1) (hb : b.category = 1) (hd : decode cc pc = .ok (.dup_x1, 1)) (k : gU w X Q ct (pc + 1) lo (a :: b :: a :: st)) : gU w X Q ct pc lo (a :: b :: st) := by
  obtain ⟨p, e, R, s, m, args, below, meth, c, n, A⟩ := X
  exact fun H locs ls hP hS hl => lv_dup_x1 C.1 C.2.1 hd ha hb (k H locs ls hP hS hl)
theorem r_i2b (C : gC w X cc own ret d nL) {x v : Int32} (hv : x.toInt8.toInt32 = v) (hd : decode cc pc = .ok (.i2b, 1)) (k : gU w X Q ct (pc + 1) lo (.int v :: st)) : gU w X Q ct pc lo (.int x :: st) := by
  obtain ⟨p, e, R, s, m, args, below, meth, c, n, A⟩ := X
  exact fun H locs ls hP hS hl => lv_i2b C.1 C.2.1 hd hv (k H locs ls hP hS hl)
theorem r_ldcI (C : gC w X cc own ret d nL) {idx : Nat} {v : Int32} (hc : Cond.constant own idx v ∈ lw_tbl) (hd : decode cc pc = .ok (.ldc idx, 2)) (kk : gU w X Q ct (pc + 2) lo (.int v :: st)) : gU w X Q ct pc lo st := by
  obtain ⟨p, e, R, s, m, args, below, meth, c, n, A⟩ := X
  exact fun H locs ls hP hS hl => lv_ldc C.1 C.2.1 C.2.2.2.1 (C.2.2.2.2.1.1.use hc rfl) hd (kk H locs ls hP hS hl)
theorem r_mmin (C : gC w X cc own ret d nL) (hdd : 1 ≤ d) {x y : Int32} {idx : Nat} (hli : Cond.methodLink own idx Lib.Math.min.name ∈ lw_tbl) (hst : (st.map fun v => v.category).sum ≤ 8) (hd : decode cc pc = .ok (.invokestatic idx, 3)) (kk : gU w X Q ct (pc + 3) lo (.int (if y < x then y else x) :: st)) (hq : qOk X Q := by first | exact qOk0 rfl rfl | assumption) : gU w X Q ct pc lo (.int y :: .int x :: st) := by
  obtain ⟨p, e, R, s, m, args, below, meth, c, n, A⟩ := X
  have hR := C.2.2.2.2.2.2.2.2.2.2.1
  exact fun H locs ls hP hS hl => va_mmin C.1 C.2.1 (by rw [hl.1, C.2.2.1]; exact C.2.2.2.2.2.2.2.2.1.symm) C.2.2.2.1 (C.2.2.2.2.1.1.use hli rfl) (C.2.2.2.2.1.1.use wm5_100 rfl) (C.2.2.2.2.1.1.use wm1_1 rfl) (C.2.2.2.2.1.1.use wm5_101 rfl) (Nat.le_trans hdd hR.1) (by have := hR.2; show _ + 13 ≤ R.locals; omega) hq.1 hq.2 hd (kk H locs ls hP hS hl)
theorem r_mabs (C : gC w X cc own ret d nL) (hdd : 1 ≤ d) {x : Int32} {idx : Nat} (hli : Cond.methodLink own idx Lib.Math.abs.name ∈ lw_tbl) (hst : (st.map fun v => v.category).sum ≤ 8) (hd : decode cc pc = .ok (.invokestatic idx, 3)) (kk : gU w X Q ct (pc + 3) lo (.int (if 0 ≤ x then x else 0 - x) :: st)) (hq : qOk X Q := by first | exact qOk0 rfl rfl | assumption) : gU w X Q ct pc lo (.int x :: st) := by
  obtain ⟨p, e, R, s, m, args, below, meth, c, n, A⟩ := X
  have hR := C.2.2.2.2.2.2.2.2.2.2.1
  exact fun H locs ls hP hS hl => va_mabs C.1 C.2.1 (by rw [hl.1, C.2.2.1]; exact C.2.2.2.2.2.2.2.2.1.symm) C.2.2.2.1 (C.2.2.2.2.1.1.use hli rfl) (C.2.2.2.2.1.1.use wm3_54 rfl) (C.2.2.2.2.1.1.use wm1_1 rfl) (C.2.2.2.2.1.1.use wm3_55 rfl) (Nat.le_trans hdd hR.1) (by have := hR.2; show _ + 13 ≤ R.locals; omega) hq.1 hq.2 hd (kk H locs ls hP hS hl)
/-- by the address -/
theorem r_getA (C : gC w X cc own ret d nL) {ci N idx : Nat} {cl : String} {T : u_T} {ty : Nat → FieldType} (F : gF ci cl T N ty) (k : Nat) (i : ID) (hi : wOk w i) {a : Nat} (ha : wAd w i = a) {fs : List Value} (hct : ct i = .inr (ci, fs)) (hk : k < N) (hlink : Cond.fieldLink own idx (T k).1 (T k).2.1 (T k).2.2.1 ∈ lw_tbl) {v : Value} (hv : fs[k]? = some v) (hd : decode cc pc = .ok (.getfield idx, 3)) (kk : gU w X Q ct (pc + 3) lo (v :: st)) : gU w X Q ct pc lo (.ref a :: st) := by
  subst ha
  exact r_get C F k i hi hct hk hlink hv hd kk
theorem r_putA (C : gC w X cc own ret d nL) {ci N idx : Nat} {cl : String} {T : u_T} {ty : Nat → FieldType} (F : gF ci cl T N ty) (k : Nat) (i : ID) (hi : wFr w i) {a : Nat} (ha : wAd w i = a) {fs : List Value} (hct : ct i = .inr (ci, fs)) (hk : k < N) (hlink : Cond.fieldLink own idx (T k).1 (T k).2.1 (T k).2.2.1 ∈ lw_tbl) (hfin : (T k).2.2.2 = false) {v : Value} (hn : narrow (ty k) v = v) (hfit : fits (ty k) v = true) (hlen : k < fs.length) (hd : decode cc pc = .ok (.putfield idx, 3)) (kk : gU w X Q (upE ct i (.inr (ci, fs.set k v))) (pc + 3) lo st) : gU w X Q ct pc lo (v :: .ref a :: st) := by
  subst ha
  exact r_put C F k i hi hct hk hlink hfin hn hfit hlen hd (fun _ _ => rfl) kk
theorem r_alenA (C : gC w X cc own ret d nL) (i : ID) (hi : wOk w i) {a : Nat} (ha : wAd w i = a) {n : Nat} {f : Nat → Int32} (hct : ct i = .inl (wJ w, n, .inl f)) (hd : decode cc pc = .ok (.arraylength, 1)) (kk : gU w X Q ct (pc + 1) lo (.int (nI n) :: st)) : gU w X Q ct pc lo (.ref a :: st) := by
  subst ha
  exact r_alen C i hi 3 hct rfl rfl hd kk
theorem r_balA (C : gC w X cc own ret d nL) (i : ID) (hi : wOk w i) {a : Nat} (ha : wAd w i = a) {n : Nat} {f : Nat → Int32} (hct : ct i = .inl (wJ w, n, .inl f)) {j v : Int32} (hin : vp_in j n) (hv : f j.toNatClampNeg = v) (hd : decode cc pc = .ok (.baload, 1)) (kk : gU w X Q ct (pc + 1) lo (.int v :: st)) : gU w X Q ct pc lo (.int j :: .ref a :: st) := by
  subst ha
  subst hv
  exact r_balB C i hi hct hin hd kk
theorem r_basA (C : gC w X cc own ret d nL) (i : ID) (hi : wFr w i) {a : Nat} (ha : wAd w i = a) {n : Nat} {f : Nat → Int32} (hct : ct i = .inl (wJ w, n, .inl f)) {j x y : Int32} (hy : vp_nar .byte x = y) (hin : vp_in j n) (hd : decode cc pc = .ok (.bastore, 1)) (kk : gU w X Q (upE ct i (.inl (wJ w, n, .inl (upd f j.toNatClampNeg y)))) (pc + 1) lo st) : gU w X Q ct pc lo (.int x :: .int j :: .ref a :: st) := by
  subst ha
  exact r_basB C i hi hct hy hin hd (fun _ _ => rfl) kk
theorem r_acopyA (C : gC w X cc own ret d nL) (hdd : 1 ≤ d) {idx b n2 : Nat} {f2 : Nat → Int32} (hsrc : gSrc w X ct b n2 f2) (hf2 : fB f2) (i : ID) (hfr : wFr w i) {a : Nat} (ha : wAd w i = a) {n1 : Nat} {g : Nat → Int32} (hct : ct i = .inl (wJ w, n1, .inl g)) (hlink : Cond.methodLink own idx arraycopyName ∈ lw_tbl) {x y z : Int32} (sp dp c : Nat) (hx : x = nI sp) (hy : y = nI dp) (hz : z = nI c) (hb1 : sp < 2 ^ 31) (hb2 : dp < 2 ^ 31) (hb3 : c < 2 ^ 31) (h4 : sp + c ≤ n2) (h5 : dp + c ≤ n1) (hst : (st.map fun v => v.category).sum ≤ 8) (hd : decode cc pc = .ok (.invokestatic idx, 3)) (k : gU w X Q (upE ct i (.inl (wJ w, n1, .inl (va_cpy f2 g sp dp c)))) (pc + 3) lo st) : gU w X Q ct pc lo (.int z :: .int y :: .ref a :: .int x :: .ref b :: st) := by
  subst ha hx hy hz
  refine r_acopyB C hdd hsrc hf2 i hfr hct hlink (nI_pos hb1) (nI_pos hb2) (nI_pos hb3) (by rw [nI_clamp hb1, nI_clamp hb3]; exact h4) (by rw [nI_clamp hb2, nI_clamp hb3]; exact h5) hst hd (fun _ _ => rfl) ?_
  rw [nI_clamp hb1, nI_clamp hb2, nI_clamp hb3]
  exact k
theorem gQe_0 {v : Option Value} {ct' : CT} {sz : Nat} {A : Nat → Prop} {a : Array Value} {s t : State} {o : Outcome} (hD : gD w) (h : gQ w v ct' A a s o t) : gQe w (fun I ad v1 ct1 => I = IZ ∧ ad = wAd w ∧ v1 = v ∧ ct1 = ct') sz A a s o t := by
  obtain ⟨⟨h1, h2⟩, h3⟩ := h
  exact ⟨IZ, wAd w, v, ct', ⟨rfl, rfl, rfl, rfl⟩, ⟨fun _ _ => rfl, fun _ _ => rfl⟩, ⟨h1, by rw [wM_Z]; exact h2, by rw [wM_Z]; exact hD, fun _ h => h.elim⟩, h3⟩
/-- super.m(..) of a method that makes nothing -/
theorem r_callU (C : gC w X cc own ret d nL) {y : MethodName} {ccy : ByteArray} {nLy ny idx d' : Nat} {rety : Option FieldType} {v : Option Value} {ct' : CT} (As : List Value) (i : ID) (hi : wOk w i) {a : Nat} (ha : wAd w i = a) {ci : Nat} {q : vw_C} {fs : List Value} (hct : ct i = .inr (ci, fs)) (hci : vwCl[ci]? = some q) (hM : gM w d' y ccy nLy rety (.ref a :: As) ct v ct') (Y : gYU own y ccy nLy rety ny) (hsw : tkw (Cond.sameMethod y.cls y.cls y.name y.desc) = true) (hsu : tkw (Cond.superclass own y.cls) = true) (hli : Cond.methodLink own idx y ∈ lw_tbl) (hn : As.length = ny) (hdd : d' + 1 ≤ d) (hnl : nLy ≤ 21) (hst : (st.map fun v => v.category).sum ≤ 8) {stk : List Value} (hstk : stk = As.reverse ++ .ref a :: st) (hd : decode cc pc = .ok (.invokespecial idx, 3)) (k : gU w X Q ct' (pc + 3) lo (v.toList ++ st)) (hq : qOk X Q := by first | exact qOk0 rfl rfl | assumption) : gU w X Q ct pc lo stk := by
  subst ha
  refine g_on C k ?_
  obtain ⟨p, e, R, s, m, args, below, meth, c, n, A⟩ := X
  intro H locs ls hP hS hl
  have hA0 := C.2.2.2.2.2.2.2.2.2.1
  subst hA0
  have h1 := hP i hi
  rw [hct] at h1
  have hrv := va_recv C.2.2.2.2.1.2 (one_P h1) (q0 := 0) hci rfl
  obtain ⟨cell, r1, r2, r3⟩ := hrv
  have hT := C.2.2.2.2.1.1
  have hR := C.2.2.2.2.2.2.2.2.2.2.1
  obtain ⟨r9, g1, -⟩ := h1
  have hKn := C.2.2.2.2.1.2.1 ci _ g1
  cases g1.symm.trans hci
  refine ⟨_, va_runSU (As := As) (rest := st) (Ts := []) (own := own) (C := q.1) (cC := cell.cls) ⟨r3, ?_⟩ ⟨C.1, C.2.1, C.2.2.1, C.2.2.2.1, fun _ h => by cases h⟩ (hM H.size) ⟨⟨rfl, rfl, Nat.le_trans hdd hR.1, by have := hR.2; show 8 + (nLy + 11) + 40 * d' ≤ R.locals; omega, fun c9 hc a' U hW => by rw [List.mem_singleton.mp hc]; exact (hT.warm hW).use Y.1 rfl, List.mem_cons_self⟩, hT.use hli rfl, hT.use Y.2.2.2.2.1 hsw, hT.use Y.2.2.2.2.2 hsu, hT.use Y.2.2.2.1 rfl, hT.use Y.2.1 rfl, hT.use Y.1 rfl, Y.2.2.1.1, fun sig h => by have h2 := Y.2.2.1.2; rw [h] at h2; exact (Option.some.inj h2).symm⟩ ⟨(gPc C.2.2.2.2.1 C.2.2.2.2.2.1 hP C.2.2.2.2.2.2.2.2.2.2.2 hS).1, ⟨cell, r1, r2, r3⟩, (gPc C.2.2.2.2.1 C.2.2.2.2.2.1 hP C.2.2.2.2.2.2.2.2.2.2.2 hS).2⟩ rfl hn ?_ hstk (lv_room hst) hd hq⟩
  · have e9 := Option.some.inj (r3.symm.trans hKn.2.1)
    rw [e9]
    exact hKn.2.2
  · rw [hl.1]
    exact C.2.2.2.2.2.2.2.2.1
/-- what the tables say where x is named and y, that overrides it, is found -/
def gYO (Cq owner : String) (x y : MethodName) (cc : ByteArray) (nL : Nat) (ret : Option FieldType) (n : Nat) : Prop := Cond.code y cc nL ret ∈ lw_tbl ∧ Cond.initialized y.cls ∈ lw_tbl ∧ (owner ≠ "java/lang/invoke/MethodHandle" ∧ owner ≠ "java/lang/invoke/VarHandle" ∧ (parseMethodDescriptor x.desc).map (fun d => d.parameters.length) = some n) ∧ (∃ b m r, Cond.code ⟨owner, x.name, x.desc⟩ b m r ∈ lw_tbl) ∧ Cond.instanceMethod ⟨owner, x.name, x.desc⟩ ∈ lw_tbl ∧ Cond.sameMethod x.cls owner x.name x.desc ∈ lw_tbl ∧ Cond.selects Cq x y ∈ lw_tbl ∧ Cond.instanceMethod y ∈ lw_tbl
theorem gYO.cu {Cq owner : String} {x y : MethodName} {cc9 : ByteArray} {nLy n d' idx mc ms : Nat} {rety : Option FieldType} (Y : gYO Cq owner x y cc9 nLy rety n) (hsw : tkw (Cond.sameMethod x.cls owner x.name x.desc) = true) {s : State} {args : Array Value} {R : Room} (hT : TK s) (hli : Cond.methodLink own idx x ∈ lw_tbl) (hR : d ≤ R.frames ∧ 40 * d ≤ R.locals) (hdd : d' + 1 ≤ d) (hnl : nLy ≤ 21) : va_CU R s args own Cq owner idx x y cc9 nLy rety [.code y cc9 nLy rety] { frames := d', cells := mc, slots := ms, locals := 40 * d' } mc ms n := by
  obtain ⟨b, m, r, hc0⟩ := Y.2.2.2.1
  refine ⟨⟨rfl, rfl, Nat.le_trans hdd hR.1, ?_, ?_, List.mem_cons_self⟩, hT.use Y.1 rfl, hT.use Y.2.1 rfl, ⟨Y.2.2.1.1, Y.2.2.1.2.1⟩, fun sig h => ?_, hT.use hli rfl, hT.use Y.2.2.2.2.2.1 hsw, va_Decl.of (hT.use (args := args) Y.2.2.2.2.1 rfl) (hT.use (args := args) hc0 rfl), hT.use Y.2.2.2.2.2.2.1 rfl, hT.use Y.2.2.2.2.2.2.2 rfl⟩
  · show 8 + (nLy + 11) + 40 * d' ≤ R.locals
    have := hR.2
    omega
  · intro c hc a' U hW
    rw [List.mem_singleton.mp hc]
    exact (hT.warm hW).use Y.1 rfl
  · have h2 := Y.2.2.1.2.2
    rw [h] at h2
    exact (Option.some.inj h2).symm
theorem r_callOv (C : gC w X cc own ret d nL) {Cq owner : String} {x y : MethodName} {ccy : ByteArray} {nLy ny idx d' b : Nat} {rety : Option FieldType} {v : Option Value} {ct' : CT} (As : List Value) (hM : gM w d' y ccy nLy rety (.ref b :: As) ct v ct') (Y : gYO Cq owner x y ccy nLy rety ny) (hsw : tkw (Cond.sameMethod x.cls owner x.name x.desc) = true) (hli : Cond.methodLink own idx x ∈ lw_tbl) (hrc : gRc w ct b Cq) (hn : As.length = ny) (hdd : d' + 1 ≤ d) (hnl : nLy ≤ 21) (hst : (st.map fun v => v.category).sum ≤ 8) {stk : List Value} (hstk : stk = As.reverse ++ .ref b :: st) (hd : decode cc pc = .ok (.invokevirtual idx, 3)) (k : gU w X Q ct' (pc + 3) lo (v.toList ++ st)) (hq : qOk X Q := by first | exact qOk0 rfl rfl | assumption) : gU w X Q ct pc lo stk := by
  refine g_on C k ?_
  obtain ⟨p, e, R, s, m, args, below, meth, c, n, A⟩ := X
  intro H locs ls hP hS hl
  have hA0 := C.2.2.2.2.2.2.2.2.2.1
  subst hA0
  obtain ⟨i, ci, fs, q, g1, g2, g3, g4, g5⟩ := hrc
  have h1 := hP i g1
  rw [g3] at h1
  refine ⟨_, va_runU (As := As) (rest := st) (Ts := []) (own := own) (C := Cq) ⟨C.1, C.2.1, C.2.2.1, C.2.2.2.1, fun _ h => by cases h⟩ (hM H.size) (Y.cu hsw C.2.2.2.2.1.1 hli C.2.2.2.2.2.2.2.2.2.2.1 hdd hnl) ⟨(gPc C.2.2.2.2.1 C.2.2.2.2.2.1 hP C.2.2.2.2.2.2.2.2.2.2.2 hS).1, ?_, (gPc C.2.2.2.2.1 C.2.2.2.2.2.1 hP C.2.2.2.2.2.2.2.2.2.2.2 hS).2⟩ rfl hn ?_ hstk (lv_room hst) hd hq⟩
  · have := va_recv C.2.2.2.2.1.2 (one_P h1) (q0 := 0) g4 rfl
    rw [g2, g5] at this
    exact this
  · rw [hl.1]
    exact C.2.2.2.2.2.2.2.2.1
theorem r_geO (C : gC w X cc own ret d nL) {Cq owner : String} {x y : MethodName} {ccy : ByteArray} {nLy ny idx d' b mc ms : Nat} {rety : Option FieldType} {Post : PT} (As : List Value) (hM : gMe w d' y ccy nLy rety (.ref b :: As) ct Post mc ms) (Y : gYO Cq owner x y ccy nLy rety ny) (hsw : tkw (Cond.sameMethod x.cls owner x.name x.desc) = true) (hli : Cond.methodLink own idx x ∈ lw_tbl) (hrc : gRc w ct b Cq) (hn : As.length = ny) (hdd : d' + 1 ≤ d) (hnl : nLy ≤ 21) (hst : (st.map fun v => v.category).sum ≤ 8) {stk : List Value} (hstk : stk = As.reverse ++ .ref b :: st) (hd : decode cc pc = .ok (.invokevirtual idx, 3)) (hq : qOk X (Q.1, Q.2.1 + mc, Q.2.2 + ms))
    (k : ∀ I ad v ct', Post I ad v ct' → gAg w I ad → gBh X I ad → gC (wM w I ad) X cc own ret d nL → gU (wM w I ad) X (Q.1, Q.2.1 + mc, Q.2.2 + ms) ct' (pc + 3) lo (v.toList ++ st)) : gU w X Q ct pc lo stk := by
  refine ge_on C k ?_
  obtain ⟨p, e, R, s, m, args, below, meth, c, n, A⟩ := X
  intro H locs ls hP hS hl
  have hA0 := C.2.2.2.2.2.2.2.2.2.1
  subst hA0
  obtain ⟨i, ci, fs, q, g1, g2, g3, g4, g5⟩ := hrc
  have h1 := hP i g1
  rw [g3] at h1
  refine ⟨_, va_runU (As := As) (rest := st) (Ts := []) (own := own) (C := Cq) ⟨C.1, C.2.1, C.2.2.1, C.2.2.2.1, fun _ h => by cases h⟩ (hM H.size) (Y.cu hsw C.2.2.2.2.1.1 hli C.2.2.2.2.2.2.2.2.2.2.1 hdd hnl) ⟨(gPc C.2.2.2.2.1 C.2.2.2.2.2.1 hP C.2.2.2.2.2.2.2.2.2.2.2 hS).1, ?_, (gPc C.2.2.2.2.1 C.2.2.2.2.2.1 hP C.2.2.2.2.2.2.2.2.2.2.2 hS).2⟩ rfl hn ?_ hstk (lv_room hst) hd hq⟩
  · have := va_recv C.2.2.2.2.1.2 (one_P h1) (q0 := 0) g4 rfl
    rw [g2, g5] at this
    exact this
  · rw [hl.1]
    exact C.2.2.2.2.2.2.2.2.1
end SBROWS
