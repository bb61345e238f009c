/-! ===== cons: worlds that grow ===== -/
/-- the world with the ids I more, by other addresses -/
def wM (w : WP) (I : ID → Prop) (ad : ID → Nat) : WP := (wL w, wD w, (fun k => wOk w k ∨ I k), (fun k => wFr w k ∨ I k), ad, w.2.2.2.2.2.1, wE w)
def one (i : ID) : ID → Prop := fun k => k = i
def adU (w : WP) (i : ID) (q : Nat) : ID → Nat := fun k => if k = i then q else wAd w k
def gAg (w : WP) (I : ID → Prop) (ad : ID → Nat) : Prop := (∀ i, wOk w i → ad i = wAd w i) ∧ ∀ i, ¬ I i → ad i = wAd w i
theorem gA_M {w : WP} {I : ID → Prop} {ad : ID → Nat} {sz : Nat} (hD : gD w) (hag : gAg w I ad) (hI : ∀ i, I i → sz ≤ ad i) : gA (wM w I ad) sz = gA w sz := by
  funext q
  apply propext
  constructor
  · rintro (⟨i, hi | hi, rfl⟩ | h)
    · exact Or.inl ⟨i, hi, (hag.1 i (hD.2.1 i hi)).symm⟩
    · exact Or.inr (hI i hi)
    · exact Or.inr h
  · rintro (⟨i, hi, rfl⟩ | h)
    · exact Or.inl ⟨i, Or.inl hi, hag.1 i (hD.2.1 i hi)⟩
    · exact Or.inr h
/-- the new ids lie behind what was there as the method began -/
def gBh (X : CX) (I : ID → Prop) (ad : ID → Nat) : Prop := match X with
  | (p, e, R, s, m, args, below, meth, c, n, A) => ∀ i, I i → s.heap.size ≤ ad i
theorem gC_M {w : WP} {X : CX} {cc : ByteArray} {own : String} {ret : Option FieldType} {d nL : Nat} {I : ID → Prop} {ad : ID → Nat} (C : gC w X cc own ret d nL) (hag : gAg w I ad) (hI : gBh X I ad) (hD' : gD (wM w I ad)) : gC (wM w I ad) X cc own ret d nL := by
  obtain ⟨p, e, R, s, m, args, below, meth, c, n, A⟩ := X
  have hA := gA_M (sz := s.heap.size) C.2.2.2.2.2.1 hag hI
  refine ⟨C.1, C.2.1, C.2.2.1, C.2.2.2.1, C.2.2.2.2.1, hD', C.2.2.2.2.2.2.1, C.2.2.2.2.2.2.2.1, C.2.2.2.2.2.2.2.2.1, ?_, C.2.2.2.2.2.2.2.2.2.2.1, ?_⟩
  · rw [hA]; exact C.2.2.2.2.2.2.2.2.2.1
  · rw [hA]; exact C.2.2.2.2.2.2.2.2.2.2.2
theorem gD_one {w : WP} {ct : CT} {H : Heap} {i : ID} (hD : gD w) (hP : gP w ct H) (hi : ¬ wOk w i) : gAg w (one i) (adU w i H.size) ∧ gD (wM w (one i) (adU w i H.size)) := by
  have hag : gAg w (one i) (adU w i H.size) := ⟨fun k hk => if_neg (fun h => hi (by rw [← h]; exact hk)), fun k hk => if_neg hk⟩
  have hq : adU w i H.size i = H.size := if_pos rfl
  refine ⟨hag, ?_, ?_, hD.2.2⟩
  · intro a b ha hb hab
    change adU w i H.size a = adU w i H.size b at hab
    rcases ha with ha | ha <;> rcases hb with hb | hb
    · rw [hag.1 a ha, hag.1 b hb] at hab
      exact hD.1 a b ha hb hab
    · cases hb
      rw [hag.1 a ha, hq] at hab
      exact absurd (hP a ha).lt (by rw [hab]; exact Nat.lt_irrefl _)
    · cases ha
      rw [hag.1 b hb, hq] at hab
      exact absurd (hP b hb).lt (by rw [← hab]; exact Nat.lt_irrefl _)
    · cases ha; cases hb; rfl
  · exact fun a ha => ha.elim (fun h => Or.inl (hD.2.1 a h)) Or.inr
theorem gP_one {w : WP} {ct : CT} {H H1 : Heap} {i : ID} {e : va_E} (hP : gP w ct H) (hi : ¬ wOk w i) (o1 : ∀ q, q < H.size → H1[q]? = H[q]?) (h1 : va_at (wD w) vwCl (H.size, e) H1) : gP (wM w (one i) (adU w i H.size)) (upE ct i e) H1 := by
  intro k hk
  by_cases h : k = i
  · subst h
    show va_at (wD w) vwCl (adU w k H.size k, upE ct k e k) H1
    unfold adU upE
    rw [if_pos rfl, if_pos rfl]
    exact h1
  · have hk' : wOk w k := hk.elim id (fun z => absurd z h)
    show va_at (wD w) vwCl (adU w i H.size k, upE ct i e k) H1
    unfold adU upE
    rw [if_neg h, if_neg h]
    exact (hP k hk').kept (o1 _ (hP k hk').lt)
/-- classes of arrays that may be made -/
def gY (w : WP) : Prop := ∀ A U H, wE w A U H → (∀ a, (Cond.arrayClass FieldType.int).before a U = true) ∧ ((∀ a, (Cond.arrayClass FieldType.byte).before a U = true) ∧ (∀ a, (Cond.arrayClass FieldType.boolean).before a U = true)) ∧ va_AO "HedgeMessages$Hedge" U ∧ va_AO "HedgeMessages$CommandForm" U
section CONS
variable {w : WP} {X : CX} {cc : ByteArray} {own : String} {ret : Option FieldType} {d nL : Nat} {Q : QT} {ct : CT} {pc : Nat} {lo : List (Nat × Value)} {st : List Value}
theorem r_new (C : gC w X cc own ret d nL) {ci N idx : Nat} {cl : String} {T : u_T} {ty : Nat → FieldType} (F : gF ci cl T N ty) (hl9 : Cond.classLink own idx cl ∈ lw_tbl) (hlk : tkw (Cond.classLink own idx cl) = true) (hi9 : Cond.instantiable cl N ∈ lw_tbl) (hini : Cond.initialized cl ∈ lw_tbl) (i : ID) (hi : ¬ wOk w i) {fs : List Value} (hfs : ∀ j, j < N → defaultValue (ty j) = vp_V fs j) (hd : decode cc pc = .ok (.new idx, 3)) (hq : qOk X (Q.1, Q.2.1 + 1, Q.2.2 + N))
    (kk : ∀ q, gAg w (one i) (adU w i q) → gBh X (one i) (adU w i q) → gC (wM w (one i) (adU w i q)) X cc own ret d nL → gU (wM w (one i) (adU w i q)) X (Q.1, Q.2.1 + 1, Q.2.2 + N) (upE ct i (.inr (ci, fs))) (pc + 3) lo (.ref q :: st)) : gU w X Q ct pc lo st := by
  obtain ⟨p, e, R, s, m, args, below, meth, c, n, A⟩ := X
  intro H locs ls hP hS hl
  have hA : A = gA w s.heap.size := C.2.2.2.2.2.2.2.2.2.1
  have hKn := C.2.2.2.2.1.2.1 ci _ F.1
  refine W.newcK C.1 C.2.1 C.2.2.2.1 (C.2.2.2.2.1.1.use hl9 hlk) (C.2.2.2.2.1.1.use hi9 rfl) (C.2.2.2.2.1.1.use hini rfl) rfl hd hq.1 hq.2 hKn.2.1 rfl fun H1 kC hkC e1 z1 o1 => ?_
  obtain ⟨hag, hD'⟩ := gD_one C.2.2.2.2.2.1 hP hi
  have hbh : gBh (p, e, R, s, m, args, below, meth, c, n, A) (one i) (adU w i H.size) := (fun k9 hk9 => by rw [show k9 = i from hk9]; show s.heap.size ≤ adU w i H.size i; unfold adU; rw [if_pos rfl]; exact hS.1)
  have C' := gC_M (I := one i) C hag hbh hD'
  refine kk H.size hag hbh C' H1 locs ls (gP_one hP hi o1 ⟨_, F.1, (u_born ty (in_ws (args := args) C.2.2.2.2.1.1 F.2.1) (fun _ h => h) hKn hkC e1 F.2.2.1).to hfs⟩) ⟨Nat.le_trans hS.1 (by omega), fun x h1 h2 => (o1 x (Nat.lt_of_lt_of_le h1 hS.1)).trans (hS.2.1 x h1 h2), hS.2.2⟩ hl
theorem r_newI (C : gC w X cc own ret d nL) (hY : gY w) (i : ID) (hi : ¬ wOk w i) {x : Int32} {N : Nat} (hx : ¬ x < 0) (hN : x.toNatClampNeg = N) (hb9 : N * 4 ≤ 536870912) (hd : decode cc pc = .ok (.newarray .int, 2)) (hq : qOk X (Q.1, Q.2.1 + 1, Q.2.2 + N))
    (kk : ∀ q, gAg w (one i) (adU w i q) → gBh X (one i) (adU w i q) → gC (wM w (one i) (adU w i q)) X cc own ret d nL → gU (wM w (one i) (adU w i q)) X (Q.1, Q.2.1 + 1, Q.2.2 + N) (upE ct i (.inl (wI w, N, .inl (fun _ => 0)))) (pc + 2) lo (.ref q :: st)) : gU w X Q ct pc lo (.int x :: st) := by
  obtain ⟨p, e, R, s, m, args, below, meth, c, n, A⟩ := X
  subst hN
  intro H locs ls hP hS hl
  refine W.newa (atype := .int) C.1 C.2.1 ((hY _ _ _ C.2.2.2.2.2.2.2.2.2.2.2).1 args) rfl hd rfl hx hb9 hq.1 hq.2 fun cA9 kA comp h1 h2 h3 => ?_
  have hcA : cA9 = wI w := Option.some.inj (h1.symm.trans (C.2.2.2.2.1.2.2 0 _ rfl).2)
  subst hcA
  obtain ⟨hag, hD'⟩ := gD_one C.2.2.2.2.2.1 hP hi
  have hbh : gBh (p, e, R, s, m, args, below, meth, c, n, A) (one i) (adU w i H.size) := (fun k9 hk9 => by rw [show k9 = i from hk9]; show s.heap.size ≤ adU w i H.size i; unfold adU; rw [if_pos rfl]; exact hS.1)
  have C' := gC_M (I := one i) C hag hbh hD'
  have o1 : ∀ q, q < H.size → (H.push { cls := wI w, slots := Array.replicate x.toNatClampNeg (defaultValue (newarray.typeOf .int)), vm := .none })[q]? = H[q]? := fun q hq => by rw [Array.getElem?_push, if_neg (Nat.ne_of_lt hq)]
  refine kk H.size hag hbh C' _ locs ls (gP_one hP hi o1 ?_) ⟨by simp; exact Nat.le_succ_of_le hS.1, fun q h1 h2 => (o1 q (Nat.lt_of_lt_of_le h1 hS.1)).trans (hS.2.1 q h1 h2), hS.2.2⟩ hl
  show (H.push _)[H.size]? = some (arrV (wI w) x.toNatClampNeg (fun _ => .int 0))
  rw [← arrV_new]
  simp
  exact Or.inr rfl
theorem r_newQ (C : gC w X cc own ret d nL) (t0 : Nat) {cA9 : ClassId} {E : String} (ht : (wTy w)[t0]? = some (cA9, .object E)) {idx : Nat} (hl9 : Cond.classLink own idx E ∈ lw_tbl) (hlk : tkw (Cond.classLink own idx E) = true) (hY : ∀ A U H, wE w A U H → va_AO E U) (i : ID) (hi : ¬ wOk w i) {x : Int32} {N : Nat} (hx : ¬ x < 0) (hN : x.toNatClampNeg = N) (hb9 : N * 4 ≤ 536870912) (hd : decode cc pc = .ok (.anewarray idx, 3)) (hq : qOk X (Q.1, Q.2.1 + 1, Q.2.2 + N))
    (kk : ∀ q, gAg w (one i) (adU w i q) → gBh X (one i) (adU w i q) → gC (wM w (one i) (adU w i q)) X cc own ret d nL → gU (wM w (one i) (adU w i q)) X (Q.1, Q.2.1 + 1, Q.2.2 + N) (upE ct i (.inl (cA9, N, .inr (.inr (.inr (.inr fun _ => none)))))) (pc + 3) lo (.ref q :: st)) : gU w X Q ct pc lo (.int x :: st) := by
  obtain ⟨p, e, R, s, m, args, below, meth, c, n, A⟩ := X
  subst hN
  intro H locs ls hP hS hl
  refine W.anew (C := E) C.1 C.2.1 C.2.2.2.1 (C.2.2.2.2.1.1.use hl9 hlk) (va_AO.use (hY _ _ _ C.2.2.2.2.2.2.2.2.2.2.2)) rfl hd rfl hx hb9 hq.1 hq.2 fun cB9 kA comp h1 h2 h3 h4 => ?_
  obtain ⟨kA', comp', -, -, -, e1⟩ := (C.2.2.2.2.1.2.2 t0 _ ht).2
  have hcA : cB9 = cA9 := Option.some.inj (h1.symm.trans e1)
  subst hcA
  obtain ⟨hag, hD'⟩ := gD_one C.2.2.2.2.2.1 hP hi
  have hbh : gBh (p, e, R, s, m, args, below, meth, c, n, A) (one i) (adU w i H.size) := (fun k9 hk9 => by rw [show k9 = i from hk9]; show s.heap.size ≤ adU w i H.size i; unfold adU; rw [if_pos rfl]; exact hS.1)
  have C' := gC_M (I := one i) C hag hbh hD'
  have o1 : ∀ q, q < H.size → (H.push { cls := cB9, slots := Array.replicate x.toNatClampNeg .null, vm := .none })[q]? = H[q]? := fun q hq => by rw [Array.getElem?_push, if_neg (Nat.ne_of_lt hq)]
  refine kk H.size hag hbh C' _ locs ls (gP_one hP hi o1 ?_) ⟨by simp; exact Nat.le_succ_of_le hS.1, fun q h1 h2 => (o1 q (Nat.lt_of_lt_of_le h1 hS.1)).trans (hS.2.1 q h1 h2), hS.2.2⟩ hl
  show (H.push _)[H.size]? = some (vp_cell _ _)
  rw [vp_cell_q]
  rw [Array.getElem?_push_size, ← arrV_new]
  rfl
theorem r_objInit (C : gC w X cc own ret d nL) {idx a : Nat} (hli : Cond.methodLink own idx Lib.objectInit ∈ lw_tbl) (hdd : 1 ≤ d) (hst : (st.map fun v => v.category).sum ≤ 8) (hd : decode cc pc = .ok (.invokespecial idx, 3)) (kk : gU w X Q ct (pc + 3) lo st) : gU w X Q ct pc lo (.ref a :: st) := by
  obtain ⟨p, e, R, s, m, args, below, meth, c, n, A⟩ := X
  have hR := C.2.2.2.2.2.2.2.2.2.2.1
  intro H locs ls hP hS hl
  refine W.objInit C.1 C.2.1 C.2.2.2.1 (C.2.2.2.2.1.1.use hli rfl) (C.2.2.2.2.1.1.use wm1_33 rfl) (C.2.2.2.2.1.1.use wm1_34 rfl) rfl (by show ls.size = c.maxLocals; rw [hl.1, C.2.2.1]; exact C.2.2.2.2.2.2.2.2.1) rfl hd (Nat.le_trans hdd hR.1) (by have := hR.2; show 2 * 0 + _ + 12 ≤ R.locals; omega) (kk H locs ls hP hS hl)
/-- this is the body of a constructor, and there is room -/
def gTn (X : CX) (mc ms : Nat) : Prop := match X with
  | (p, e, R, s, m, args, below, meth, c, n, A) => mc ≤ R.cells ∧ ms ≤ R.slots ∧ meth.name = "<init>"
/-- a reference laid into a final field of an object, in its class's constructor -/
theorem r_putR (C : gC w X cc own ret d nL) {mc ms : Nat} (hT9 : gTn X mc ms) {ci N idx : Nat} {cl : String} {T : u_T} {ty : Nat → FieldType} (F : gF ci cl T N ty) (k : Nat) (i : ID) (hi : wFr w i) {a b : Nat} (ha : wAd w i = a) {fs : List Value} (hct : ct i = .inr (ci, fs)) (hk : k < N) (hlink : Cond.fieldLink own idx (T k).1 (T k).2.1 (T k).2.2.1 ∈ lw_tbl) (hfin : (T k).2.2.2 = true) (hdecl : (T k).1 = own) (hn : narrow (ty k) (.ref b) = .ref b) (hfit : fits (ty k) (.ref b) = true) (hlen : k < fs.length) (hd : decode cc pc = .ok (.putfield idx, 3)) {ct' : CT} (hct' : ∀ q, wOk w q → upE ct i (.inr (ci, fs.set k (.ref b))) q = ct' q) (kk : gU w X Q ct' (pc + 3) lo st) : gU w X Q ct pc lo (.ref b :: .ref a :: st) := by
  subst ha
  obtain ⟨p, e, R, s, m, args, below, meth, c, n, A⟩ := X
  intro H locs ls hP hS hl
  obtain ⟨F1, F2, F3, F4, F5⟩ := F
  have hoi := C.2.2.2.2.2.1.2.1 i hi
  have h1 := hP i hoi
  rw [hct] at h1
  have hts := in_ws (args := args) C.2.2.2.2.1.1 F2
  have hap := va_apart (own := own) hts (fun _ h => h) ty F3 F4 C.2.2.2.2.1.2 F1
  obtain ⟨r9, g1, cell, q1, q2, q3, q4⟩ := h1
  have hr : r9 = (cl, T, N) := Option.some.inj (g1.symm.trans F1)
  subst hr
  obtain ⟨hS9, hfc, kC, hkC, hkind⟩ := C.2.2.2.2.1.2.1 ci _ F1
  obtain ⟨cf, kf, fi, f, hi9, hsl⟩ := hS9 k hk
  have hlay := hts _ (u_in_lay hk)
  unfold u_lay at hlay
  rw [if_pos hfin] at hlay
  have hst := (u_facts hfc hkC (u_lays hts (fun _ h => h) hk) hi9).1
  have hcf : m.cls = cf := by
    obtain ⟨_, _, c', _, _, _, -, -, hf', -, -, -, hown2, -⟩ := Cond.laysFinal_spec hlay
    have e1 : c' = cf := by have := hi9.symm.trans hf'; simp at this; exact this.1.symm
    rw [hdecl] at hown2
    rw [← e1]; exact Option.some.inj (C.2.2.2.1.symm.trans hown2)
  have h6 := u_fits hfc hkC hkind (Or.inr hlay) hi9 (F3 k hk) hn hfit
  refine W.putFinK C.1 C.2.1 C.2.2.2.1 (C.2.2.2.2.1.1.use hlink rfl) hi9 hst hcf hT9.2.2 (by rw [q2]; exact h6) q1 q3 (by rw [hsl]; exact k2_hasslot (q4 k hk)) rfl rfl hd fun H' e1 e2 e3 => ?_
  rw [hsl] at e1 ⊢
  refine kk H' _ ls (gP_cong hct' <| gP_put C.2.2.2.2.2.1 hoi hP ⟨_, F1, t_OB.to (V := updV (vp_V fs) k (.ref b)) ⟨_, e1, q2, q3, t_set q4 hap hk (.ref b)⟩ (fun j _ => vp_updV_set hlen (.ref b) j)⟩ e3) (hS.put e2 e3 ?_) hl
  rw [C.2.2.2.2.2.2.2.2.2.1]
  exact Or.inl ⟨i, hi, rfl⟩
/-- a contract of a constructor: what it makes, what then lies there (by the addresses), how many cells and slots -/
def gMn (w : WP) (d : Nat) (y : MethodName) (cc : ByteArray) (nL : Nat) (av : List Value) (ct : CT) (I : ID → Prop) (ct' : (ID → Nat) → CT) (mc ms : Nat) : Prop :=
  ∀ sz, Met (wL w) y [.code y cc nL none] { frames := d, cells := mc, slots := ms, locals := 40 * d } (va_Pc av (fun U => U.heap.size = sz ∧ gK w U ∧ gP w ct U.heap ∧ gD w ∧ wE w (gA w sz) U U.heap)) (fun _ st oc t => ∃ ad, gAg w I ad ∧ (oc = .returned none ∧ gP (wM w I ad) (ct' ad) t.heap ∧ gD (wM w I ad) ∧ ∀ i, I i → sz ≤ ad i) ∧ va_F (gA w sz) st t) mc ms (gA w sz)
def qN1 (w : WP) (X : CX) (I : ID → Prop) (ct' : (ID → Nat) → CT) (mc ms : Nat) : State → Prop := match X with
  | (p, e, R, s, m, args, below, meth, c, n, A) => MQ below (fun _ st oc t => ∃ ad, gAg w I ad ∧ (oc = .returned none ∧ gP (wM w I ad) (ct' ad) t.heap ∧ gD (wM w I ad) ∧ ∀ i, I i → s.heap.size ≤ ad i) ∧ va_F A st t) args s mc ms A
theorem gMn_of {y : MethodName} {av : List Value} {I : ID → Prop} {ct' : (ID → Nat) → CT} {mc ms : Nat} (own : String) (hown : y.cls = own) (hnm : y.name = "<init>") (hy : plainName y.cls = true) (hn : (lg_sl av).length ≤ nL)
    (body : ∀ X : CX, gC w X cc own none d nL → gTn X mc ms → gU w X (qN1 w X I ct' mc ms, 0, 0) ct 0 (lv_args 0 av) []) : gMn w d y cc nL av ct I ct' mc ms := by
  intro sz
  refine Met.ofW (cc := cc) (maxL := nL) (ret := none) hy rfl ?_
  intro p e s m args below meth c s₁ B hml hv
  obtain ⟨rfl, hsz, hK, hP, hD, hE⟩ := hv
  subst hsz
  subst hown
  have hl := lv_entry av (n := nL) hn
  have hown : s.vm.findClass y.cls = some m.cls := findClass_of_methodNamed B.named
  have hb := body (p, e, { frames := d, cells := mc, slots := ms, locals := 40 * d }, s, m, av.toArray, below, meth, c, nL, gA w s.heap.size) ⟨B.exec, B.bytes, hml, hown, hK, hD, B.returns, B.notSynchronized, rfl, rfl, ⟨Nat.le_refl _, Nat.le_refl _⟩, hE⟩ ⟨Nat.le_refl _, Nat.le_refl _, (name_of_methodNamed B.named B.method).1.trans hnm⟩ s.heap [] _ hP va_S.rf hl
  rw [lg_entry_eq]
  exact hb
theorem r_nend {w2 : WP} (hw1 : wL w2 = wL w) (hw2 : wD w2 = wD w) (C : gC w2 X cc own none d nL) (hDw : gD w) {I : ID → Prop} {ct' : (ID → Nat) → CT} {mc ms : Nat} (hok : ∀ i, wOk w i ∨ I i → wOk w2 i) (hag : gAg w I (wAd w2)) (hI : gBh X I (wAd w2)) (hct : ∀ i, wOk w i ∨ I i → ct i = ct' (wAd w2) i) (hd : decode cc pc = .ok (.return_, 1)) : gU w2 X (qN1 w X I ct' mc ms, mc, ms) ct pc lo [] := by
  obtain ⟨p, e, R, s, m, args, below, meth, c, n, A⟩ := X
  refine fun H locs ls hP hS hl => W.vret (Qc := fun _ st oc t => ∃ ad, gAg w I ad ∧ (oc = .returned none ∧ gP (wM w I ad) (ct' ad) t.heap ∧ gD (wM w I ad) ∧ ∀ i, I i → s.heap.size ≤ ad i) ∧ va_F A st t) (free := A) (cells := mc) (slots := ms) C.1 C.2.1 C.2.2.2.2.2.2.1 (fun t ht hW => ⟨wAd w2, hag, ⟨rfl, ?_, ?_, hI⟩, hS.F ht⟩) hS.2.2 hd C.2.2.2.2.2.2.2.1
  · intro i hi
    rw [ht, ← hct i hi]
    have := hP i (hok i hi)
    rw [hw2] at this
    exact this
  · refine ⟨fun a b ha hb hab => C.2.2.2.2.2.1.1 a b (hok a ha) (hok b hb) hab, fun a ha => ha.elim (fun h => Or.inl (hDw.2.1 a h)) Or.inr, hDw.2.2⟩
/-- what the tables say of a constructor -/
def gYI (y : MethodName) (cc : ByteArray) (nL : Nat) (n : Nat) : Prop := Cond.code y cc nL none ∈ lw_tbl ∧ Cond.initialized y.cls ∈ lw_tbl ∧ (y.cls ≠ "java/lang/invoke/MethodHandle" ∧ y.cls ≠ "java/lang/invoke/VarHandle" ∧ (parseMethodDescriptor y.desc).map (fun d => d.parameters.length) = some n) ∧ Cond.instanceMethod y ∈ lw_tbl ∧ y.name = "<init>"
theorem r_ctor (C : gC w X cc own ret d nL) {y : MethodName} {ccy : ByteArray} {nLy ny idx d' mc ms b : Nat} {I : ID → Prop} {ct' : (ID → Nat) → CT} (As : List Value) (hM : gMn w d' y ccy nLy (.ref b :: As) ct I ct' mc ms) (Y : gYI y ccy nLy ny) (hli : Cond.methodLink own idx y ∈ lw_tbl) (hn : As.length = ny) (hdd : d' + 1 ≤ d) (hnl : nLy ≤ 21) (hst : (st.map fun v => v.category).sum ≤ 8) {stk : List Value} (hstk : stk = As.reverse ++ .ref b :: st) (hd : decode cc pc = .ok (.invokespecial idx, 3)) (hq : qOk X (Q.1, Q.2.1 + mc, Q.2.2 + ms))
    (k : ∀ ad, gAg w I ad → gBh X I ad → gC (wM w I ad) X cc own ret d nL → gU (wM w I ad) X (Q.1, Q.2.1 + mc, Q.2.2 + ms) (ct' ad) (pc + 3) lo st) : gU w X Q ct pc lo stk := by
  obtain ⟨p, e, R, s, m, args, below, meth, c, n, A⟩ := X
  intro H locs ls hP hS hl T hT X9
  have hA : A = gA w s.heap.size := C.2.2.2.2.2.2.2.2.2.1
  subst hA
  have hR := C.2.2.2.2.2.2.2.2.2.2.1
  have hB : CallB R s args own idx y ccy nLy none [.code y ccy nLy none] { frames := d', cells := mc, slots := ms, locals := 40 * d' } mc ms ny := by
    refine ⟨rfl, rfl, Nat.le_trans hdd hR.1, ?_, ?_, List.mem_cons_self, C.2.2.2.2.1.1.use Y.1 rfl, C.2.2.2.2.1.1.use Y.2.1 rfl, ⟨Y.2.2.1.1, Y.2.2.1.2.1⟩, fun sig h => ?_, C.2.2.2.2.1.1.use hli rfl⟩
    · show 8 + (nLy + 11) + 40 * d' ≤ R.locals
      have := hR.2
      omega
    · intro c hc a' U hW
      rw [List.mem_singleton.mp hc]
      exact (C.2.2.2.2.1.1.warm hW).use Y.1 rfl
    · have h2 := Y.2.2.1.2.2
      rw [h] at h2
      exact (Option.some.inj h2).symm
  have hr := va_runI (As := As) (rest := st) (Ts := []) (own := own) (locs := locs) (cells := Q.2.1) (slots := Q.2.2) (p := p) (e := e) (R := R) (args := args) (below := below) (meth := meth) (c := c) (g := F0 m pc ls stk) (cc := cc) (nL := nL) (H := H) ⟨C.1, C.2.1, C.2.2.1, C.2.2.2.1, fun _ h => by cases h⟩ (hM H.size) ⟨hB, Y.2.2.2.2, C.2.2.2.2.1.1.use Y.2.2.2.1 rfl⟩ ⟨(gPc C.2.2.2.2.1 C.2.2.2.2.2.1 hP C.2.2.2.2.2.2.2.2.2.2.2 hS).1, (gPc C.2.2.2.2.1 C.2.2.2.2.2.1 hP C.2.2.2.2.2.2.2.2.2.2.2 hS).2⟩ rfl hn (by show ls.size = nL; rw [hl.1]; exact C.2.2.2.2.2.2.2.2.1) hstk (lv_room hst) hd hq
  have hA9 : ∀ q, q < H.size → gA w H.size q → gA w s.heap.size q := fun q h1 h2 => h2.elim Or.inl (fun h => absurd h (Nat.not_le.mpr h1))
  have hf : ∀ q, gA w H.size q → gA w s.heap.size q := fun q h2 => h2.elim Or.inl (fun h => Or.inr (Nat.le_trans hS.1 h))
  obtain ⟨v9, st₀, t, T', L, h0, X', hL, e1, e2, ⟨ad, hag, ⟨hv, hp, hD', hI⟩, hz, hk⟩, st9⟩ := hr T hT X9
  cases hv
  rw [h0] at hz hk
  have hI' : ∀ i, I i → s.heap.size ≤ ad i := fun i hi => Nat.le_trans hS.1 (hI i hi)
  obtain ⟨t2, a1, b1⟩ := k ad hag hI' (gC_M C hag hI' hD') T'.heap (locs ++ L) ls (by rw [e1]; exact hp) ⟨Nat.le_trans hS.1 (by rw [e1]; exact hz), fun q h1 h2 => by rw [e1, hk q (Nat.lt_of_lt_of_le h1 hS.1) (fun z => h2 (hA9 q (Nat.lt_of_lt_of_le h1 hS.1) z))]; exact hS.2.1 q h1 h2, fun q hq => by
      rcases List.mem_append.mp hq with h | h
      · exact hS.2.2 q h
      · exact hf _ (hL q h)⟩ hl T' rfl X'
  exact ⟨t2, st9 t2 a1, b1⟩
end CONS
