/-! ===== more: binders of the printed functions, loops, ids that are there ===== -/
def lt {α β : Type} (x : α) (f : α → β) : β := f x
theorem lt_e {α β : Type} {x : α} {f : α → β} {r : β} (h : lt x f = r) : ∃ a, x = a ∧ f a = r := ⟨x, rfl, h⟩
def lt2 {α β γ : Type} (x : α × β) (f : α → β → γ) : γ := f x.1 x.2
theorem lt2_e {α β γ : Type} {x : α × β} {f : α → β → γ} {r : γ} (h : lt2 x f = r) : ∃ a b, x = (a, b) ∧ f a b = r := ⟨x.1, x.2, rfl, h⟩
def ob {α β γ : Type} (x : Option (α × β)) (f : α → β → Option γ) : Option γ := match x with
  | some q => f q.1 q.2
  | none => none
theorem ob_e {α β γ : Type} {x : Option (α × β)} {f : α → β → Option γ} {r : γ} (h : ob x f = some r) : ∃ a b, x = some (a, b) ∧ f a b = some r := by
  match x, h with
  | some q, h => exact ⟨q.1, q.2, rfl, h⟩
def ob1 {α γ : Type} (x : Option α) (f : α → Option γ) : Option γ := match x with
  | some q => f q
  | none => none
theorem ob1_e {α γ : Type} {x : Option α} {f : α → Option γ} {r : γ} (h : ob1 x f = some r) : ∃ a, x = some a ∧ f a = some r := by
  match x, h with
  | some q, h => exact ⟨q, rfl, h⟩
theorem gd_e {γ : Type} {b : Bool} {x : Option γ} {r : γ} (h : (if b = true then x else none) = some r) : b = true ∧ x = some r := by
  by_cases hb : b = true
  · rw [if_pos hb] at h; exact ⟨hb, h⟩
  · rw [if_neg hb] at h; cases h
theorem dz_e {γ : Type} {y : Int32} {x : Option γ} {r : γ} (h : (if y = 0 then none else x) = some r) : ¬ y = 0 ∧ x = some r := by
  by_cases hb : y = 0
  · rw [if_pos hb] at h; cases h
  · rw [if_neg hb] at h; exact ⟨hb, h⟩
def lpN {X R : Type} : Nat → (X → Option (X ⊕ R)) → X → Option R
  | 0, _, _ => none
  | n + 1, f, x => match f x with
    | some (.inl y) => lpN n f y
    | some (.inr r) => some r
    | none => none
theorem lpN_0 {X R : Type} {f : X → Option (X ⊕ R)} {x : X} {r : R} {G : Prop} (h : lpN 0 f x = some r) : G := by cases h
theorem lpN_e {X R : Type} {n : Nat} {f : X → Option (X ⊕ R)} {x : X} {r : R} (h : lpN (n + 1) f x = some r) : ∃ q, f x = some q ∧ Sum.elim (lpN n f) some q = some r := by
  unfold lpN at h
  split at h
  · rename_i y hy; exact ⟨_, hy, h⟩
  · rename_i y hy; exact ⟨_, hy, h⟩
  · cases h
theorem b2i_t {b : Bool} (h : ¬ b2i b = 0) : b = true := by
  cases b
  · exact absurd rfl h
  · rfl
theorem b2i_f {b : Bool} (h : b2i b = 0) : ¬ b = true := by
  cases b
  · decide
  · exact absurd h (by decide)
def i2b (x : Int32) : Bool := decide (¬ x = 0)
def isb (x : Int32) : Bool := decide (x = b2i (i2b x))
theorem isb_e {x : Int32} (h : isb x = true) : x = b2i (i2b x) := of_decide_eq_true h
def gsel (x : Int32) : Nat := if x = 0 then 1 else 2
theorem gsel_12 {x : Int32} : gsel x = 1 ∨ gsel x = 2 := by
  unfold gsel
  split
  · exact Or.inl rfl
  · exact Or.inr rfl
theorem rl0 {p : Nat} (hp : p = 1 ∨ p = 2) : rlen p 0 = 96 := by rcases hp with rfl | rfl <;> rfl
theorem rl1 {p : Nat} (hp : p = 1 ∨ p = 2) : rlen p 1 = 8 := by rcases hp with rfl | rfl <;> rfl
theorem k0 {j : Nat} (hj : j ≤ 10) : okC (0, j, 0, 0) := ⟨hj, rfl, rfl⟩
theorem k1 {j p : Nat} (hj : j ≤ 10) (hp : p = 1 ∨ p = 2) : okC (1, j, p, 0) := ⟨hj, hp, rfl⟩
theorem k2 {j : Nat} (hj : j ≤ 10) : okC (2, j, 3, 0) := ⟨hj, rfl, rfl⟩
theorem q0 {j a : Nat} (hj : j ≤ 10) (ha : a < 5) : okR j 0 a := Or.inl ⟨hj, Or.inl ⟨rfl, ha⟩⟩
theorem q1 {j p a : Nat} (hj : j ≤ 10) (hp : p = 1 ∨ p = 2) (ha : a < 2) : okR j p a := Or.inl ⟨hj, Or.inr (Or.inl ⟨hp, ha⟩)⟩
theorem q3 {j a : Nat} (hj : j ≤ 10) (ha : a < 3) : okR j 3 a := Or.inl ⟨hj, Or.inr (Or.inr ⟨rfl, ha⟩)⟩
theorem q4 : okR 11 4 0 := Or.inr ⟨rfl, Or.inl ⟨rfl, rfl⟩⟩
theorem q5 {a : Nat} (h1 : 1 ≤ a) (h3 : a ≤ 3) : okR 11 5 a := Or.inr ⟨rfl, Or.inr (Or.inl ⟨rfl, h1, h3⟩)⟩
theorem q6 : okR 11 6 0 := Or.inr ⟨rfl, Or.inr (Or.inr ⟨rfl, rfl⟩)⟩
theorem k5 : okC (5, 11, 4, 0) := ⟨rfl, rfl, rfl⟩
theorem k6 : okC (6, 11, 5, 0) := ⟨rfl, rfl, rfl⟩
theorem k7 : okC (7, 11, 6, 0) := ⟨rfl, rfl, rfl⟩
theorem k8 : okC (8, 11, 7, 0) := ⟨rfl, rfl, rfl⟩
theorem k9 : okC (9, 11, 7, 0) := ⟨rfl, rfl, rfl⟩
theorem k10 : okC (10, 11, 5, 0) := ⟨rfl, rfl, rfl⟩
def okMa (a : Nat) : Prop := a ≤ 4 ∨ a = 9 ∨ a = 10 ∨ a = 19 ∨ a = 21
def kR {a b : Nat} (h : Nat.ble a b = true) : a ≤ b := Nat.le_of_ble_eq_true h
theorem gW.x {w : WP} (h : gW w) : ∀ i, wOk w i → okX i := h.1
section MORE
variable {w : WP} {X : CX} {cc : ByteArray} {own : String} {ret : Option FieldType} {d nL : Nat} {Q : QT} {ct : CT} {pc : Nat} {lo : List (Nat × Value)} {st : List Value}
theorem r_ldc2 (C : gC w X cc own ret d nL) {idx : Nat} {v : Int64} (hc : Cond.constantLong own idx v ∈ lw_tbl) (hd : decode cc pc = .ok (.ldc2_w idx, 3)) (kk : gU w X Q ct (pc + 3) lo (.long v :: st)) : gU w X Q ct pc lo st := by
  obtain ⟨p, e, R, s, m, args, below, meth, c, n, A⟩ := X
  exact fun H locs ls hP hS hl => lv_ldc2 C.1 C.2.1 C.2.2.2.1 (C.2.2.2.2.1.1.use hc rfl) hd (kk H locs ls hP hS hl)
theorem r_tabIn (C : gC w X cc own ret d nL) {dflt lo9 hi9 : Int} {offs : Array Int} {len : Nat} {x v : Int32} {off : Int} {tgt : Nat} (hx : x = v) (hd : decode cc pc = .ok (.tableswitch dflt lo9 hi9 offs, len)) (h1 : ¬ v.toInt < lo9) (h2 : ¬ hi9 < v.toInt) (ho : offs[(v.toInt - lo9).toNat]? = some off) (ht : (pc : Int) + off = (tgt : Int)) (kk : gU w X Q ct tgt lo st) : gU w X Q ct pc lo (.int x :: st) := by
  obtain ⟨p, e, R, s, m, args, below, meth, c, n, A⟩ := X
  subst hx
  exact fun H locs ls hP hS hl => lv_tableIn C.1 C.2.1 hd h1 h2 ho ht (kk H locs ls hP hS hl)
theorem r_mmax (C : gC w X cc own ret d nL) (hdd : 1 ≤ d) {x y : Int32} {idx : Nat} (hli : Cond.methodLink own idx Lib.Math.max.name ∈ lw_tbl) (hst : (st.map fun v => v.category).sum ≤ 8) (hd : decode cc pc = .ok (.invokestatic idx, 3)) (kk : gU w X Q ct (pc + 3) lo (.int (if x < y then y else x) :: st)) (hq : qOk X Q := by first | exact qOk0 rfl rfl | assumption) : gU w X Q ct pc lo (.int y :: .int x :: st) := by
  obtain ⟨p, e, R, s, m, args, below, meth, c, n, A⟩ := X
  have hR := C.2.2.2.2.2.2.2.2.2.2.1
  exact fun H locs ls hP hS hl => va_mmax C.1 C.2.1 (by rw [hl.1, C.2.2.1]; exact C.2.2.2.2.2.2.2.2.1.symm) C.2.2.2.1 (C.2.2.2.2.1.1.use hli rfl) (C.2.2.2.2.1.1.use wm5_97 rfl) (C.2.2.2.2.1.1.use wm1_1 rfl) (C.2.2.2.2.1.1.use wm5_98 rfl) (Nat.le_trans hdd hR.1) (by have := hR.2; show _ + 13 ≤ R.locals; omega) hq.1 hq.2 hd (kk H locs ls hP hS hl)
theorem ne_ti {x v : Int32} {k : Int} (hv : v.toInt = k) (h : ¬ x = v) : x.toInt ≠ k := fun e => h (Int32.toInt_inj.mp (e.trans hv.symm))
theorem r_tabOut (C : gC w X cc own ret d nL) {dflt lo9 hi9 : Int} {offs : Array Int} {len : Nat} {x : Int32} {tgt : Nat} (hd : decode cc pc = .ok (.tableswitch dflt lo9 hi9 offs, len)) (hx : x.toInt < lo9 ∨ hi9 < x.toInt) (ht : (pc : Int) + dflt = (tgt : Int)) (kk : gU w X Q ct tgt lo st) : gU w X Q ct pc lo (.int x :: st) := by
  obtain ⟨p, e, R, s, m, args, below, meth, c, n9, A⟩ := X
  exact fun H locs ls hP hS hl => lv_tableOut C.1 C.2.1 hd hx ht (kk H locs ls hP hS hl)
theorem r_callSN (C : gC w X cc own ret d nL) {host : String} {y : MethodName} {ccy : ByteArray} {nLy ny idx d' : Nat} {rety : Option FieldType} {v : Option Value} {ct' : CT} (As : List Value) (hM : gM w d' y ccy nLy rety As ct v ct') (Y : gYS y ccy nLy rety ny) (hli : Cond.methodLinkNest own idx y host ∈ lw_tbl) (hn : As.length = ny) (hdd : d' + 1 ≤ d) (hnl : nLy ≤ 21) (hst : (st.map fun v => v.category).sum ≤ 8) {stk : List Value} (hstk : stk = As.reverse ++ st) (hd : decode cc pc = .ok (.invokestatic idx, 3)) (k : gU w X Q ct' (pc + 3) lo (v.toList ++ st)) (hq : qOk X Q := by first | exact qOk0 rfl rfl | assumption) : gU w X Q ct pc lo stk := by
  refine g_on C k ?_
  obtain ⟨p, e, R, s, m, args, below, meth, c, n, A⟩ := X
  intro H locs ls hP hS hl
  have hA0 := C.2.2.2.2.2.2.2.2.2.1
  subst hA0
  have hR := C.2.2.2.2.2.2.2.2.2.2.1
  refine ⟨_, va_runSN (As := As) (rest := st) (Ts := []) (own := own) (host := host) ⟨C.1, C.2.1, C.2.2.1, C.2.2.2.1, fun _ h => by cases h⟩ (hM H.size) ⟨⟨⟨rfl, rfl, Nat.le_trans hdd hR.1, ?_, ?_, List.mem_cons_self⟩, C.2.2.2.2.1.1.use Y.1 rfl, C.2.2.2.2.1.1.use Y.2.1 rfl, ⟨Y.2.2.1.1, Y.2.2.1.2.1⟩, fun sig h => ?_, C.2.2.2.2.1.1.use hli rfl⟩, C.2.2.2.2.1.1.use Y.2.2.2 rfl, trivial⟩ ⟨(gPc C.2.2.2.2.1 C.2.2.2.2.2.1 hP C.2.2.2.2.2.2.2.2.2.2.2 hS).1, (gPc C.2.2.2.2.1 C.2.2.2.2.2.1 hP C.2.2.2.2.2.2.2.2.2.2.2 hS).2⟩ rfl hn ?_ hstk (lv_room hst) hd hq⟩
  · show 8 + (nLy + 11) + 40 * d' ≤ R.locals
    have := hR.2
    omega
  · intro c9 hc a' U hW
    rw [List.mem_singleton.mp hc]
    exact (C.2.2.2.2.1.1.warm hW).use Y.1 rfl
  · have h2 := Y.2.2.1.2.2
    rw [h] at h2
    exact (Option.some.inj h2).symm
  · rw [hl.1]
    exact C.2.2.2.2.2.2.2.2.1
end MORE
