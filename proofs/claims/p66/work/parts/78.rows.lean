/-! ===== rows: arrays of bytes and booleans by ids, fields of things that come and go, calls on the same class of things ===== -/
theorem wx6_51 : Cond.sameMethod "[B" "java/lang/Object" "clone" "()Ljava/lang/Object;" ∈ lw_tbl := in_t6 (List.mem_of_getElem? (i := 51) rfl)
def fB (f : Nat → Int32) : Prop := ∀ j, fits .byte (.int (f j)) = true
/-- for the world of the class nothing changes where things come and go -/
theorem cA_N {w : WP} {I : ID → Prop} {ad : ID → Nat} (hag : gAg w I ad) (hI : ∀ z, I z → 30 ≤ z.1) (Ω : OM) : cA (wM w I ad) Ω = cA w Ω := by
  have h : ∀ k j p a, k < 30 → ad (k, j, p, a) = wAd w (k, j, p, a) := fun k j p a hk => hag.2 _ (fun z => by have := hI _ z; simp at this; omega)
  funext z
  obtain ⟨k, j, p, a⟩ := z
  show cB (wM w I ad) k j p a _ _ _ = cB w k j p a _ _ _
  match k with
  | 0 =>
    show (Sum.inr (2, [_, _, _, _, _, _, _, _, .ref (ad (3, j, 0, 0)), .ref (ad (3, j, 0, 1)), .ref (ad (3, j, 0, 2)), .ref (ad (3, j, 0, 3)), .ref (ad (3, j, 0, 4)), .ref (ad (1, j, 1, 0)), .ref (ad (1, j, 2, 0)), .ref (ad (2, j, 3, 0)), _, _, _]) : va_E) = _
    rw [h 3 j 0 0 (by decide), h 3 j 0 1 (by decide), h 3 j 0 2 (by decide), h 3 j 0 3 (by decide), h 3 j 0 4 (by decide), h 1 j 1 0 (by decide), h 1 j 2 0 (by decide), h 2 j 3 0 (by decide)]
    rfl
  | 1 =>
    show (Sum.inr (1, [.ref (ad (3, j, p, 0)), .ref (ad (3, j, p, 1)), _, _, _, _, _, _, _, _]) : va_E) = _
    rw [h 3 j p 0 (by decide), h 3 j p 1 (by decide)]
    rfl
  | 2 =>
    show (Sum.inr (4, [.ref (ad (3, j, p, 0)), .ref (ad (3, j, p, 1)), .ref (ad (3, j, p, 2)), _]) : va_E) = _
    rw [h 3 j p 0 (by decide), h 3 j p 1 (by decide), h 3 j p 2 (by decide)]
    rfl
  | 3 =>
    show (Sum.inr (5, [.ref (ad (4, j, p, a))]) : va_E) = _
    rw [h 4 j p a (by decide)]
    rfl
  | 4 => rfl
  | 5 =>
    show (Sum.inr (6, [.ref (ad (3, j, p, 0)), _, _, _, _, _, _, _, _]) : va_E) = _
    rw [h 3 j p 0 (by decide)]
    rfl
  | 6 =>
    show (Sum.inr (0, [.ref (ad (10, j, p, 0)), .ref (ad (3, j, p, 1)), .ref (ad (3, j, p, 2)), .ref (ad (3, j, p, 3)), _]) : va_E) = _
    rw [h 10 j p 0 (by decide), h 3 j p 1 (by decide), h 3 j p 2 (by decide), h 3 j p 3 (by decide)]
    rfl
  | 7 =>
    show (Sum.inr (7, [.ref (ad (0, 0, 0, 0)), .ref (ad (0, 1, 0, 0)), .ref (ad (0, 2, 0, 0)), _, .ref (ad (8, 11, 7, 0)), .ref (ad (5, 11, 4, 0)), .ref (ad (6, 11, 5, 0)), .ref (ad (3, 11, 6, 0)), _]) : va_E) = _
    rw [h 0 0 0 0 (by decide), h 0 1 0 0 (by decide), h 0 2 0 0 (by decide), h 8 11 7 0 (by decide), h 5 11 4 0 (by decide), h 6 11 5 0 (by decide), h 3 11 6 0 (by decide)]
    rfl
  | 8 =>
    show (Sum.inr (3, [.ref (ad (9, j, p, 0)), _, _]) : va_E) = _
    rw [h 9 j p 0 (by decide)]
    rfl
  | 9 =>
    show (Sum.inl (wHs w, 8, .inr (.inr (.inr (.inr (fun q => some (ad (0, 3 + q, 0, 0))))))) : va_E) = Sum.inl (wHs w, 8, .inr (.inr (.inr (.inr (fun q => some (wAd w (0, 3 + q, 0, 0)))))))
    rw [show (fun q => some (ad (0, 3 + q, 0, 0))) = fun q => some (wAd w (0, 3 + q, 0, 0)) from funext fun q => by rw [h 0 (3 + q) 0 0 (by decide)]]
  | 10 =>
    have e : ∀ x : Int32, dForm (wM w I ad) x = dForm w x := by
      intro x
      show (if x = 0 then none else some (ad (13, (x - 1).toNatClampNeg, 0, 0))) = (if x = 0 then none else some (wAd w (13, (x - 1).toNatClampNeg, 0, 0)))
      rw [h 13 _ 0 0 (by decide)]
    show (Sum.inl (wFs w, 30, .inr (.inr (.inr (.inr (fun q => dForm (wM w I ad) (_)))))) : va_E) = Sum.inl (wFs w, 30, .inr (.inr (.inr (.inr (fun q => dForm w (_))))))
    simp only [e]
  | n + 11 => rfl
theorem gW_N {w : WP} {I : ID → Prop} {ad : ID → Nat} (hW : gW w) (hI : ∀ z, I z → 30 ≤ z.1) (hD : gD (wM w I ad)) : gW (wM w I ad) :=
  ⟨fun i hi => hi.elim (hW.1 i) (fun h => Or.inr (Or.inl (hI i h))), fun i hi => Or.inl (hW.2.1 i hi), hD⟩
section BROWS
variable {w : WP} {X : CX} {cc : ByteArray} {own : String} {ret : Option FieldType} {d nL : Nat} {Q : QT} {ct : CT} {pc : Nat} {lo : List (Nat × Value)} {st : List Value}
theorem r_balB (C : gC w X cc own ret d nL) (i : ID) (hi : wOk w i) {n : Nat} {f : Nat → Int32} (hct : ct i = .inl (wJ w, n, .inl f)) {j : Int32} (hin : vp_in j n) (hd : decode cc pc = .ok (.baload, 1)) (kk : gU w X Q ct (pc + 1) lo (.int (f j.toNatClampNeg) :: st)) : gU w X Q ct pc lo (.int j :: .ref (wAd w i) :: st) := by
  obtain ⟨p, e, R, s, m, args, below, meth, c, n, A⟩ := X
  intro H locs ls hP hS hl
  have h1 := hP i hi
  rw [hct] at h1
  exact va_bald C.1 C.2.1 C.2.2.2.2.1.2 (one_P h1) 0 3 rfl rfl hin hd (kk H locs ls hP hS hl)
theorem r_balZ (C : gC w X cc own ret d nL) (i : ID) (hi : wOk w i) {n : Nat} {f : Nat → Int32} (hct : ct i = .inl (wZ w, n, .inl f)) {j : Int32} (hin : vp_in j n) (hd : decode cc pc = .ok (.baload, 1)) (kk : gU w X Q ct (pc + 1) lo (.int (f j.toNatClampNeg) :: st)) : gU w X Q ct pc lo (.int j :: .ref (wAd w i) :: st) := by
  obtain ⟨p, e, R, s, m, args, below, meth, c, n, A⟩ := X
  intro H locs ls hP hS hl
  have h1 := hP i hi
  rw [hct] at h1
  exact va_zald C.1 C.2.1 C.2.2.2.2.1.2 (one_P h1) 0 4 rfl rfl hin hd (kk H locs ls hP hS hl)
theorem r_basB (C : gC w X cc own ret d nL) (i : ID) (hi : wFr w i) {n : Nat} {f : Nat → Int32} (hct : ct i = .inl (wJ w, n, .inl f)) {j x y : Int32} (hy : vp_nar .byte x = y) (hin : vp_in j n) (hd : decode cc pc = .ok (.bastore, 1)) {ct' : CT} (hct' : ∀ q, wOk w q → upE ct i (.inl (wJ w, n, .inl (upd f j.toNatClampNeg y))) q = ct' q) (kk : gU w X Q ct' (pc + 1) lo st) : gU w X Q ct pc lo (.int x :: .int j :: .ref (wAd w i) :: st) := by
  obtain ⟨p, e, R, s, m, args, below, meth, c, n9, A⟩ := X
  subst hy
  intro H locs ls hP hS hl
  have hoi := C.2.2.2.2.2.1.2.1 i hi
  have h1 := hP i hoi
  rw [hct] at h1
  refine W.bast C.1 C.2.1 h1 ((C.2.2.2.2.1.2.2 3 _ rfl).1 n (fun j => .int (f j))) (fun q => by cases q) (by show ¬ (j < 0 ∨ (arrV _ _ _).slots.size ≤ _); rw [arrV_size]; exact hin) rfl rfl hd fun H1 e z oq => ?_
  refine kk H1 _ ls (gP_cong hct' <| gP_put C.2.2.2.2.2.1 hoi hP ?_ oq) (hS.put z oq (by rw [C.2.2.2.2.2.2.2.2.2.1]; exact Or.inl ⟨i, hi, rfl⟩)) hl
  show H1[wAd w i]? = some (vp_cell _ _)
  rw [e]
  rw [vp_cell_i, vp_cell_i, arrV_store]
  congr 2
  funext q
  by_cases hq : q = j.toNatClampNeg
  · subst hq
    simp [updV, upd, vp_nar]
    try rfl
  · simp [updV, upd, hq]
theorem r_basZ (C : gC w X cc own ret d nL) (i : ID) (hi : wFr w i) {n : Nat} {f : Nat → Int32} (hct : ct i = .inl (wZ w, n, .inl f)) {j x y : Int32} (hy : vp_nar .boolean x = y) (hin : vp_in j n) (hd : decode cc pc = .ok (.bastore, 1)) {ct' : CT} (hct' : ∀ q, wOk w q → upE ct i (.inl (wZ w, n, .inl (upd f j.toNatClampNeg y))) q = ct' q) (kk : gU w X Q ct' (pc + 1) lo st) : gU w X Q ct pc lo (.int x :: .int j :: .ref (wAd w i) :: st) := by
  obtain ⟨p, e, R, s, m, args, below, meth, c, n9, A⟩ := X
  subst hy
  intro H locs ls hP hS hl
  have hoi := C.2.2.2.2.2.1.2.1 i hi
  have h1 := hP i hoi
  rw [hct] at h1
  refine W.zast C.1 C.2.1 h1 ((C.2.2.2.2.1.2.2 4 _ rfl).1 n (fun j => .int (f j))) (fun q => by cases q) (by show ¬ (j < 0 ∨ (arrV _ _ _).slots.size ≤ _); rw [arrV_size]; exact hin) rfl rfl hd fun H1 e z oq => ?_
  refine kk H1 _ ls (gP_cong hct' <| gP_put C.2.2.2.2.2.1 hoi hP ?_ oq) (hS.put z oq (by rw [C.2.2.2.2.2.2.2.2.2.1]; exact Or.inl ⟨i, hi, rfl⟩)) hl
  show H1[wAd w i]? = some (vp_cell _ _)
  rw [e]
  rw [vp_cell_i, vp_cell_i, arrV_store]
  congr 2
  funext q
  by_cases hq : q = j.toNatClampNeg
  · subst hq
    simp [updV, upd, vp_nar]
    try rfl
  · simp [updV, upd, hq]
theorem r_newB (C : gC w X cc own ret d nL) (hY : gY w) (i : ID) (hi : ¬ wOk w i) {x : Int32} {N : Nat} (hx : ¬ x < 0) (hN : x.toNatClampNeg = N) (hb9 : N * 1 ≤ 536870912) (hd : decode cc pc = .ok (.newarray .byte, 2)) (hq : qOk X (Q.1, Q.2.1 + 1, Q.2.2 + N))
    (kk : ∀ q, gAg w (one i) (adU w i q) → gBh X (one i) (adU w i q) → gC (wM w (one i) (adU w i q)) X cc own ret d nL → gU (wM w (one i) (adU w i q)) X (Q.1, Q.2.1 + 1, Q.2.2 + N) (upE ct i (.inl (wJ w, N, .inl (fun _ => 0)))) (pc + 2) lo (.ref q :: st)) : gU w X Q ct pc lo (.int x :: st) := by
  obtain ⟨p, e, R, s, m, args, below, meth, c, n, A⟩ := X
  subst hN
  intro H locs ls hP hS hl
  refine W.newa (atype := .byte) C.1 C.2.1 ((hY _ _ _ C.2.2.2.2.2.2.2.2.2.2.2).2.1.1 args) rfl hd rfl hx hb9 hq.1 hq.2 fun cA9 kA comp h1 h2 h3 => ?_
  have hcA : cA9 = wJ w := Option.some.inj (h1.symm.trans (C.2.2.2.2.1.2.2 3 _ rfl).2)
  subst hcA
  obtain ⟨hag, hD'⟩ := gD_one C.2.2.2.2.2.1 hP hi
  have hbh : gBh (p, e, R, s, m, args, below, meth, c, n, A) (one i) (adU w i H.size) := (fun k9 hk9 => by rw [show k9 = i from hk9]; show s.heap.size ≤ adU w i H.size i; unfold adU; rw [if_pos rfl]; exact hS.1)
  have C' := gC_M (I := one i) C hag hbh hD'
  have o1 : ∀ q, q < H.size → (H.push { cls := wJ w, slots := Array.replicate x.toNatClampNeg (defaultValue (newarray.typeOf .byte)), vm := .none })[q]? = H[q]? := fun q hq => by rw [Array.getElem?_push, if_neg (Nat.ne_of_lt hq)]
  refine kk H.size hag hbh C' _ locs ls (gP_one hP hi o1 ?_) ⟨by simp; exact Nat.le_succ_of_le hS.1, fun q h1 h2 => (o1 q (Nat.lt_of_lt_of_le h1 hS.1)).trans (hS.2.1 q h1 h2), hS.2.2⟩ hl
  show (H.push _)[H.size]? = some (arrV (wJ w) x.toNatClampNeg (fun _ => .int 0))
  rw [← arrV_new]
  simp
  exact Or.inr rfl
theorem r_newZ (C : gC w X cc own ret d nL) (hY : gY w) (i : ID) (hi : ¬ wOk w i) {x : Int32} {N : Nat} (hx : ¬ x < 0) (hN : x.toNatClampNeg = N) (hb9 : N * 1 ≤ 536870912) (hd : decode cc pc = .ok (.newarray .boolean, 2)) (hq : qOk X (Q.1, Q.2.1 + 1, Q.2.2 + N))
    (kk : ∀ q, gAg w (one i) (adU w i q) → gBh X (one i) (adU w i q) → gC (wM w (one i) (adU w i q)) X cc own ret d nL → gU (wM w (one i) (adU w i q)) X (Q.1, Q.2.1 + 1, Q.2.2 + N) (upE ct i (.inl (wZ w, N, .inl (fun _ => 0)))) (pc + 2) lo (.ref q :: st)) : gU w X Q ct pc lo (.int x :: st) := by
  obtain ⟨p, e, R, s, m, args, below, meth, c, n, A⟩ := X
  subst hN
  intro H locs ls hP hS hl
  refine W.newa (atype := .boolean) C.1 C.2.1 ((hY _ _ _ C.2.2.2.2.2.2.2.2.2.2.2).2.1.2 args) rfl hd rfl hx hb9 hq.1 hq.2 fun cA9 kA comp h1 h2 h3 => ?_
  have hcA : cA9 = wZ w := Option.some.inj (h1.symm.trans (C.2.2.2.2.1.2.2 4 _ rfl).2)
  subst hcA
  obtain ⟨hag, hD'⟩ := gD_one C.2.2.2.2.2.1 hP hi
  have hbh : gBh (p, e, R, s, m, args, below, meth, c, n, A) (one i) (adU w i H.size) := (fun k9 hk9 => by rw [show k9 = i from hk9]; show s.heap.size ≤ adU w i H.size i; unfold adU; rw [if_pos rfl]; exact hS.1)
  have C' := gC_M (I := one i) C hag hbh hD'
  have o1 : ∀ q, q < H.size → (H.push { cls := wZ w, slots := Array.replicate x.toNatClampNeg (defaultValue (newarray.typeOf .boolean)), vm := .none })[q]? = H[q]? := fun q hq => by rw [Array.getElem?_push, if_neg (Nat.ne_of_lt hq)]
  refine kk H.size hag hbh C' _ locs ls (gP_one hP hi o1 ?_) ⟨by simp; exact Nat.le_succ_of_le hS.1, fun q h1 h2 => (o1 q (Nat.lt_of_lt_of_le h1 hS.1)).trans (hS.2.1 q h1 h2), hS.2.2⟩ hl
  show (H.push _)[H.size]? = some (arrV (wZ w) x.toNatClampNeg (fun _ => .int 0))
  rw [← arrV_new]
  simp
  exact Or.inr rfl
/-- a row of bytes as it lies somewhere -/
def gSrc (w : WP) (X : CX) (ct : CT) (b n : Nat) (f : Nat → Int32) : Prop := match X with
  | (p, e, R, s, m, args, below, meth, c, nn, A) => ∀ (H : Heap) (locs : List Loc), gP w ct H → va_S A s.heap H locs → ∃ scr : Cell, H[b]? = some scr ∧ s.isArrayOf scr .byte ∧ scr.vm ≠ .unknown ∧ n ≤ scr.slots.size ∧ ∀ j, j < n → scr.slots[j]? = some (.int (f j))
theorem gSrc_id (C : gC w X cc own ret d nL) (i : ID) (hi : wOk w i) {n : Nat} {f : Nat → Int32} (hct : ct i = .inl (wJ w, n, .inl f)) : gSrc w X ct (wAd w i) n f := by
  obtain ⟨p, e, R, s, m, args, below, meth, c, nn, A⟩ := X
  intro H locs hP hS
  have h1 := hP i hi
  rw [hct] at h1
  have h2 : s.isArrayOf (vp_cell (wJ w) (n, .inl f)) .byte := (C.2.2.2.2.1.2.2 3 _ rfl).1 n (fun j => .int (f j))
  have h3 : (vp_cell (wJ w) (n, .inl f)).slots.size = n := arrV_size _ _ _
  refine ⟨vp_cell (wJ w) (n, .inl f), h1, h2, ?_, ?_, ?_⟩
  · intro q
    cases q
  · rw [h3]
    exact Nat.le_refl _
  · exact fun j hj => arrV_read _ _ hj
theorem gSrc_T (C : gC w X cc own ret d nL) {b n : Nat} {f : Nat → Int32} (hX : gX w X (va_T .byte b n (fun j => .int (f j)))) : gSrc w X ct b n f := by
  obtain ⟨p, e, R, s, m, args, below, meth, c, nn, A⟩ := X
  intro H locs hP hS
  have hA := C.2.2.2.2.2.2.2.2.2.1
  subst hA
  obtain ⟨cell, h1, h2, h3, h4, h5, h6, h7⟩ := va_T.kept hX hS.2.1
  exact ⟨cell, h1, h2, h3, h4, h6⟩
theorem r_acopyB (C : gC w X cc own ret d nL) (hdd : 1 ≤ d) {idx b n2 : Nat} {f2 : Nat → Int32} (hsrc : gSrc w X ct b n2 f2) (hf2 : fB f2) (i : ID) (hfr : wFr w i) {n1 : Nat} {g : Nat → Int32} (hct : ct i = .inl (wJ w, n1, .inl g)) (hlink : Cond.methodLink own idx arraycopyName ∈ lw_tbl) {sp dp c : Int32} (h1 : ¬ sp < 0) (h2 : ¬ dp < 0) (h3 : ¬ c < 0) (h4 : sp.toNatClampNeg + c.toNatClampNeg ≤ n2) (h5 : dp.toNatClampNeg + c.toNatClampNeg ≤ n1) (hst : (st.map fun v => v.category).sum ≤ 8) (hd : decode cc pc = .ok (.invokestatic idx, 3)) {ct' : CT} (hct' : ∀ q, wOk w q → upE ct i (.inl (wJ w, n1, .inl (va_cpy f2 g sp.toNatClampNeg dp.toNatClampNeg c.toNatClampNeg))) q = ct' q) (k : gU w X Q ct' (pc + 3) lo st) : gU w X Q ct pc lo (.int c :: .int dp :: .ref (wAd w i) :: .int sp :: .ref b :: st) := by
  obtain ⟨pp, ee, R, s, m, args, below, meth, cd, nn9, AA⟩ := X
  intro H locs ls hP hS hl
  have hok := C.2.2.2.2.2.1.2.1 _ hfr
  have hAA : AA = gA w s.heap.size := C.2.2.2.2.2.2.2.2.2.1
  have hR := C.2.2.2.2.2.2.2.2.2.2.1
  obtain ⟨scr, hc0, hs2, hs3, hs4, hs5⟩ := hsrc H locs hP hS
  have hc1 : H[wAd w i]? = some (vp_cell (wJ w) (n1, .inl g)) := by
    have h9 := hP i hok
    rw [hct] at h9
    exact h9
  have nn : ∀ z : Int32, ¬ z < 0 → z.toInt = (z.toNatClampNeg : Int) := by
    intro z hz
    obtain ⟨q, hq, rfl⟩ := nI_of hz
    rw [nI_toInt hq, nI_clamp hq]
  intro T hT XX
  obtain ⟨hs6, k0, hk0, cm0, hkk0⟩ := hs2
  obtain ⟨-, k1, hk1, cm1, hkk1⟩ := (C.2.2.2.2.1.2.2 3 _ rfl).1 n1 (fun j => .int (g j))
  obtain ⟨vm', X', step⟩ := XX.arraycopy C.1 C.2.2.2.1 (C.2.2.2.2.1.1.use hlink rfl) (C.2.2.2.2.1.1.use wm2_155 rfl) (C.2.2.2.2.1.1.use wm2_154 rfl) (C.2.2.2.2.1.1.use wm1_8 rfl) (src := b) (dst := wAd w i) (cs := scr) (cd := vp_cell (wJ w) (n1, .inl g)) (srcPos := sp) (destPos := dp) (n := c) (by rw [hT]; exact hc0) (by rw [hT]; exact hc1)
    hs6 (fun _ h => by cases h) hs3 (fun h => by cases h) hk0 hk1 hkk0 hkk1 (by simp [refKind]) h1 h2 h3
    (by rw [nn sp h1, nn c h3]; omega)
    (by rw [nn dp h2, nn c h3]; show ¬ _ > ((arrV (wJ w) n1 (fun j => .int (g j))).slots.size : Int); rw [arrV_size]; omega)
    (fun vm₁ _ i hi => by
      have e : scr.slots.getD (sp.toNatClampNeg + i) .null = .int (f2 (sp.toNatClampNeg + i)) := by
        rw [Array.getD_eq_getD_getElem?, hs5 _ (by omega)]
        rfl
      rw [e]
      exact ⟨hf2 _, trivial⟩)
    (g := F0 m pc ls (.int c :: .int dp :: .ref (wAd w i) :: .int sp :: .ref b :: st)) rfl (by show ls.size = cd.maxLocals; rw [hl.1, C.2.2.1]; exact C.2.2.2.2.2.2.2.2.1) (rest := st) rfl (by rw [C.2.1]; exact hd) (Nat.le_trans hdd hR.1) (by have := hR.2; show 2 * 0 + _ + ((5 + 2) + 11) ≤ R.locals; omega)
  have e1 : copied scr (vp_cell (wJ w) (n1, .inl g)) sp dp c = vp_cell (wJ w) (n1, .inl (va_cpy f2 g sp.toNatClampNeg dp.toNatClampNeg c.toNatClampNeg)) := va_copiedX (fun z => .int z) scr (wJ w) f2 g hs5 h4
  rw [e1] at X' step
  have hl9 : wAd w i < H.size := (Array.getElem?_eq_some_iff.mp hc1).1
  have hheap : ((T.setVm vm').setCell (wAd w i) (vp_cell (wJ w) (n1, .inl (va_cpy f2 g sp.toNatClampNeg dp.toNatClampNeg c.toNatClampNeg)))).heap = H.setIfInBounds (wAd w i) (vp_cell (wJ w) (n1, .inl (va_cpy f2 g sp.toNatClampNeg dp.toNatClampNeg c.toNatClampNeg))) := by rw [← hT]; rfl
  have oq : ∀ q : Nat, q ≠ wAd w i → (H.setIfInBounds (wAd w i) (vp_cell (wJ w) (n1, .inl (va_cpy f2 g sp.toNatClampNeg dp.toNatClampNeg c.toNatClampNeg))))[q]? = H[q]? := fun q hq => by simp [Array.getElem?_setIfInBounds, Ne.symm hq]
  have hA9 : AA (wAd w i) := by
    rw [hAA]
    exact Or.inl ⟨_, hfr, rfl⟩
  obtain ⟨t, a1, b1⟩ := k _ _ ls (gP_cong hct' (gP_put (e := .inl (wJ w, n1, .inl (va_cpy f2 g sp.toNatClampNeg dp.toNatClampNeg c.toNatClampNeg))) C.2.2.2.2.2.1 hok hP (show (H.setIfInBounds (wAd w i) _)[wAd w i]? = some _ by simp [Array.getElem?_setIfInBounds, hl9]) oq)) ⟨by simp; exact hS.1, fun q g1 g2 => by
      rw [oq q (fun e => g2 (by rw [e]; exact hA9))]
      exact hS.2.1 q g1 g2, fun q hq => by
      rcases List.mem_append.mp hq with h | h
      · exact hS.2.2 q h
      · obtain ⟨z, -, hz⟩ := List.mem_map.mp h
        rw [← hz]
        exact hA9⟩ hl _ hheap X'
  exact ⟨t, step t a1, b1⟩
/-- a clone of a row of bytes -/
theorem r_cloneB (C : gC w X cc own ret d nL) (hdd : 1 ≤ d) {idx : Nat} (i i2 : ID) (hi : wOk w i) (hi2 : ¬ wOk w i2) {n : Nat} {f : Nat → Int32} (hct : ct i = .inl (wJ w, n, .inl f)) (hf : fB f) (hlink : Cond.methodLink own idx ⟨"[B", "clone", "()Ljava/lang/Object;"⟩ ∈ lw_tbl) (hst : (st.map fun v => v.category).sum ≤ 8) (hd : decode cc pc = .ok (.invokevirtual idx, 3)) (hq : qOk X (Q.1, Q.2.1 + 1, Q.2.2 + n))
    (kk : ∀ q, gAg w (one i2) (adU w i2 q) → gBh X (one i2) (adU w i2 q) → gC (wM w (one i2) (adU w i2 q)) X cc own ret d nL → gU (wM w (one i2) (adU w i2 q)) X (Q.1, Q.2.1 + 1, Q.2.2 + n) (upE ct i2 (.inl (wJ w, n, .inl f))) (pc + 3) lo (.ref q :: st)) : gU w X Q ct pc lo (.ref (wAd w i) :: st) := by
  obtain ⟨p, e, R, s, m, args, below, meth, c, nn, A⟩ := X
  intro H locs ls hP hS hl
  have hR := C.2.2.2.2.2.2.2.2.2.2.1
  have h1 := hP i hi
  rw [hct] at h1
  have hT := C.2.2.2.2.1.1
  obtain ⟨-, k0, hk0, cm0, hkk0⟩ := (C.2.2.2.2.1.2.2 3 _ rfl).1 n (fun j => .int (f j))
  have hnm : s.vm.findClass "[B" = some (wJ w) := va_nm_byte (C.2.2.2.2.1.2.2 3 _ rfl).2
  have hsz : (vp_cell (wJ w) (n, .inl f)).slots.size = n := arrV_size _ _ _
  obtain ⟨c0, t0', f1, f2, f3⟩ := Cond.castable_spec (hT.use (args := args) wm6_55 rfl)
  cases hnm.symm.trans f1
  intro T hT9 XX
  have hcellT : T.heap[wAd w i]? = some (vp_cell (wJ w) (n, .inl f)) := by rw [hT9]; exact h1
  obtain ⟨-, kA, hkA, comp, hkind⟩ := State.isArrayOf_alike XX.warmed.alike ((C.2.2.2.2.1.2.2 3 _ rfl).1 0 (fun _ => .null))
  obtain ⟨-, kS, hkS, compS, hkindS⟩ := (C.2.2.2.2.1.2.2 3 _ rfl).1 0 (fun _ => .null)
  obtain ⟨vm', X', stp⟩ := XX.cloneArray C.1 C.2.2.2.1 (hT.use hlink rfl) (hT.use wx6_51 rfl) (hT.use wm6_52 rfl) (hT.use wm6_53 rfl) (hT.use wm6_54 rfl) (a := wAd w i) (cell := vp_cell (wJ w) (n, .inl f)) hcellT (fun k h => by cases h) (fun h => by cases h) hnm f2 f3
    (fun i v hv => by
      have hk' : T.vm.classes[wJ w]? = some kA := hkA
      have hcl0 : (vp_cell (wJ w) (n, .inl f)).cls = wJ w := rfl
      rw [hcl0]
      have hfit := va_fit (ty := .byte) (F := fun j => .int (f j)) (fun i _ => hf i) i v hv
      simpa [State.fitsSlot, State.slotType?, hk', hkind] using hfit)
    (g := F0 m pc ls (.ref (wAd w i) :: st)) rfl (by show ls.size = c.maxLocals; rw [hl.1, C.2.2.1]; exact C.2.2.2.2.2.2.2.2.1) rfl (by rw [C.2.1]; exact hd) (Nat.le_trans hdd hR.1) (by have := hR.2; show 2 * 0 + _ + 14 ≤ _; omega) hq.1 (by rw [hsz]; exact hq.2) (hloader := Vm.clonesLoader_of_array hkS hkindS)
  have hcellE : ({ cls := (vp_cell (wJ w) (n, .inl f)).cls, slots := (vp_cell (wJ w) (n, .inl f)).slots } : Cell) = vp_cell (wJ w) (n, .inl f) := rfl
  rw [hcellE, hsz] at X'
  obtain ⟨hag, hD'⟩ := gD_one C.2.2.2.2.2.1 hP hi2
  have hbh : gBh (p, e, R, s, m, args, below, meth, c, nn, A) (one i2) (adU w i2 H.size) := (fun k9 hk9 => by rw [show k9 = i2 from hk9]; show s.heap.size ≤ adU w i2 H.size i2; unfold adU; rw [if_pos rfl]; exact hS.1)
  have C' := gC_M (I := one i2) C hag hbh hD'
  have o1 : ∀ q, q < H.size → (H.push (vp_cell (wJ w) (n, .inl f)))[q]? = H[q]? := fun q hq => by rw [Array.getElem?_push, if_neg (Nat.ne_of_lt hq)]
  obtain ⟨t, b1, b2⟩ := kk H.size hag hbh C' _ locs ls (gP_one hP hi2 o1 (show (H.push _)[H.size]? = some (vp_cell (wJ w) (n, .inl f)) by rw [Array.getElem?_push_size])) ⟨by simp; exact Nat.le_succ_of_le hS.1, fun q h1 h2 => (o1 q (Nat.lt_of_lt_of_le h1 hS.1)).trans (hS.2.1 q h1 h2), hS.2.2⟩ hl ((T.setVm vm').pushCell (vp_cell (wJ w) (n, .inl f))) (by rw [← hT9]; rfl) X'
  refine ⟨t, stp t ?_, b2⟩
  rw [hcellE, hT9]
  exact b1
theorem r_castB (C : gC w X cc own ret d nL) {idx : Nat} (i : ID) (hi : wOk w i) {x : vp_A} (hct : ct i = .inl (wJ w, x)) (hlink : Cond.classLink own idx "[B" ∈ lw_tbl) (hlk : tkw (Cond.classLink own idx "[B") = true) (hd : decode cc pc = .ok (.checkcast idx, 3)) (kk : gU w X Q ct (pc + 3) lo (.ref (wAd w i) :: st)) : gU w X Q ct pc lo (.ref (wAd w i) :: st) := by
  obtain ⟨p, e, R, s, m, args, below, meth, c, nn, A⟩ := X
  intro H locs ls hP hS hl
  have h1 := hP i hi
  rw [hct] at h1
  exact va_castA C.1 C.2.1 C.2.2.2.1 (C.2.2.2.2.1.1.use hlink hlk) (one_P h1) 0 rfl (va_nm_byte (C.2.2.2.2.1.2.2 3 _ rfl).2) hd (kk H locs ls hP hS hl)
/-- a value laid into a final field of an object, in its class's constructor -/
theorem r_putV (C : gC w X cc own ret d nL) {mc ms : Nat} (hT9 : gTn X mc ms) {ci N idx : Nat} {cl : String} {T : u_T} {ty : Nat → FieldType} (F : gF ci cl T N ty) (k : Nat) (i : ID) (hi : wFr w i) {a : Nat} (ha : wAd w i = a) {v : Value} {fs : List Value} (hct : ct i = .inr (ci, fs)) (hk : k < N) (hlink : Cond.fieldLink own idx (T k).1 (T k).2.1 (T k).2.2.1 ∈ lw_tbl) (hfin : (T k).2.2.2 = true) (hdecl : (T k).1 = own) (hn : narrow (ty k) v = v) (hfit : fits (ty k) v = true) (hlen : k < fs.length) (hd : decode cc pc = .ok (.putfield idx, 3)) {ct' : CT} (hct' : ∀ q, wOk w q → upE ct i (.inr (ci, fs.set k v)) q = ct' q) (kk : gU w X Q ct' (pc + 3) lo st) : gU w X Q ct pc lo (v :: .ref a :: st) := by
  subst ha
  obtain ⟨p, e, R, s, m, args, below, meth, c, n, A⟩ := X
  intro H locs ls hP hS hl
  obtain ⟨F1, F2, F3, F4, F5⟩ := F
  have hoi := C.2.2.2.2.2.1.2.1 i hi
  have h1 := hP i hoi
  rw [hct] at h1
  have hts := in_ws (args := args) C.2.2.2.2.1.1 F2
  have hap := va_apart (own := own) hts (fun _ h => h) ty F3 F4 C.2.2.2.2.1.2 F1
  obtain ⟨r9, g1, cell, q1, q2, q3, q4⟩ := h1
  have hr : r9 = (cl, T, N) := Option.some.inj (g1.symm.trans F1)
  subst hr
  obtain ⟨hS9, hfc, kC, hkC, hkind⟩ := C.2.2.2.2.1.2.1 ci _ F1
  obtain ⟨cf, kf, fi, f, hi9, hsl⟩ := hS9 k hk
  have hlay := hts _ (u_in_lay hk)
  unfold u_lay at hlay
  rw [if_pos hfin] at hlay
  have hst := (u_facts hfc hkC (u_lays hts (fun _ h => h) hk) hi9).1
  have hcf : m.cls = cf := by
    obtain ⟨_, _, c', _, _, _, -, -, hf', -, -, -, hown2, -⟩ := Cond.laysFinal_spec hlay
    have e1 : c' = cf := by have := hi9.symm.trans hf'; simp at this; exact this.1.symm
    rw [hdecl] at hown2
    rw [← e1]; exact Option.some.inj (C.2.2.2.1.symm.trans hown2)
  have h6 := u_fits hfc hkC hkind (Or.inr hlay) hi9 (F3 k hk) hn hfit
  refine W.putFinK C.1 C.2.1 C.2.2.2.1 (C.2.2.2.2.1.1.use hlink rfl) hi9 hst hcf hT9.2.2 (by rw [q2]; exact h6) q1 q3 (by rw [hsl]; exact k2_hasslot (q4 k hk)) rfl rfl hd fun H' e1 e2 e3 => ?_
  rw [hsl] at e1 ⊢
  refine kk H' _ ls (gP_cong hct' <| gP_put C.2.2.2.2.2.1 hoi hP ⟨_, F1, t_OB.to (V := updV (vp_V fs) k v) ⟨_, e1, q2, q3, t_set q4 hap hk v⟩ (fun j _ => vp_updV_set hlen v j)⟩ e3) (hS.put e2 e3 ?_) hl
  rw [C.2.2.2.2.2.2.2.2.2.1]
  exact Or.inl ⟨i, hi, rfl⟩
/-- a call of a method that makes nothing, found on objects of class Cq -/
theorem r_callB (C : gC w X cc own ret d nL) {Cq : String} {y : MethodName} {ccy : ByteArray} {nLy ny idx d' b : Nat} {rety : Option FieldType} {v : Option Value} {ct' : CT} (As : List Value) (hM : gM w d' y ccy nLy rety (.ref b :: As) ct v ct') (Y : gYB y ccy nLy rety ny) (hsel : gSel w X Cq y) (hli : Cond.methodLink own idx y ∈ lw_tbl) (hrc : gRc w ct b Cq) (hn : As.length = ny) (hdd : d' + 1 ≤ d) (hnl : nLy ≤ 21) (hst : (st.map fun v => v.category).sum ≤ 8) {stk : List Value} (hstk : stk = As.reverse ++ .ref b :: st) (hd : decode cc pc = .ok (.invokevirtual idx, 3)) (k : gU w X Q ct' (pc + 3) lo (v.toList ++ st)) (hq : qOk X Q := by first | exact qOk0 rfl rfl | assumption) : gU w X Q ct pc lo stk := by
  refine g_on C k ?_
  obtain ⟨p, e, R, s, m, args, below, meth, c, n, A⟩ := X
  intro H locs ls hP hS hl
  have hA0 := C.2.2.2.2.2.2.2.2.2.1
  subst hA0
  obtain ⟨i, ci, fs, q, g1, g2, g3, g4, g5⟩ := hrc
  have h1 := hP i g1
  rw [g3] at h1
  refine ⟨_, va_runV (As := As) (rest := st) (Ts := []) (own := own) (C := Cq) ⟨C.1, C.2.1, C.2.2.1, C.2.2.2.1, fun _ h => by cases h⟩ (hM H.size) ⟨gB C.2.2.2.2.1.1 Y.1 Y.2.1 Y.2.2.1 hli C.2.2.2.2.2.2.2.2.2.2.1 hdd hnl, C.2.2.2.2.1.1.use Y.2.2.2 rfl, va_Nw.use rfl hsel⟩ ⟨(gPc C.2.2.2.2.1 C.2.2.2.2.2.1 hP C.2.2.2.2.2.2.2.2.2.2.2 hS).1, ?_, (gPc C.2.2.2.2.1 C.2.2.2.2.2.1 hP C.2.2.2.2.2.2.2.2.2.2.2 hS).2⟩ rfl hn ?_ hstk (lv_room hst) hd hq⟩
  · have := va_recv C.2.2.2.2.1.2 (one_P h1) (q0 := 0) g4 rfl
    rw [g2, g5] at this
    exact this
  · rw [hl.1]
    exact C.2.2.2.2.2.2.2.2.1
end BROWS
/-- a private method of the class that y0 is of -/
theorem sel_priv {Cq : String} {y y0 : MethodName} (hc : y0.cls = y.cls) (hy : y.cls ≠ "java/lang/invoke/MethodHandle" ∧ y.cls ≠ "java/lang/invoke/VarHandle") {s : State} {args : Array Value} (h0 : (Cond.selects Cq y0 y0).before args s = true) (hpriv : (Cond.privateMethod y).before args s = true) (hinst : (Cond.instanceMethod y).before args s = true) : (Cond.selects Cq y y).before args s = true := by
  obtain ⟨mk, methM, hnamed, hmethM, -, -⟩ := Cond.instanceMethod_spec hinst
  have hfound : s.methodFound? y.cls y.name y.desc = some mk := State.methodFound?_of_named hnamed hy
  obtain ⟨c2, r2, m2, q1, q2, q3, q4, kP, hkP, hkPi⟩ := Cond.selects_spec h0
  have hcl : mk.cls = m2.cls := by
    have e1 := findClass_of_methodNamed hnamed
    have e2 := findClass_of_methodNamed q3
    rw [hc] at e2
    exact Option.some.inj (e1.symm.trans e2)
  have hsel : selectMethod {} s.vm c2 mk = .method mk := selectMethod_private hmethM (Cond.privateMethod_at hpriv mk methM hnamed hmethM)
  simp only [Cond.before, Cond.holds, Cond.value, q1, hfound, hnamed, hsel, hcl, hkP]
  simp
  exact hkPi
