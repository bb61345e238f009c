/-! THE CLAIM OUT OF ONE WALK OF THE LAW'S BODY. Your part is whole_start (and what it stands on); all else here is the same for every law, but numbers. -/
def R_law : String := "HedgeMessagesLaw"
def lw_P (b : Addr) (xs : List Int32) (args : Array Value) (s : State) : Prop := args = #[.ref b] ∧ s.IntsAt b xs ∧ xs.length ≤ 3072 ∧ (Jvm.Cond.and given_1 narrow_1).before args s = true
/-- what a walk over the start with the record d0 says of its end, said of the start itself -/
theorem lw_closed {s t : State} {o : Outcome} {d0 : Drawn} {L : List Loc} {k n : Nat} (hd0 : s.drawn.sameBut d0 lw_cs) (hv : ∃ v, o = .returned v) (hW : (s.setDrawn d0).WarmedH t.vm) (hs : (s.setDrawn d0).sameButNew ({ t with vm := s.vm } : State) L k n) : State.butDraws s t lw_cs (fun t1 => Framed s o t1 L k n) := by
  have h2 : t.drawn = d0 := congrArg State.drawn hs.1
  refine ⟨⟨hv, hW, State.sameButNew.setDrawn hs s.drawn⟩, ?_, by decide⟩
  rw [h2]
  exact hd0
def lw_Q (_ : Array Value) (s : State) (o : Outcome) (t : State) : Prop := o = .returned (some (.int 1)) ∧ State.butDraws s t lw_cs (fun t1 => Framed s o t1 [] 601024 7293034)
def lw_Z (below : List Frame) (a : Array Value) (s : State) : State → Prop := fun t => ∃ o, t.status = .running ∧ Ended t below o ∧ lw_Q a s o t
/-- the law's own end, with 1 on the stack, nothing written that was there before, its room as the claim has it; d0: the record of draws at this point (at the entry s.drawn: begin with 'refine W.base ?_' and 'have hd0 := Drawn.sameBut.refl s.drawn lw_cs') -/
theorem lw_ret {p : Program} {l : Launch} {e : Env} {s : State} {m : MethodId} {below : List Frame} {meth : Method} {c : Code} {b : Nat} {d0 : Drawn} (hd0 : s.drawn.sameBut d0 lw_cs) (hx : p.tables.exec = Jvm.exec) (hb : c.code = code) (hr : meth.sig.returnType = ret) (hlocks : meth.locks = false) {pc : Nat} {H : Heap} {ls : Array Slot} (hdg : decode code pc = .ok (.ireturn, 1)) : W p l e room_1 (s.setDrawn d0) m #[Value.ref b] below meth c H [] 601024 7293034 (lw_Z below #[Value.ref b] s) (F0 m pc ls [.int 1]) := by
  intro T hT X
  obtain ⟨fs, hret, hrun, hended, hW, hframe⟩ := X.leave (v := some (.int 1)) (hlocks := hlocks) (fun h => by rw [hr] at h; cases h)
  have hmeth' : T.vm.method? m = some meth := X.method'
  refine ⟨T.setFrames fs, ?_, .returned (some (.int 1)), hrun, hended, rfl, lw_closed hd0 ⟨_, rfl⟩ hW hframe⟩
  jvm_step X.here [X.here.top, hx, hb, hdg, hmeth', hr, ret, narrow_b1]
  (try refine ⟨rfl, ?_⟩); (try refine ⟨rfl, ?_⟩)
  first | (intro acts; rw [hret _ acts rfl rfl rfl]) | rw [hret _ _ rfl rfl rfl]
  exact Steps.refl _
/-- what holds at the law's entry: the machine, the code, the tables' words (any of lw_tbl by 'hts w (by decide +kernel)'), the script of L ints xs at the cell b, what the Statement gives of the start (any of its parts by flat_of_before) -/
def lw_At (p : Program) (s : State) (m : MethodId) (meth : Method) (c : Code) (b L : Nat) (xs : Nat → Int32) : Prop :=
  p.tables.exec = Jvm.exec ∧ c.code = code ∧ meth.sig.returnType = ret ∧ c.maxLocals = 9 ∧ s.vm.findClass R_law = some m.cls ∧ (∀ w ∈ lw_tbl, w.before #[Value.ref b] s = true) ∧ va_X b L xs s s.heap ∧ b < s.heap.size ∧ meth.locks = false ∧ (Jvm.Cond.and given_1 narrow_1).before #[Value.ref b] s = true
theorem r_newJ {w : WP} {X : CX} {cc : ByteArray} {own : String} {ret : Option FieldType} {d nL : Nat} {Q : QT} {ct : CT} {pc : Nat} {lo : List (Nat × Value)} {st : List Value} (C : gC w X cc own ret d nL) (hY : gY w) (i : ID) (hi : ¬ wOk w i) {x : Int32} {N : Nat} (hx : ¬ x < 0) (hN : x.toNatClampNeg = N) (hb9 : N * 8 ≤ 536870912) (hd : decode cc pc = .ok (.newarray .long, 2)) (hq : qOk X (Q.1, Q.2.1 + 1, Q.2.2 + N))
    (kk : ∀ q, gAg w (one i) (adU w i q) → gBh X (one i) (adU w i q) → gC (wM w (one i) (adU w i q)) X cc own ret d nL → gU (wM w (one i) (adU w i q)) X (Q.1, Q.2.1 + 1, Q.2.2 + N) (upE ct i (.inl (wJ w, N, .inr (.inl (fun _ => 0))))) (pc + 2) lo (.ref q :: st)) : gU w X Q ct pc lo (.int x :: st) := by
  obtain ⟨p, e, R, s, m, args, below, meth, c, n, A⟩ := X
  subst hN
  intro H locs ls hP hS hl
  refine W.newa (atype := .long) C.1 C.2.1 ((hY _ _ _ C.2.2.2.2.2.2.2.2.2.2.2).2.1 args) rfl hd rfl hx hb9 hq.1 hq.2 fun cA9 kA comp h1 h2 h3 => ?_
  have hcA : cA9 = wJ w := Option.some.inj (h1.symm.trans (C.2.2.2.2.1.2.2 3 _ rfl).2)
  subst hcA
  obtain ⟨hag, hD'⟩ := gD_one C.2.2.2.2.2.1 hP hi
  have hbh : gBh (p, e, R, s, m, args, below, meth, c, n, A) (one i) (adU w i H.size) := (fun k9 hk9 => by rw [show k9 = i from hk9]; show s.heap.size ≤ adU w i H.size i; unfold adU; rw [if_pos rfl]; exact hS.1)
  have C' := gC_M (I := one i) C hag hbh hD'
  have o1 : ∀ q, q < H.size → (H.push { cls := wJ w, slots := Array.replicate x.toNatClampNeg (defaultValue (newarray.typeOf .long)), vm := .none })[q]? = H[q]? := fun q hq => by rw [Array.getElem?_push, if_neg (Nat.ne_of_lt hq)]
  refine kk H.size hag hbh C' _ locs ls (gP_one hP hi o1 ?_) ⟨by simp; exact Nat.le_succ_of_le hS.1, fun q h1 h2 => (o1 q (Nat.lt_of_lt_of_le h1 hS.1)).trans (hS.2.1 q h1 h2), hS.2.2⟩ hl
  show (H.push _)[H.size]? = some (arrV (wJ w) x.toNatClampNeg (fun _ => .long 0))
  rw [← arrV_new]
  simp
  exact Or.inr rfl
theorem okB {z : ID} (h : IB z) : okX z := by
  rcases h with ((h | h) | h) | h
  · exact Or.inl (A_okC h)
  · rcases h with rfl | rfl
    · exact okT3 (by decide)
    · exact okT4 (by decide)
  · rcases h with rfl | rfl
    · exact okT3 (by decide)
    · exact okT4 (by decide)
  · rcases h with rfl | rfl
    · exact okT3 (by decide)
    · exact okT4 (by decide)
theorem tgB {z : ID} (h : IB z) : z.1 ≤ 10 := by
  rcases h with ((h | h) | h) | h
  · have h9 := A_okC h
    obtain ⟨k, j, p, a⟩ := z
    by_cases hk : k ≤ 10
    · exact hk
    · exfalso
      obtain ⟨k', rfl⟩ : ∃ q, k = q + 11 := ⟨k - 11, by omega⟩
      exact h9
  · have := tg_R h; omega
  · have := tg_R h; omega
  · have := tg_R h; omega
theorem okM_at {k j p a : Nat} (h : okM (k, j, p, a)) : (k, j, p, a) = ((11, 12, 0, 0) : ID) ∨ ∃ a', okMa a' ∧ (k, j, p, a) = ((12, 12, 0, a') : ID) := by
  match k, h with
  | 0, h | 1, h | 2, h | 3, h | 4, h | 5, h | 6, h | 7, h | 8, h | 9, h | 10, h => exact (h : False).elim
  | k + 13, h => exact (h : False).elim
  | 11, h =>
    obtain ⟨h1, h2, h3⟩ := h
    have h1 : j = 12 := h1
    have h2 : p = 0 := h2
    have h3 : a = 0 := h3
    subst h1 h2 h3
    exact Or.inl rfl
  | 12, h =>
    obtain ⟨h1, h2, h3⟩ := h
    have h1 : j = 12 := h1
    have h2 : p = 0 := h2
    subst h1 h2
    exact Or.inr ⟨a, h3, rfl⟩
set_option maxRecDepth 40000 in
set_option maxHeartbeats 4000000 in
/-- from the entry to the loop -/
theorem lw_head {w : WP} {X : CX} {b L : Nat} {xs : Nat → Int32} {Q1 : State → Prop} (hok : ∀ i, ¬ wOk w i) (hfr : ∀ i, ¬ wFr w i) (hS : gS w) (hZ : gZ w) (hY : gY w) (C : gC w X cL_law "HedgeMessagesLaw" (some .boolean) 15 9) (hX : gSc X b L xs) (hL3 : L ≤ 3072) (hroom : ∀ c n, c ≤ 4096 → n ≤ 60000 → qOk X (Q1, c, n)) (hend : ∀ w5 : WP, gC w5 X cL_law "HedgeMessagesLaw" (some .boolean) 15 9 → wL w5 = wL w → ∀ (S : SS) (τ : HV) (o : Nat → Int64) (c n : Nat) (i : Int32), c ≤ 4096 → n ≤ 60000 → gU w5 X (Q1, c, n) (cA w5 (S, τ, o)) 3014 (LO w5 b i) []) (ct : CT) : gU w X (Q1, 0, 0) ct 0 [(0, .ref b)] [] := by
  have hq : ∀ c n, c ≤ 4096 → n ≤ 60000 → qOk X (Q1, c, n) := hroom
  -- the class's object
  refine r_new C F10 wm1_26 rfl wm1_27 wm1_1 (7, 11, 6, 0) (hok _) (fs := fsA) (fun j hj => by match j, hj with | 0, _ | 1, _ | 2, _ | 3, _ | 4, _ | 5, _ | 6, _ | 7, _ | 8, _ => rfl | j + 9, h => exact absurd h (by omega)) dL_law_0 (hq _ _ (kR rfl) (kR rfl)) fun q1 hag1 hbh1 C1 => ?_
  have hS1 : gS (wM w (one (7, 11, 6, 0)) (adU w (7, 11, 6, 0) q1)) := gS_M hS hag1 (fun z hz => by cases hz; exact Or.inl (by decide))
  have e1 : adU w (7, 11, 6, 0) q1 (7, 11, 6, 0) = q1 := if_pos rfl
  generalize adU w (7, 11, 6, 0) q1 = ad1 at hag1 hbh1 C1 hS1 e1 ⊢
  have hx1 : ∀ z, wOk (wM w (one (7, 11, 6, 0)) ad1) z ↔ z = (7, 11, 6, 0) := fun z => ⟨fun h => h.elim (fun h => absurd h (hok z)) id, Or.inr⟩
  refine r_dup C1 rfl dL_law_3 ?_
  refine r_ctor C1 (d' := 5) [] (c_X10_init (gD_C C1) (gY_M hY) hS1 hx1 (Or.inr rfl) e1 (ct := upE ct (7, 11, 6, 0) (.inr (7, fsA))) upE_s) myX10_init wm1_28 rfl (kR rfl) (by decide) (kR rfl) rfl dL_law_4 (hq _ _ (kR rfl) (kR rfl)) fun ad2 hag2 hbh2 C2 => ?_
  have hS2 := gS_M hS1 hag2 (fun z hz => Or.inl (by have := tgB hz; omega))
  have hagF2 := gAg_M hag1 hag2
  have hbhF2 := gBh_M hbh1 hag2 hbh2
  have e2 : ad2 (7, 11, 6, 0) = q1 := (hag2.1 _ (Or.inr rfl)).trans e1
  have eW2 : wM (wM w (one (7, 11, 6, 0)) ad1) IB ad2 = wM w (fun z => one (7, 11, 6, 0) z ∨ IB z) ad2 := wM_M
  rw [eW2] at C2 hS2 ⊢
  have hn2 : ∀ z, wOk (wM w (fun z => one (7, 11, 6, 0) z ∨ IB z) ad2) z → okX z ∧ z.1 ≤ 10 := fun z hz => hz.elim (fun h => absurd h (hok z)) (fun h => h.elim (fun h => by cases h; exact ⟨Or.inl k7, by decide⟩) (fun h => ⟨okB h, tgB h⟩))
  refine r_astore_n C2 (lo' := [(1, .ref q1), (0, .ref b)]) rfl (by decide) rfl dL_law_7 ?_
  -- the other machine's object
  refine r_new C2 F11 wm6_169 rfl wm6_170 wm1_14 (11, 12, 0, 0) (fun h => absurd (hn2 _ h).2 (by decide)) (fs := fsM0) (fun j hj => by match j, hj with | 0, _ | 1, _ | 2, _ | 3, _ | 4, _ | 5, _ | 6, _ | 7, _ | 8, _ | 9, _ | 10, _ | 11, _ | 12, _ | 13, _ | 14, _ | 15, _ | 16, _ | 17, _ | 18, _ | 19, _ | 20, _ | 21, _ | 22, _ => rfl | j + 23, h => exact absurd h (by omega)) dL_law_8 (hq _ _ (kR rfl) (kR rfl)) fun q3 hag3 hbh3 C3 => ?_
  have hS3 := gS_M hS2 hag3 (fun z hz => by cases hz; exact Or.inl (by decide))
  have e3 : adU (wM w (fun z => one (7, 11, 6, 0) z ∨ IB z) ad2) (11, 12, 0, 0) q3 (11, 12, 0, 0) = q3 := if_pos rfl
  generalize adU (wM w (fun z => one (7, 11, 6, 0) z ∨ IB z) ad2) (11, 12, 0, 0) q3 = ad3 at hag3 hbh3 C3 hS3 e3 ⊢
  have hx3 : ∀ z, wOk (wM (wM w (fun z => one (7, 11, 6, 0) z ∨ IB z) ad2) (one (11, 12, 0, 0)) ad3) z → okX z ∧ z.1 ≤ 11 := fun z hz => hz.elim (fun h => ⟨(hn2 z h).1, by have := (hn2 z h).2; omega⟩) (fun h => by cases h; exact ⟨Or.inr (Or.inl k11), by decide⟩)
  obtain ⟨τ', f1, f2, f3, f4, f5, f6, f7, f8, f9, f10⟩ := MI (t := tI) (s := tI.2 0) (N := 6001) (fun k hk => by
    show ltr 27 98 k = _
    unfold ltr
    rw [if_pos hk]
    exact (tL_ch k hk).1) sS_1 (by decide)
  rw [sA_id rfl] at f1
  refine r_dup C3 rfl dL_law_11 ?_
  refine r_ctor C3 (d' := 7) [] (c_X11_init (gD_C C3) (gY_M (gY_M hY)) hS3 (fun z hz => (hx3 z hz).1) (fun a h => absurd (hx3 _ h).2 (by show ¬ 12 ≤ 11; decide)) (Or.inr rfl) e3 (S := OmI.1) (o := fun _ => 0) (ct := upE (cA (wM w (fun z => one (7, 11, 6, 0) z ∨ IB z) ad2) OmI) (11, 12, 0, 0) (.inr (8, fsM0))) (fun z hz => ?_) f1) myX11_init wm6_171 rfl (kR rfl) (by decide) (kR rfl) rfl dL_law_12 (hq _ _ (kR rfl) (kR rfl)) fun ad4 hag4 hbh4 C4 => ?_
  · by_cases h : z = (11, 12, 0, 0)
    · subst h
      rw [upE_s, upE_s]
    · rw [upE_n h, upE_n h]
      have eW3 : wM (wM w (fun z => one (7, 11, 6, 0) z ∨ IB z) ad2) (one (11, 12, 0, 0)) ad3 = wM w (fun z => (one (7, 11, 6, 0) z ∨ IB z) ∨ one (11, 12, 0, 0) z) ad3 := wM_M
      rw [eW3]
      exact cA_K (fun k j p a9 hk => (hag3.2 _ (fun h9 => by have h9 : k = 11 := congrArg Prod.fst h9; omega)).symm) rfl rfl rfl z (fun h9 => h (x_11 (hx3 z hz).1 h9))
  have hS4 := gS_M hS3 hag4 (fun z hz => Or.inl (by have := (IM9_x hz).1; omega))
  have hagF3 := gAg_M hagF2 hag3
  have hbhF3 := gBh_M hbhF2 hag3 hbh3
  have hx4 : ∀ z, wOk (wM (wM (wM w (fun z => one (7, 11, 6, 0) z ∨ IB z) ad2) (one (11, 12, 0, 0)) ad3) IM ad4) z → okX z ∧ z.1 ≤ 12 := fun z hz => hz.elim (fun h => ⟨(hx3 z h).1, by have := (hx3 z h).2; omega⟩) (fun h => ⟨Or.inr (Or.inl (IM9_x h).2), by have := (IM9_x h).1; omega⟩)
  refine r_astore_n C4 (lo' := [(2, .ref q3), (1, .ref q1), (0, .ref b)]) rfl (by decide) rfl dL_law_15 ?_
  refine r_iconst C4 (v := nI 1) rfl dL_law_16 ?_
  refine r_newJ C4 (gY_M (gY_M (gY_M hY))) (14, 13, 0, 0) (fun h => absurd (hx4 _ h).2 (by decide)) (nI_pos (by decide)) (nI_clamp (by decide)) (by decide) dL_law_17 (hq _ _ (kR rfl) (kR rfl)) fun q5 hag5 hbh5 C5 => ?_
  have hS5 := gS_M hS4 hag5 (fun z hz => by cases hz; exact Or.inr rfl)
  have e5 : adU (wM (wM (wM w (fun z => one (7, 11, 6, 0) z ∨ IB z) ad2) (one (11, 12, 0, 0)) ad3) IM ad4) (14, 13, 0, 0) q5 (14, 13, 0, 0) = q5 := if_pos rfl
  generalize adU (wM (wM (wM w (fun z => one (7, 11, 6, 0) z ∨ IB z) ad2) (one (11, 12, 0, 0)) ad3) IM ad4) (14, 13, 0, 0) q5 = ad5 at hag5 hbh5 C5 hS5 e5 ⊢
  have a11 : ad5 (11, 12, 0, 0) = q3 := (hag5.1 _ (Or.inl (Or.inr rfl))).trans ((hag4.1 _ (Or.inr rfl)).trans e3)
  have a7 : ad5 (7, 11, 6, 0) = q1 := (hag5.1 _ (Or.inl (Or.inl (Or.inr (Or.inl rfl))))).trans ((hag4.1 _ (Or.inl (Or.inr (Or.inl rfl)))).trans ((hag3.1 _ (Or.inr (Or.inl rfl))).trans e2))
  generalize hw5 : wM (wM (wM (wM w (fun z => one (7, 11, 6, 0) z ∨ IB z) ad2) (one (11, 12, 0, 0)) ad3) IM ad4) (one (14, 13, 0, 0)) ad5 = w5 at C5 hS5 ⊢
  have wA5 : wAd w5 = ad5 := by
    rw [← hw5]
    rfl
  have ok5 : ∀ z, wOk w5 z → okX z := fun z hz => by
    rw [← hw5] at hz
    exact hz.elim (fun h => (hx4 z h).1) (fun h => by cases h; exact Or.inr (Or.inr ⟨rfl, rfl, rfl⟩))
  have fr5 : ∀ z, (z = (7, 11, 6, 0) ∨ IB z ∨ z = (11, 12, 0, 0) ∨ IM z ∨ z = (14, 13, 0, 0)) → wFr w5 z := fun z hz => by
    rw [← hw5]
    rcases hz with h | h | h | h | h
    · exact Or.inl (Or.inl (Or.inl (Or.inr (Or.inl h))))
    · exact Or.inl (Or.inl (Or.inl (Or.inr (Or.inr h))))
    · exact Or.inl (Or.inl (Or.inr h))
    · exact Or.inl (Or.inr h)
    · exact Or.inr h
  have hD5 := gD_C C5
  have hW5 : gW w5 := ⟨ok5, fun z hz => (okC_A hz).elim (fun h => fr5 z (Or.inl h)) (fun h => fr5 z (Or.inr (Or.inl (Or.inl (Or.inl (Or.inl h)))))), hD5⟩
  have hM5 : gWM w5 := by
    refine ⟨ok5, fun z hz => ?_, hD5⟩
    rcases okM_at (k := z.1) (j := z.2.1) (p := z.2.2.1) (a := z.2.2.2) hz with h | ⟨a', ha, h⟩
    · exact fr5 z (Or.inr (Or.inr (Or.inl h)))
    · refine fr5 z (Or.inr (Or.inr (Or.inr (Or.inl ?_))))
      rw [show z = (12, 12, 0, a') from h]
      exact IM_ok ha
  have hZ5 : gZ w5 := by rw [← hw5]; exact gZ_M (gZ_M (gZ_M (gZ_M hZ)))
  have hl5 : wL w5 = wL w := by rw [← hw5]; rfl
  refine gU_P (ct' := cA w5 (OmI.1, τ', fun _ => 0)) (fun z hz => ?_) ?_
  · by_cases h : z = (14, 13, 0, 0)
    · subst h
      rw [upE_s, ← hw5]
      rfl
    · rw [upE_n h, ← hw5]
      have hz4 : wOk (wM (wM (wM w (fun z => one (7, 11, 6, 0) z ∨ IB z) ad2) (one (11, 12, 0, 0)) ad3) IM ad4) z := by
        rw [← hw5] at hz
        exact hz.elim id (fun h9 => absurd h9 h)
      by_cases h1 : z = (11, 12, 0, 0)
      · subst h1
        have am : ∀ a, okMa a → ad4 (12, 12, 0, a) = ad5 (12, 12, 0, a) := fun a ha => (hag5.1 _ (Or.inr (IM_ok ha))).symm
        show (Sum.inr (8, [.ref (ad4 (12, 12, 0, 0)), .ref (ad4 (12, 12, 0, 1)), .ref (ad4 (12, 12, 0, 2)), .ref (ad4 (12, 12, 0, 3)), .ref (ad4 (12, 12, 0, 4)), _, _, _, _, .ref (ad4 (12, 12, 0, 9)), .ref (ad4 (12, 12, 0, 10)), _, _, _, _, _, _, _, _, .ref (ad4 (12, 12, 0, 19)), _, .ref (ad4 (12, 12, 0, 21)), _]) : va_E) = _
        rw [am 0 (by unfold okMa; decide), am 1 (by unfold okMa; decide), am 2 (by unfold okMa; decide), am 3 (by unfold okMa; decide), am 4 (by unfold okMa; decide), am 9 (by unfold okMa; decide), am 10 (by unfold okMa; decide), am 19 (by unfold okMa; decide), am 21 (by unfold okMa; decide)]
        rfl
      · have eW4 : wM (wM (wM w (fun z => one (7, 11, 6, 0) z ∨ IB z) ad2) (one (11, 12, 0, 0)) ad3) IM ad4 = wM w (fun z => (one (7, 11, 6, 0) z ∨ IB z) ∨ (one (11, 12, 0, 0) z ∨ IM z)) ad4 := by rw [wM_M, wM_M]
        rw [eW4, wM_M]
        exact cA_K (fun k j p a9 hk => (hag5.2 _ (fun h9 => by have h9 : k = 14 := congrArg Prod.fst h9; omega)).symm) rfl rfl rfl z (fun h9 => h1 (x_11 (hx4 z hz4).1 h9))
  refine r_astore_n C5 (lo' := [(3, .ref q5), (2, .ref q3), (1, .ref q1), (0, .ref b)]) rfl (by decide) rfl dL_law_19 ?_
  refine r_iconst C5 (v := nI 0) rfl dL_law_20 ?_
  refine r_istore C5 (lo' := [(4, .int (nI 0)), (3, .ref q5), (2, .ref q3), (1, .ref q1), (0, .ref b)]) (by decide) rfl dL_law_21 ?_
  have b7 : wAd w5 (7, 11, 6, 0) = q1 := by rw [wA5]; exact a7
  have b11 : wAd w5 (11, 12, 0, 0) = q3 := by rw [wA5]; exact a11
  have b14 : wAd w5 (14, 13, 0, 0) = q5 := by rw [wA5]; exact e5
  refine r_lo [0, 4, 3, 2, 1] (lo' := LO w5 b (nI 0)) (by unfold LO; rw [b7, b11, b14]; rfl) ?_
  exact lw_loop (w := w5) ⟨hW5, hM5, hS5, hZ5, fr5 _ (Or.inr (Or.inr (Or.inr (Or.inr rfl)))), C5, hX⟩ hL3 hroom (hend w5 C5 hl5) (L + 1) 0 OmI.1 τ' (fun _ => 0) _ _ 0 (by omega) (by omega) (LR_I f2 f3 f4 (by rw [f9]; rfl) f6 f7 f8 (by rw [f10]; rfl)) (by omega) (kR rfl) (kR rfl)
set_option maxHeartbeats 4000000 in
/-- from the entry, for every script of at most 3072 ints, the law comes to its end with true -/
theorem whole_start {p : Program} {e : Env} {s : State} {m : MethodId} {below : List Frame} {meth : Method} {c : Code} (l : Launch) (hflags : l.flags = flags0) {b L : Nat} {xs : Nat → Int32} (hL : L ≤ 3072) (C0 : lw_At p s m meth c b L xs) : W p l e room_1 s m #[Value.ref b] below meth c s.heap [] 0 0 (lw_Z below #[Value.ref b] s) (entryFrame m ([Value.ref b] : List Value).toArray 9) := by
  obtain ⟨hx, hb, hr, hml, hown, hts, hX, hbl, hlocks, hgv⟩ := id C0
  have hn : narrow_1.before #[Value.ref b] s = true := zr_ hgv
  have hst : l.stackTraces = false := by
    unfold Launch.stackTraces
    rw [hflags]
    have h : flags0.contains noTraceFlag = true := by first | decide +kernel | simp [flags0]
    rw [h]
    rfl
  obtain ⟨w, hw, hok, hfr, hK, hD, hS, hZ, hY, hE⟩ := w_start hts hn l hst
  subst hw
  have C : gC w (p, e, room_1, s, m, #[Value.ref b], below, meth, c, 9, gA w s.heap.size) cL_law "HedgeMessagesLaw" (some .boolean) 15 9 := ⟨hx, hb, hml, hown, hK, hD, hr, hlocks, rfl, rfl, ⟨by decide, by decide⟩, hE⟩
  have hA : ∀ q, gA w s.heap.size q → s.heap.size ≤ q := fun q h => h.elim (fun ⟨i, h, _⟩ => absurd h (hfr i)) id
  have key : gU w (p, e, room_1, s, m, #[Value.ref b], below, meth, c, 9, gA w s.heap.size) (lw_Z below #[Value.ref b] s, 0, 0) (fun _ => .inr (0, [])) 0 [(0, .ref b)] [] := by
    refine lw_head (L := L) (xs := xs) hok hfr hS hZ hY C ⟨hX, hbl, fun h => absurd (hA b h) (Nat.not_le.mpr hbl)⟩ hL (fun c n hc hn => ⟨Nat.le_trans hc (by decide), Nat.le_trans hn (by decide)⟩) (fun w5 C5 hl5 S τ o c n i hc hn => ?_) _
    refine r_iconst C5 (v := 1) rfl dL_law_3014 ?_
    intro H locs ls hP hS9 hl9
    rw [hl5]
    refine W.widen (k := 601024) (n := 7293034) (Nat.le_trans hc (by decide)) (Nat.le_trans hn (by decide)) ?_
    refine va_forget (fun q hq => hA _ (hS9.2.2 q hq)) ?_
    refine W.base ?_
    exact lw_ret (Drawn.sameBut.refl s.drawn lw_cs) hx hb hr hlocks dL_law_3015
  have hl := lv_entry ([.ref b]) (n := 9) (Nat.le_of_ble_eq_true rfl)
  rw [lg_entry_eq]
  exact key s.heap [] _ (fun i hi => absurd hi (hok i)) va_S.rf hl
