/-! ===== cons 6: receiveText and the constructor of the class ===== -/
theorem EXs_M {w : WP} {I : ID → Prop} {ad : ID → Nat} (h : ∀ k j, 13 ≤ k → k ≠ 14 → k < 30 → ad (k, j, 0, 0) = wAd w (k, j, 0, 0)) {A : Nat → Prop} {U : State} {H : Heap} : EXs w A U H → EXs (wM w I ad) A U H := by
  rintro ⟨h1, h2, h3, h4⟩
  refine ⟨h1, ?_, fun i hi => ?_, fun i hi => ?_⟩
  · show va_Z _ _ _ (sfV (ad (19, 0, 0, 0))) A U H
    rw [h 19 0 (by decide) (by decide) (by decide)]
    exact h2
  · show vk_R _ _ _ (ad (15, i, 0, 0)) U
    rw [h 15 i (by decide) (by decide) (by decide)]
    exact h3 i hi
  · show va_O "java/lang/String" (ad (15, i, 0, 0)) A U H ∧ va_OF "java/lang/String" "coder" "B" (.int 0) (ad (15, i, 0, 0)) A U H ∧ va_OF "java/lang/String" "value" "[B" (.ref (ad (16, i, 0, 0))) (ad (15, i, 0, 0)) A U H ∧ va_T .byte (ad (16, i, 0, 0)) (sTx i).length (fun j => .int ((sTx i).getD j 0)) A U H
    rw [h 15 i (by decide) (by decide) (by decide), h 16 i (by decide) (by decide) (by decide)]
    exact h4 i hi
theorem EXd_M {w : WP} {I : ID → Prop} {ad : ID → Nat} (h : ∀ k j, 13 ≤ k → k ≠ 14 → k < 30 → ad (k, j, 0, 0) = wAd w (k, j, 0, 0)) {A : Nat → Prop} {U : State} {H : Heap} : EXd w A U H → EXd (wM w I ad) A U H := by
  rintro ⟨h1, h2, h3, h4, h5⟩
  refine ⟨?_, ?_, ?_, ?_, h5⟩
  · show va_Z _ _ _ (.ref (ad (17, 0, 0, 0))) A U H
    rw [h 17 0 (by decide) (by decide) (by decide)]
    exact h1
  · show va_T _ (ad (17, 0, 0, 0)) 100 _ A U H
    rw [h 17 0 (by decide) (by decide) (by decide)]
    exact h2
  · show va_Z _ _ _ (.ref (ad (18, 0, 0, 0))) A U H
    rw [h 18 0 (by decide) (by decide) (by decide)]
    exact h3
  · show va_T _ (ad (18, 0, 0, 0)) 100 _ A U H
    rw [h 18 0 (by decide) (by decide) (by decide)]
    exact h4
theorem gS_M {w : WP} {I : ID → Prop} {ad : ID → Nat} (hS : gS w) (hag : gAg w I ad) (hI : ∀ z, I z → z.1 < 13 ∨ z.1 = 14) : gS (wM w I ad) := by
  have h : ∀ k j, 13 ≤ k → k ≠ 14 → k < 30 → ad (k, j, 0, 0) = wAd w (k, j, 0, 0) := fun k j h1 h2 _ => hag.2 _ (fun h => by rcases hI _ h with h | h <;> simp at h <;> omega)
  exact fun A U H hE => ⟨EXs_M h (hS A U H hE).1, EXd_M h (hS A U H hE).2⟩
theorem gS_N {w : WP} {I : ID → Prop} {ad : ID → Nat} (hS : gS w) (hag : gAg w I ad) (hI : ∀ z, I z → 30 ≤ z.1) : gS (wM w I ad) := by
  have h : ∀ k j, 13 ≤ k → k ≠ 14 → k < 30 → ad (k, j, 0, 0) = wAd w (k, j, 0, 0) := fun k j _ _ h3 => hag.2 _ (fun h => by have := hI _ h; simp at this; omega)
  exact fun A U H hE => ⟨EXs_M h (hS A U H hE).1, EXd_M h (hS A U H hE).2⟩
theorem gZ_M {w : WP} {I : ID → Prop} {ad : ID → Nat} (hZ : gZ w) : gZ (wM w I ad) := hZ
theorem gY_M {w : WP} {I : ID → Prop} {ad : ID → Nat} (hY : gY w) : gY (wM w I ad) := hY
theorem gD_C {w : WP} {X : CX} {cc : ByteArray} {own : String} {ret : Option FieldType} {d nL : Nat} (C : gC w X cc own ret d nL) : gD w := by
  obtain ⟨p, e, R, s, m, args, below, meth, c, n, A⟩ := X
  exact C.2.2.2.2.2.1
theorem gW_M {w : WP} {I : ID → Prop} {ad : ID → Nat} (hW : gW w) (hI : ∀ z, I z → okX z) (hD : gD (wM w I ad)) : gW (wM w I ad) := ⟨fun z hz => hz.elim (hW.1 z) (hI z), fun z hz => Or.inl (hW.2.1 z hz), hD⟩
section CALLA
variable {w : WP} {X : CX} {cc : ByteArray} {own : String} {ret : Option FieldType} {d nL : Nat} {Q : QT} {ct : CT} {pc : Nat} {lo : List (Nat × Value)} {st : List Value}
/-- a call of a method that makes something -/
theorem r_callA (C : gC w X cc own ret d nL) {y : MethodName} {ccy : ByteArray} {nLy ny idx d' mc ms b : Nat} {I : ID → Prop} {ct' : (ID → Nat) → CT} (As : List Value) (hM : gMn w d' y ccy nLy (.ref b :: As) ct I ct' mc ms) (Y : gYV y ccy nLy none ny) (hli : Cond.methodLink own idx y ∈ lw_tbl) (hrc : gRc w ct b y.cls) (hn : As.length = ny) (hdd : d' + 1 ≤ d) (hnl : nLy ≤ 21) (hst : (st.map fun v => v.category).sum ≤ 8) {stk : List Value} (hstk : stk = As.reverse ++ .ref b :: st) (hd : decode cc pc = .ok (.invokevirtual idx, 3)) (hq : qOk X (Q.1, Q.2.1 + mc, Q.2.2 + ms))
    (k : ∀ ad, gAg w I ad → gBh X I ad → gC (wM w I ad) X cc own ret d nL → gU (wM w I ad) X (Q.1, Q.2.1 + mc, Q.2.2 + ms) (ct' ad) (pc + 3) lo st) : gU w X Q ct pc lo stk := by
  obtain ⟨p, e, R, s, m, args, below, meth, c, n, A⟩ := X
  intro H locs ls hP hS hl T hT X9
  have hA : A = gA w s.heap.size := C.2.2.2.2.2.2.2.2.2.1
  subst hA
  have hR := C.2.2.2.2.2.2.2.2.2.2.1
  obtain ⟨i, ci, fs, q, g1, g2, g3, g4, g5⟩ := hrc
  have h1 := hP i g1
  rw [g3] at h1
  have hB : CallB R s args own idx y ccy nLy none [.code y ccy nLy none] { frames := d', cells := mc, slots := ms, locals := 40 * d' } mc ms ny := by
    refine ⟨rfl, rfl, Nat.le_trans hdd hR.1, ?_, ?_, List.mem_cons_self, C.2.2.2.2.1.1.use Y.1 rfl, C.2.2.2.2.1.1.use Y.2.1 rfl, ⟨Y.2.2.1.1, Y.2.2.1.2.1⟩, fun sig h => ?_, C.2.2.2.2.1.1.use hli rfl⟩
    · show 8 + (nLy + 11) + 40 * d' ≤ R.locals
      have := hR.2
      omega
    · intro c hc a' U hW
      rw [List.mem_singleton.mp hc]
      exact (C.2.2.2.2.1.1.warm hW).use Y.1 rfl
    · have h2 := Y.2.2.1.2.2
      rw [h] at h2
      exact (Option.some.inj h2).symm
  have hr := va_runV (As := As) (rest := st) (Ts := []) (own := own) (locs := locs) (cells := Q.2.1) (slots := Q.2.2) (p := p) (e := e) (R := R) (args := args) (below := below) (meth := meth) (c := c) (g := F0 m pc ls stk) (cc := cc) (nL := nL) (H := H) ⟨C.1, C.2.1, C.2.2.1, C.2.2.2.1, fun _ h => by cases h⟩ (hM H.size) ⟨hB, C.2.2.2.2.1.1.use Y.2.2.2.1 rfl, C.2.2.2.2.1.1.use Y.2.2.2.2 rfl⟩ ⟨(gPc C.2.2.2.2.1 C.2.2.2.2.2.1 hP C.2.2.2.2.2.2.2.2.2.2.2 hS).1, (by
    have := va_recv C.2.2.2.2.1.2 (one_P h1) (q0 := 0) g4 rfl
    rw [g2, g5] at this
    exact this), (gPc C.2.2.2.2.1 C.2.2.2.2.2.1 hP C.2.2.2.2.2.2.2.2.2.2.2 hS).2⟩ rfl hn (by show ls.size = nL; rw [hl.1]; exact C.2.2.2.2.2.2.2.2.1) hstk (lv_room hst) hd hq
  have hA9 : ∀ q, q < H.size → gA w H.size q → gA w s.heap.size q := fun q h1 h2 => h2.elim Or.inl (fun h => absurd h (Nat.not_le.mpr h1))
  have hf : ∀ q, gA w H.size q → gA w s.heap.size q := fun q h2 => h2.elim Or.inl (fun h => Or.inr (Nat.le_trans hS.1 h))
  obtain ⟨v9, st₀, t, T', L, h0, X', hL, e1, e2, ⟨ad, hag, ⟨hv, hp, hD', hI⟩, hz, hk⟩, st9⟩ := hr T hT X9
  cases hv
  rw [h0] at hz hk
  have hI' : ∀ i, I i → s.heap.size ≤ ad i := fun i hi => Nat.le_trans hS.1 (hI i hi)
  obtain ⟨t2, a1, b1⟩ := k ad hag hI' (gC_M C hag hI' hD') T'.heap (locs ++ L) ls (by rw [e1]; exact hp) ⟨Nat.le_trans hS.1 (by rw [e1]; exact hz), fun q h1 h2 => by rw [e1, hk q (Nat.lt_of_lt_of_le h1 hS.1) (fun z => h2 (hA9 q (Nat.lt_of_lt_of_le h1 hS.1) z))]; exact hS.2.1 q h1 h2, fun q hq => by
      rcases List.mem_append.mp hq with h | h
      · exact hS.2.2 q h
      · exact hf _ (hL q h)⟩ hl T' rfl X'
  exact ⟨t2, st9 t2 a1, b1⟩
end CALLA
/-- the body of a method that makes something and answers nothing -/
theorem gMa_of {w : WP} {d : Nat} {cc : ByteArray} {nL : Nat} {ct : CT} {y : MethodName} {av : List Value} {I : ID → Prop} {ct' : (ID → Nat) → CT} {mc ms : Nat} (own : String) (hown : y.cls = own) (hy : plainName y.cls = true) (hn : (lg_sl av).length ≤ nL)
    (body : ∀ X : CX, gC w X cc own none d nL → (∀ c n, c ≤ mc → n ≤ ms → qOk X (qN1 w X I ct' mc ms, c, n)) → gU w X (qN1 w X I ct' mc ms, 0, 0) ct 0 (lv_args 0 av) []) : gMn w d y cc nL av ct I ct' mc ms := by
  intro sz
  refine Met.ofW (cc := cc) (maxL := nL) (ret := none) hy rfl ?_
  intro p e s m args below meth c s₁ B hml hv
  obtain ⟨rfl, hsz, hK, hP, hD, hE⟩ := hv
  subst hsz
  subst hown
  have hl := lv_entry av (n := nL) hn
  have hown : s.vm.findClass y.cls = some m.cls := findClass_of_methodNamed B.named
  have hb := body (p, e, { frames := d, cells := mc, slots := ms, locals := 40 * d }, s, m, av.toArray, below, meth, c, nL, gA w s.heap.size) ⟨B.exec, B.bytes, hml, hown, hK, hD, B.returns, B.notSynchronized, rfl, rfl, ⟨Nat.le_refl _, Nat.le_refl _⟩, hE⟩ (fun c n h1 h2 => ⟨h1, h2⟩) s.heap [] _ hP va_S.rf hl
  rw [lg_entry_eq]
  exact hb
/-- the first i letters of a text, in a row -/
def ltr (sx i : Nat) : Nat → Int32 := fun q => if q < i then sCh sx (nI q) else 0
theorem ltr_s {sx i : Nat} : upd (ltr sx i) i (sCh sx (nI i)) = ltr sx (i + 1) := by
  funext q
  unfold upd ltr
  by_cases h : q = i
  · rw [if_pos h, if_pos (by omega), h]
  · rw [if_neg h]
    by_cases h2 : q < i
    · rw [if_pos h2, if_pos (by omega)]
    · rw [if_neg h2, if_neg (by omega)]
theorem rset_in {n i : Nat} {f : Nat → Int32} {v : Int32} (h : i < n) (hn : n < 2 ^ 31) : rset n f (nI i) v = upd f i v := by
  unfold rset
  rw [if_neg (nI_pos (by omega)), if_neg (nI_ge h hn), nI_clamp (by omega)]
theorem sAA {g : HV} {a : Nat} {r r2 : Nat → Int32} : sA (sA g a r) a r2 = sA g a r2 := by
  unfold sA
  rw [up_up]
theorem sA2s {g : HV} {a : Nat} {r : Nat → Int32} : (sA g a r).2 a = r := by
  show up g.2 a r a = r
  exact up_s
theorem sP_n {Ω : OM} {j p k : Nat} {g : HV} (h : k ≠ j) : (sP Ω j p g).1 k = Ω.1 k := by
  unfold sP
  exact up_n h
theorem okT3 {p : Nat} (hp : 9 ≤ p) : okX (3, 20, p, 0) := Or.inr (Or.inr ⟨rfl, hp, rfl⟩)
theorem okT4 {p : Nat} (hp : 9 ≤ p) : okX (4, 20, p, 0) := Or.inr (Or.inr ⟨rfl, hp, rfl⟩)
theorem dX5_receiveText_0 : decode cX5_receiveText 0 = .ok (.new 9, 3) := by decide +kernel
theorem dX5_receiveText_3 : decode cX5_receiveText 3 = .ok (.dup, 1) := by decide +kernel
theorem dX5_receiveText_4 : decode cX5_receiveText 4 = .ok (.aload_n 2, 1) := by decide +kernel
theorem dX5_receiveText_5 : decode cX5_receiveText 5 = .ok (.invokevirtual 115, 3) := by decide +kernel
theorem dX5_receiveText_8 : decode cX5_receiveText 8 = .ok (.invokespecial 11, 3) := by decide +kernel
theorem dX5_receiveText_11 : decode cX5_receiveText 11 = .ok (.astore_n 3, 1) := by decide +kernel
theorem dX5_receiveText_12 : decode cX5_receiveText 12 = .ok (.iconst 0, 1) := by decide +kernel
theorem dX5_receiveText_13 : decode cX5_receiveText 13 = .ok (.istore 4, 2) := by decide +kernel
theorem dX5_receiveText_15 : decode cX5_receiveText 15 = .ok (.iload 4, 2) := by decide +kernel
theorem dX5_receiveText_17 : decode cX5_receiveText 17 = .ok (.aload_n 2, 1) := by decide +kernel
theorem dX5_receiveText_18 : decode cX5_receiveText 18 = .ok (.invokevirtual 115, 3) := by decide +kernel
theorem dX5_receiveText_21 : decode cX5_receiveText 21 = .ok (.if_icmp .ge 21, 3) := by decide +kernel
theorem dX5_receiveText_24 : decode cX5_receiveText 24 = .ok (.aload_n 3, 1) := by decide +kernel
theorem dX5_receiveText_25 : decode cX5_receiveText 25 = .ok (.iload 4, 2) := by decide +kernel
theorem dX5_receiveText_27 : decode cX5_receiveText 27 = .ok (.aload_n 2, 1) := by decide +kernel
theorem dX5_receiveText_28 : decode cX5_receiveText 28 = .ok (.iload 4, 2) := by decide +kernel
theorem dX5_receiveText_30 : decode cX5_receiveText 30 = .ok (.invokevirtual 121, 3) := by decide +kernel
theorem dX5_receiveText_33 : decode cX5_receiveText 33 = .ok (.invokevirtual 100, 3) := by decide +kernel
theorem dX5_receiveText_36 : decode cX5_receiveText 36 = .ok (.iinc 4 1, 3) := by decide +kernel
theorem dX5_receiveText_39 : decode cX5_receiveText 39 = .ok (.goto (-24), 3) := by decide +kernel
theorem dX5_receiveText_42 : decode cX5_receiveText 42 = .ok (.aload_n 0, 1) := by decide +kernel
theorem dX5_receiveText_43 : decode cX5_receiveText 43 = .ok (.iload_n 1, 1) := by decide +kernel
theorem dX5_receiveText_44 : decode cX5_receiveText 44 = .ok (.aload_n 3, 1) := by decide +kernel
theorem dX5_receiveText_45 : decode cX5_receiveText 45 = .ok (.iconst 0, 1) := by decide +kernel
theorem dX5_receiveText_46 : decode cX5_receiveText 46 = .ok (.aload_n 2, 1) := by decide +kernel
theorem dX5_receiveText_47 : decode cX5_receiveText 47 = .ok (.invokevirtual 115, 3) := by decide +kernel
theorem dX5_receiveText_50 : decode cX5_receiveText 50 = .ok (.invokevirtual 125, 3) := by decide +kernel
theorem dX5_receiveText_53 : decode cX5_receiveText 53 = .ok (.return_, 1) := by decide +kernel
set_option maxRecDepth 20000 in
theorem lp_rt {w : WP} (hW : gW w) (hS : gS w) {X : CX} {d p sx a0 : Nat} {a1 : Int32} {Q : QT} (C : gC w X cX5_receiveText "HedgeMessages$Hedge" none (d + 4) 5) (hq : qOk X Q) (hp : 9 ≤ p) (h3 : wFr w (3, 20, p, 0)) (h4 : wFr w (4, 20, p, 0)) (hsx : sx < 32) (hr : rlen p 0 = (sTx sx).length) :
    ∀ n i, n + i = (sTx sx).length → ∀ Ω : OM, (Ω.1 20 p).2 0 = ltr sx i → gU w X Q (cA w (sP Ω 20 p (sA (Ω.1 20 p) 0 (ltr sx (sTx sx).length)))) 42 [(4, .int (nI (sTx sx).length)), (3, .ref (wAd w (3, 20, p, 0))), (0, .ref a0), (1, .int a1), (2, .ref (sAd w sx))] [] → gU w X Q (cA w Ω) 15 [(4, .int (nI i)), (3, .ref (wAd w (3, 20, p, 0))), (0, .ref a0), (1, .int a1), (2, .ref (sAd w sx))] [] := by
  have hlen := sTx_len sx hsx
  have hsl : gX w X (va_O "java/lang/String" (sAd w sx)) := (hS.s C).imp fun _ _ _ h => (h.2.2.2 sx hsx).1
  have h3o := hW.2.2.2.1 _ h3
  have h4o := hW.2.2.2.1 _ h4
  intro n
  induction n with
  | zero =>
    intro i hi Ω hg kk
    have hi : i = (sTx sx).length := by omega
    subst hi
    refine r_iload C (k := 0) rfl dX5_receiveText_15 ?_
    refine r_aload_n C (k := 4) rfl rfl dX5_receiveText_17 ?_
    refine r_callE C (d' := 1) [] (c_slen hS hsx) myJ0_length_8abf5 wm2_89 hsl rfl (by omega) (by decide) (kR rfl) rfl dX5_receiveText_18 ?_ hq
    refine r_icmp_ge C (tgt := 42) rfl dX5_receiveText_21 (fun _ => ?_) (fun h => absurd (Int32.le_refl _) h)
    have e : sP Ω 20 p (sA (Ω.1 20 p) 0 (ltr sx (sTx sx).length)) = Ω := sP_i (by
      rw [← hg]
      show Ω.1 20 p = ((Ω.1 20 p).1, up (Ω.1 20 p).2 0 ((Ω.1 20 p).2 0))
      rw [up_id])
    rw [e] at kk
    exact kk
  | succ n ih =>
    intro i hi Ω hg kk
    have hil : i < (sTx sx).length := by omega
    refine r_iload C (k := 0) rfl dX5_receiveText_15 ?_
    refine r_aload_n C (k := 4) rfl rfl dX5_receiveText_17 ?_
    refine r_callE C (d' := 1) [] (c_slen hS hsx) myJ0_length_8abf5 wm2_89 hsl rfl (by omega) (by decide) (kR rfl) rfl dX5_receiveText_18 ?_ hq
    refine r_icmp_ge C (tgt := 42) rfl dX5_receiveText_21 (fun h => absurd h (nI_ge hil hlen)) (fun _ => ?_)
    refine r_aload_n C (k := 1) rfl rfl dX5_receiveText_24 ?_
    refine r_iload C (k := 0) rfl dX5_receiveText_25 ?_
    refine r_aload_n C (k := 4) rfl rfl dX5_receiveText_27 ?_
    refine r_iload C (k := 0) rfl dX5_receiveText_28 ?_
    refine r_callE C (d' := 3) [.int (nI i)] (c_charAt hS hsx (vp_in_nI hil hlen)) myJ0_charAt_5068e wm2_99 hsl rfl (by omega) (by decide) (kR rfl) rfl dX5_receiveText_30 ?_ hq
    refine r_callV C (d' := 0) [.int (nI i), .int (sCh sx (nI i))] (c_rset hW.x (okT4 hp) h3o h4o h4 hr hlen rfl rfl rfl) myX8_set wm2_76 ⟨_, _, _, _, h3o, rfl, rfl, rfl, rfl⟩ rfl (by omega) (by decide) (kR rfl) rfl dX5_receiveText_33 ?_ hq
    refine r_iinc C (k := 0) (v := nI (i + 1)) (lo' := [(4, .int (nI (i + 1))), (3, .ref (wAd w (3, 20, p, 0))), (0, .ref a0), (1, .int a1), (2, .ref (sAd w sx))]) rfl (show nI i + Int32.ofInt 1 = nI (i + 1) from nI_1 i) (by decide) rfl dX5_receiveText_36 ?_
    refine r_goto C (tgt := 15) rfl dX5_receiveText_39 ?_
    have e : rset (sTx sx).length ((Ω.1 20 p).2 0) (nI i) (sCh sx (nI i)) = ltr sx (i + 1) := by rw [rset_in hil hlen, hg, ltr_s]
    rw [e]
    refine ih (i + 1) (by omega) (sP Ω 20 p (sA (Ω.1 20 p) 0 (ltr sx (i + 1)))) ?_ ?_
    · rw [sP_g]
      show up (Ω.1 20 p).2 0 (ltr sx (i + 1)) 0 = _
      rw [up_s]
    · rw [sP_g, sP_P, sAA]
      exact kk
theorem cA_T {w : WP} {p : Nat} (hp : 9 ≤ p) {ad : ID → Nat} (hag : gAg w (IR 20 p 0) ad) {Ω : OM} {g : HV} (z : ID) (hz : okX z) (hn : ¬ IR 20 p 0 z) : cA w Ω z = cA (wM w (IR 20 p 0) ad) (sP Ω 20 p g) z := by
  have ha : ∀ k1 j1 q1 a1 : Nat, (j1 ≠ 20 ∨ q1 ≠ p) → wAd w (k1, j1, q1, a1) = ad (k1, j1, q1, a1) := fun k1 j1 q1 a1 h => (hag.2 _ (fun h9 => by have := tg_R h9; simp at this; omega)).symm
  obtain ⟨k, j, q, a⟩ := z
  by_cases hk11 : 11 ≤ k
  · obtain ⟨n11, rfl⟩ := Nat.exists_eq_add_of_le' hk11
    rfl
  have hs : (j ≠ 20 ∨ q ≠ p) → (sP Ω 20 p g).1 j q = Ω.1 j q := by
    intro h
    show up Ω.1 20 (up (Ω.1 20) p g) j q = _
    by_cases h1 : j = 20
    · subst h1
      rw [up_s, up_n (by omega)]
    · rw [up_n h1]
  have hw : (sP Ω 20 p g).2 = Ω.2 := rfl
  have hj : j ≠ 20 ∨ q ≠ p := by
    by_cases h1 : j = 20 ∧ q = p
    · exfalso
      obtain ⟨rfl, rfl⟩ := h1
      apply hn
      rcases hz with hz | hz | hz
      · match k, hz with
        | 0, hz => exact absurd (show (20 : Nat) ≤ 10 from hz.1) (by decide)
        | 1, hz => exact absurd (show (20 : Nat) ≤ 10 from hz.1) (by decide)
        | 2, hz => exact absurd (show (20 : Nat) ≤ 10 from hz.1) (by decide)
        | 3, hz => rcases hz with ⟨h, _⟩ | ⟨h, _⟩ <;> simp at h
        | 4, hz => rcases hz with ⟨h, _⟩ | ⟨h, _⟩ <;> simp at h
        | 5, hz => exact absurd hz.1 (by simp)
        | 6, hz => exact absurd hz.1 (by simp)
        | 7, hz => exact absurd hz.1 (by simp)
        | 8, hz => exact absurd hz.1 (by simp)
        | 9, hz => exact absurd hz.1 (by simp)
        | 10, hz => exact absurd hz.1 (by simp)
      · exact absurd (show 30 ≤ k from hz) (by omega)
      · match k, hz with
        | 3, hz => have h9 : a = 0 := hz.2.2; subst h9; exact Or.inl rfl
        | 4, hz => have h9 : a = 0 := hz.2.2; subst h9; exact Or.inr rfl
    · omega
  show cB w k j q a (Ω.1 j q) Ω.2.1 Ω.2.2 = cB (wM w (IR 20 p 0) ad) k j q a ((sP Ω 20 p g).1 j q) (sP Ω 20 p g).2.1 (sP Ω 20 p g).2.2
  rw [hs hj, hw]
  have hd : ∀ x : Int32, dForm w x = dForm (wM w (IR 20 p 0) ad) x := by
    intro x
    show (if x = 0 then none else some (wAd w (13, (x - 1).toNatClampNeg, 0, 0))) = (if x = 0 then none else some (ad (13, (x - 1).toNatClampNeg, 0, 0)))
    rw [ha _ _ _ _ (Or.inr (by omega))]
  match k, hz, hj with
  | 0, hz, hj =>
    show (Sum.inr (2, [_, _, _, _, _, _, _, _, .ref (wAd w (3, j, 0, 0)), .ref (wAd w (3, j, 0, 1)), .ref (wAd w (3, j, 0, 2)), .ref (wAd w (3, j, 0, 3)), .ref (wAd w (3, j, 0, 4)), .ref (wAd w (1, j, 1, 0)), .ref (wAd w (1, j, 2, 0)), .ref (wAd w (2, j, 3, 0)), _, _, _]) : va_E) = _
    rw [ha _ _ _ _ (Or.inr (by omega)), ha _ _ _ _ (Or.inr (by omega)), ha _ _ _ _ (Or.inr (by omega)), ha _ _ _ _ (Or.inr (by omega)), ha _ _ _ _ (Or.inr (by omega)), ha _ _ _ _ (Or.inr (by omega)), ha _ _ _ _ (Or.inr (by omega)), ha _ _ _ _ (Or.inr (by omega))]
    rfl
  | 1, hz, hj =>
    show (Sum.inr (1, [.ref (wAd w (3, j, q, 0)), .ref (wAd w (3, j, q, 1)), _, _, _, _, _, _, _, _]) : va_E) = _
    rw [ha _ _ _ _ hj, ha _ _ _ _ hj]
    rfl
  | 2, hz, hj =>
    show (Sum.inr (4, [.ref (wAd w (3, j, q, 0)), .ref (wAd w (3, j, q, 1)), .ref (wAd w (3, j, q, 2)), _]) : va_E) = _
    rw [ha _ _ _ _ hj, ha _ _ _ _ hj, ha _ _ _ _ hj]
    rfl
  | 3, hz, hj =>
    show (Sum.inr (5, [.ref (wAd w (4, j, q, a))]) : va_E) = _
    rw [ha _ _ _ _ hj]
    rfl
  | 4, hz, hj => rfl
  | 5, hz, hj =>
    show (Sum.inr (6, [.ref (wAd w (3, j, q, 0)), _, _, _, _, _, _, _, _]) : va_E) = _
    rw [ha _ _ _ _ hj]
    rfl
  | 6, hz, hj =>
    show (Sum.inr (0, [.ref (wAd w (10, j, q, 0)), .ref (wAd w (3, j, q, 1)), .ref (wAd w (3, j, q, 2)), .ref (wAd w (3, j, q, 3)), _]) : va_E) = _
    rw [ha _ _ _ _ hj, ha _ _ _ _ hj, ha _ _ _ _ hj, ha _ _ _ _ hj]
    rfl
  | 7, hz, hj =>
    show (Sum.inr (7, [.ref (wAd w (0, 0, 0, 0)), .ref (wAd w (0, 1, 0, 0)), .ref (wAd w (0, 2, 0, 0)), _, .ref (wAd w (8, 11, 7, 0)), .ref (wAd w (5, 11, 4, 0)), .ref (wAd w (6, 11, 5, 0)), .ref (wAd w (3, 11, 6, 0)), _]) : va_E) = _
    rw [ha 0 0 0 0 (Or.inl (by decide)), ha 0 1 0 0 (Or.inl (by decide)), ha 0 2 0 0 (Or.inl (by decide)), ha 8 11 7 0 (Or.inl (by decide)), ha 5 11 4 0 (Or.inl (by decide)), ha 6 11 5 0 (Or.inl (by decide)), ha 3 11 6 0 (Or.inl (by decide))]
    rfl
  | 8, hz, hj =>
    show (Sum.inr (3, [.ref (wAd w (9, j, q, 0)), _, _]) : va_E) = _
    rw [ha _ _ _ _ hj]
    rfl
  | 9, hz, hj =>
    show (Sum.inl (wHs w, 8, .inr (.inr (.inr (.inr (fun q => some (wAd w (0, 3 + q, 0, 0))))))) : va_E) = Sum.inl (wHs w, 8, .inr (.inr (.inr (.inr (fun q => some (ad (0, 3 + q, 0, 0)))))))
    rw [show (fun q => some (wAd w (0, 3 + q, 0, 0))) = fun q => some (ad (0, 3 + q, 0, 0)) from funext fun q => by rw [ha _ _ _ _ (Or.inr (by omega))]]
  | 10, hz, hj =>
    show (Sum.inl (wFs w, 30, .inr (.inr (.inr (.inr (fun x => dForm w ((Ω.1 j q).2 0 x)))))) : va_E) = Sum.inl (wFs w, 30, .inr (.inr (.inr (.inr (fun x => dForm (wM w (IR 20 p 0) ad) ((Ω.1 j q).2 0 x))))))
    rw [show (fun x => dForm w ((Ω.1 j q).2 0 x)) = fun x => dForm (wM w (IR 20 p 0) ad) ((Ω.1 j q).2 0 x) from funext fun x => hd _]
  | k + 11, hz, hj => rfl
/-- the world after a text was received: the row that lived for a while, and the hedge -/
def OmT (Ω : OM) (p sx : Nat) (h' : Nat → HV) : OM := sH (sP Ω 20 p (sA (Ω.1 20 p) 0 (ltr sx (sTx sx).length))) 0 h'
set_option maxRecDepth 20000 in
theorem c_X5_receiveText {w : WP} (hW : gW w) (hS : gS w) (hY : gY w) {p sx : Nat} (hp : 9 ≤ p) (hn3 : ¬ wOk w (3, 20, p, 0)) (hn4 : ¬ wOk w (4, 20, p, 0)) (hsx : sx < 32) (hr : rlen p 0 = (sTx sx).length) (h0 : 0 < (sTx sx).length) (hm : (sTx sx).length ≤ 10000) {Ω : OM} {h h' : Nat → HV} (e : Ω.1 0 = h) (a1 : Int32) (hF : F_X5_receive a1 (ltr sx (sTx sx).length) (sTx sx).length 0 (nI (sTx sx).length) h = h') : gMn w 4 yX5_receiveText cX5_receiveText 5 [.ref (wAd w (0, 0, 0, 0)), .int a1, .ref (sAd w sx)] (cA w Ω) (IR 20 p 0) (fun ad => cA (wM w (IR 20 p 0) ad) (OmT Ω p sx h')) 2 (1 + (0 + (sTx sx).length)) := by
  refine gMa_of "HedgeMessages$Hedge" rfl (by decide) (kR rfl) fun X C hq => ?_
  have hD := hW.2.2
  have h34 : ((3, 20, p, 0) : ID) ≠ (4, 20, p, 0) := by intro h; cases h
  show gU w X _ _ 0 [(0, .ref (wAd w (0, 0, 0, 0))), (1, .int a1), (2, .ref (sAd w sx))] []
  refine r_new C F8 wm1_41 rfl wm1_42 wm1_14 (3, 20, p, 0) hn3 (fs := [.null]) (fun j hj => by match j, hj with | 0, _ => rfl) dX5_receiveText_0 (hq 1 1 (kR rfl) (by omega)) fun q hag hbh C1 => ?_
  have hD1 := gD_C C1
  have hq3 : adU w (3, 20, p, 0) q (3, 20, p, 0) = q := if_pos rfl
  have hS1 : gS (wM w (one (3, 20, p, 0)) (adU w (3, 20, p, 0) q)) := gS_M hS hag (fun z hz => by cases hz; exact Or.inl (by decide : (3 : Nat) < 13))
  have es : sAd w sx = sAd (wM w (one (3, 20, p, 0)) (adU w (3, 20, p, 0) q)) sx := (hag.2 (15, sx, 0, 0) (fun h => by cases h)).symm
  refine r_dup C1 rfl dX5_receiveText_3 ?_
  refine r_aload_n C1 (k := 2) rfl rfl dX5_receiveText_4 ?_
  rw [es]
  refine r_callE C1 (d' := 1) [] (c_slen hS1 hsx) myJ0_length_8abf5 wm2_89 ((hS1.s C1).imp fun _ _ _ h => (h.2.2.2 sx hsx).1) rfl (kR rfl) (by decide) (kR rfl) rfl dX5_receiveText_5 ?_ (hq 1 1 (kR rfl) (by omega))
  rw [← es]
  refine r_ctor C1 (d' := 1) [.int (nI (sTx sx).length)] (c_X8_init hD1 hY (i3 := (3, 20, p, 0)) (i4 := (4, 20, p, 0)) (Or.inr rfl) (fun h => h.elim hn4 (fun z => h34 z.symm)) hq3 (if_pos rfl) h0 hm) myX8_init wm1_43 rfl (kR rfl) (by decide) (kR rfl) rfl dX5_receiveText_8 (hq 2 (1 + (0 + (sTx sx).length)) (kR rfl) (Nat.le_refl _)) fun ad hag2 hbh2 C2 => ?_
  have hagF : gAg w (IR 20 p 0) ad := gAg_M hag hag2
  have hbhF : gBh X (IR 20 p 0) ad := gBh_M hbh hag2 hbh2
  have had3 : ad (3, 20, p, 0) = q := (hag2.1 _ (Or.inr rfl)).trans hq3
  have eW : wM (wM w (one (3, 20, p, 0)) (adU w (3, 20, p, 0) q)) (one (4, 20, p, 0)) ad = wM w (IR 20 p 0) ad := wM_M
  rw [eW] at C2
  rw [eW]
  have hD2 := gD_C C2
  have hW2 : gW (wM w (IR 20 p 0) ad) := gW_M hW (fun z hz => by rcases hz with rfl | rfl; exact okT3 hp; exact okT4 hp) hD2
  have hS2 : gS (wM w (IR 20 p 0) ad) := gS_M hS hagF (fun z hz => by have := tg_R hz; omega)
  have e0 : wAd w (0, 0, 0, 0) = wAd (wM w (IR 20 p 0) ad) (0, 0, 0, 0) := (hagF.2 _ (fun h => by have := tg_R h; simp at this)).symm
  have e15 : sAd w sx = sAd (wM w (IR 20 p 0) ad) sx := (hagF.2 (15, sx, 0, 0) (fun h => by have := tg_R h; simp at this)).symm
  have e3 : q = wAd (wM w (IR 20 p 0) ad) (3, 20, p, 0) := had3.symm
  refine gU_P (ct' := cA (wM w (IR 20 p 0) ad) (sP Ω 20 p (sA (Ω.1 20 p) 0 (ltr sx 0)))) (fun z hz => ?_) ?_
  · by_cases h4 : z = (4, 20, p, 0)
    · subst h4
      rw [upE_n (fun h => h34 h.symm), upE_s]
      show _ = (Sum.inl (wI w, rlen p 0, .inl ((sP Ω 20 p (sA (Ω.1 20 p) 0 (ltr sx 0))).1 20 p |>.2 0)) : va_E)
      rw [sP_g, hr]
      rfl
    · by_cases h3 : z = (3, 20, p, 0)
      · subst h3
        rw [upE_s]
        rfl
      · rw [upE_n h3, upE_n h4, upE_n h3]
        rcases hz with hz | hz
        · exact cA_T hp hagF z (hW.x z hz) (fun h => h.elim h3 h4)
        · exact absurd hz (fun h => h.elim h3 h4)
  rw [e0, e15, e3]
  refine r_astore_n C2 (lo' := [(3, .ref (wAd (wM w (IR 20 p 0) ad) (3, 20, p, 0))), (0, .ref (wAd (wM w (IR 20 p 0) ad) (0, 0, 0, 0))), (1, .int a1), (2, .ref (sAd (wM w (IR 20 p 0) ad) sx))]) rfl (by decide) rfl dX5_receiveText_11 ?_
  refine r_iconst C2 (v := 0) rfl dX5_receiveText_12 ?_
  refine r_istore C2 (lo' := [(4, .int (nI 0)), (3, .ref (wAd (wM w (IR 20 p 0) ad) (3, 20, p, 0))), (0, .ref (wAd (wM w (IR 20 p 0) ad) (0, 0, 0, 0))), (1, .int a1), (2, .ref (sAd (wM w (IR 20 p 0) ad) sx))]) (by decide) rfl dX5_receiveText_13 ?_
  refine lp_rt (d := 0) hW2 hS2 C2 (hq 2 (1 + (0 + (sTx sx).length)) (kR rfl) (Nat.le_refl _)) hp (Or.inr (Or.inl rfl)) (Or.inr (Or.inr rfl)) hsx hr _ 0 rfl _ (by rw [sP_g]; exact sA2s) ?_
  rw [sP_g, sP_P, sAA]
  refine r_aload_n C2 (k := 2) rfl rfl dX5_receiveText_42 ?_
  refine r_iload_n C2 (k := 3) rfl rfl dX5_receiveText_43 ?_
  refine r_aload_n C2 (k := 1) rfl rfl dX5_receiveText_44 ?_
  refine r_iconst C2 (v := 0) rfl dX5_receiveText_45 ?_
  refine r_aload_n C2 (k := 4) rfl rfl dX5_receiveText_46 ?_
  refine r_callE C2 (d' := 1) [] (c_slen hS2 hsx) myJ0_length_8abf5 wm2_89 ((hS2.s C2).imp fun _ _ _ h => (h.2.2.2 sx hsx).1) rfl (kR rfl) (by decide) (kR rfl) rfl dX5_receiveText_47 ?_ (hq 2 (1 + (0 + (sTx sx).length)) (kR rfl) (Nat.le_refl _))
  have hh : (sP Ω 20 p (sA (Ω.1 20 p) 0 (ltr sx (sTx sx).length))).1 0 = h := (sP_n (by decide)).trans e
  refine r_callV C2 (d' := 3) [.int a1, .ref (wAd (wM w (IR 20 p 0) ad) (3, 20, p, 0)), .int 0, .int (nI (sTx sx).length)] (c_X5_receive hW2 (by decide) hh a1 (Or.inr (Or.inl rfl)) (Or.inr (Or.inr rfl)) hr (sTx_len sx hsx) (by rw [sP_g]; exact sA2s) 0 (nI (sTx sx).length) hF rfl) myX5_receive wm2_137 ⟨_, _, _, _, hW2.ok (k0 (by decide)), rfl, rfl, rfl, rfl⟩ rfl (kR rfl) (by decide) (kR rfl) rfl dX5_receiveText_50 ?_ (hq 2 (1 + (0 + (sTx sx).length)) (kR rfl) (Nat.le_refl _))
  exact r_nend (w := w) (w2 := wM w (IR 20 p 0) ad) (I := IR 20 p 0) rfl rfl C2 hD (fun _ h => h) hagF hbhF (fun _ _ => rfl) dX5_receiveText_53
