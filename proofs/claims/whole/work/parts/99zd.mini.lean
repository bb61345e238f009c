/-! ===== the constructor of the other machine ===== -/
theorem dX11_init_0 : decode cX11_init 0 = .ok (.aload_n 0, 1) := by decide +kernel
theorem dX11_init_1 : decode cX11_init 1 = .ok (.invokespecial 1, 3) := by decide +kernel
theorem dX11_init_4 : decode cX11_init 4 = .ok (.aload_n 0, 1) := by decide +kernel
theorem dX11_init_5 : decode cX11_init 5 = .ok (.sipush 760, 3) := by decide +kernel
theorem dX11_init_8 : decode cX11_init 8 = .ok (.newarray .int, 2) := by decide +kernel
theorem dX11_init_10 : decode cX11_init 10 = .ok (.putfield 7, 3) := by decide +kernel
theorem dX11_init_13 : decode cX11_init 13 = .ok (.aload_n 0, 1) := by decide +kernel
theorem dX11_init_14 : decode cX11_init 14 = .ok (.sipush 760, 3) := by decide +kernel
theorem dX11_init_17 : decode cX11_init 17 = .ok (.newarray .int, 2) := by decide +kernel
theorem dX11_init_19 : decode cX11_init 19 = .ok (.putfield 13, 3) := by decide +kernel
theorem dX11_init_22 : decode cX11_init 22 = .ok (.aload_n 0, 1) := by decide +kernel
theorem dX11_init_23 : decode cX11_init 23 = .ok (.sipush 760, 3) := by decide +kernel
theorem dX11_init_26 : decode cX11_init 26 = .ok (.newarray .int, 2) := by decide +kernel
theorem dX11_init_28 : decode cX11_init 28 = .ok (.putfield 16, 3) := by decide +kernel
theorem dX11_init_31 : decode cX11_init 31 = .ok (.aload_n 0, 1) := by decide +kernel
theorem dX11_init_32 : decode cX11_init 32 = .ok (.sipush 760, 3) := by decide +kernel
theorem dX11_init_35 : decode cX11_init 35 = .ok (.newarray .int, 2) := by decide +kernel
theorem dX11_init_37 : decode cX11_init 37 = .ok (.putfield 19, 3) := by decide +kernel
theorem dX11_init_40 : decode cX11_init 40 = .ok (.aload_n 0, 1) := by decide +kernel
theorem dX11_init_41 : decode cX11_init 41 = .ok (.sipush 6080, 3) := by decide +kernel
theorem dX11_init_44 : decode cX11_init 44 = .ok (.newarray .int, 2) := by decide +kernel
theorem dX11_init_46 : decode cX11_init 46 = .ok (.putfield 22, 3) := by decide +kernel
theorem dX11_init_49 : decode cX11_init 49 = .ok (.aload_n 0, 1) := by decide +kernel
theorem dX11_init_50 : decode cX11_init 50 = .ok (.bipush 13, 2) := by decide +kernel
theorem dX11_init_52 : decode cX11_init 52 = .ok (.newarray .int, 2) := by decide +kernel
theorem dX11_init_54 : decode cX11_init 54 = .ok (.putfield 25, 3) := by decide +kernel
theorem dX11_init_57 : decode cX11_init 57 = .ok (.aload_n 0, 1) := by decide +kernel
theorem dX11_init_58 : decode cX11_init 58 = .ok (.sipush 800, 3) := by decide +kernel
theorem dX11_init_61 : decode cX11_init 61 = .ok (.newarray .int, 2) := by decide +kernel
theorem dX11_init_63 : decode cX11_init 63 = .ok (.putfield 28, 3) := by decide +kernel
theorem dX11_init_66 : decode cX11_init 66 = .ok (.aload_n 0, 1) := by decide +kernel
theorem dX11_init_67 : decode cX11_init 67 = .ok (.iconst (-1), 1) := by decide +kernel
theorem dX11_init_68 : decode cX11_init 68 = .ok (.putfield 31, 3) := by decide +kernel
theorem dX11_init_71 : decode cX11_init 71 = .ok (.aload_n 0, 1) := by decide +kernel
theorem dX11_init_72 : decode cX11_init 72 = .ok (.sipush 480, 3) := by decide +kernel
theorem dX11_init_75 : decode cX11_init 75 = .ok (.newarray .int, 2) := by decide +kernel
theorem dX11_init_77 : decode cX11_init 77 = .ok (.putfield 35, 3) := by decide +kernel
theorem dX11_init_80 : decode cX11_init 80 = .ok (.aload_n 0, 1) := by decide +kernel
theorem dX11_init_81 : decode cX11_init 81 = .ok (.bipush 40, 2) := by decide +kernel
theorem dX11_init_83 : decode cX11_init 83 = .ok (.newarray .int, 2) := by decide +kernel
theorem dX11_init_85 : decode cX11_init 85 = .ok (.putfield 38, 3) := by decide +kernel
theorem dX11_init_88 : decode cX11_init 88 = .ok (.ldc 41, 2) := by decide +kernel
theorem dX11_init_90 : decode cX11_init 90 = .ok (.astore_n 1, 1) := by decide +kernel
theorem dX11_init_91 : decode cX11_init 91 = .ok (.iconst 0, 1) := by decide +kernel
theorem dX11_init_92 : decode cX11_init 92 = .ok (.istore_n 2, 1) := by decide +kernel
theorem dX11_init_93 : decode cX11_init 93 = .ok (.iload_n 2, 1) := by decide +kernel
theorem dX11_init_94 : decode cX11_init 94 = .ok (.aload_n 1, 1) := by decide +kernel
theorem dX11_init_95 : decode cX11_init 95 = .ok (.invokevirtual 43, 3) := by decide +kernel
theorem dX11_init_98 : decode cX11_init 98 = .ok (.if_icmp .ge 20, 3) := by decide +kernel
theorem dX11_init_101 : decode cX11_init 101 = .ok (.aload_n 0, 1) := by decide +kernel
theorem dX11_init_102 : decode cX11_init 102 = .ok (.getfield 28, 3) := by decide +kernel
theorem dX11_init_105 : decode cX11_init 105 = .ok (.iload_n 2, 1) := by decide +kernel
theorem dX11_init_106 : decode cX11_init 106 = .ok (.aload_n 1, 1) := by decide +kernel
theorem dX11_init_107 : decode cX11_init 107 = .ok (.iload_n 2, 1) := by decide +kernel
theorem dX11_init_108 : decode cX11_init 108 = .ok (.invokevirtual 49, 3) := by decide +kernel
theorem dX11_init_111 : decode cX11_init 111 = .ok (.iastore, 1) := by decide +kernel
theorem dX11_init_112 : decode cX11_init 112 = .ok (.iinc 2 1, 3) := by decide +kernel
theorem dX11_init_115 : decode cX11_init 115 = .ok (.goto (-22), 3) := by decide +kernel
theorem dX11_init_118 : decode cX11_init 118 = .ok (.aload_n 0, 1) := by decide +kernel
theorem dX11_init_119 : decode cX11_init 119 = .ok (.aload_n 1, 1) := by decide +kernel
theorem dX11_init_120 : decode cX11_init 120 = .ok (.invokevirtual 43, 3) := by decide +kernel
theorem dX11_init_123 : decode cX11_init 123 = .ok (.putfield 53, 3) := by decide +kernel
theorem dX11_init_126 : decode cX11_init 126 = .ok (.aload_n 0, 1) := by decide +kernel
theorem dX11_init_127 : decode cX11_init 127 = .ok (.invokevirtual 55, 3) := by decide +kernel
theorem dX11_init_130 : decode cX11_init 130 = .ok (.istore_n 2, 1) := by decide +kernel
theorem dX11_init_131 : decode cX11_init 131 = .ok (.return_, 1) := by decide +kernel
theorem myX11_init : gYI yX11_init cX11_init 3 0 := ⟨wm6_173, wm1_14, ⟨by decide, by decide, by decide +kernel⟩, wm6_172, rfl⟩
theorem x_11 {z : ID} (hz : okX z) (h : z.1 = 11) : z = (11, 12, 0, 0) := by
  obtain ⟨k, j, p, a⟩ := z
  have h : k = 11 := h
  subst h
  simp only [okX, okC, okM, okT, false_or, or_false] at hz
  rw [hz.1, hz.2.1, hz.2.2]
/-- what is not of the other machine's object stays as it is when the world grows -/
theorem cA_K {w : WP} {I1 I2 : ID → Prop} {ad1 ad2 : ID → Nat} (ha : ∀ k j p a : Nat, k ≤ 10 ∨ k = 13 → ad1 (k, j, p, a) = ad2 (k, j, p, a)) {Ω Ω' : OM} (h1 : Ω'.1 = Ω.1) (h2 : Ω'.2.1.2 = Ω.2.1.2) (h3 : Ω'.2.2 = Ω.2.2) (z : ID) (hz : z.1 ≠ 11) : cA (wM w I1 ad1) Ω z = cA (wM w I2 ad2) Ω' z := by
  obtain ⟨k, j, p, a⟩ := z
  have hz : k ≠ 11 := hz
  show cB (wM w I1 ad1) k j p a (Ω.1 j p) Ω.2.1 Ω.2.2 = cB (wM w I2 ad2) k j p a (Ω'.1 j p) Ω'.2.1 Ω'.2.2
  rw [h1, h3]
  have hd : ∀ x : Int32, dForm (wM w I1 ad1) x = dForm (wM w I2 ad2) x := by
    intro x
    show (if x = 0 then none else some (ad1 (13, (x - 1).toNatClampNeg, 0, 0))) = (if x = 0 then none else some (ad2 (13, (x - 1).toNatClampNeg, 0, 0)))
    rw [ha 13 _ _ _ (Or.inr rfl)]
  match k, hz with
  | 0, _ =>
    show (Sum.inr (2, [_, _, _, _, _, _, _, _, .ref (ad1 (3, j, 0, 0)), .ref (ad1 (3, j, 0, 1)), .ref (ad1 (3, j, 0, 2)), .ref (ad1 (3, j, 0, 3)), .ref (ad1 (3, j, 0, 4)), .ref (ad1 (1, j, 1, 0)), .ref (ad1 (1, j, 2, 0)), .ref (ad1 (2, j, 3, 0)), _, _, _]) : va_E) = _
    rw [ha 3 j 0 0 (Or.inl (by decide)), ha 3 j 0 1 (Or.inl (by decide)), ha 3 j 0 2 (Or.inl (by decide)), ha 3 j 0 3 (Or.inl (by decide)), ha 3 j 0 4 (Or.inl (by decide)), ha 1 j 1 0 (Or.inl (by decide)), ha 1 j 2 0 (Or.inl (by decide)), ha 2 j 3 0 (Or.inl (by decide))]
    rfl
  | 1, _ =>
    show (Sum.inr (1, [.ref (ad1 (3, j, p, 0)), .ref (ad1 (3, j, p, 1)), _, _, _, _, _, _, _, _]) : va_E) = _
    rw [ha 3 j p 0 (Or.inl (by decide)), ha 3 j p 1 (Or.inl (by decide))]
    rfl
  | 2, _ =>
    show (Sum.inr (4, [.ref (ad1 (3, j, p, 0)), .ref (ad1 (3, j, p, 1)), .ref (ad1 (3, j, p, 2)), _]) : va_E) = _
    rw [ha 3 j p 0 (Or.inl (by decide)), ha 3 j p 1 (Or.inl (by decide)), ha 3 j p 2 (Or.inl (by decide))]
    rfl
  | 3, _ =>
    show (Sum.inr (5, [.ref (ad1 (4, j, p, a))]) : va_E) = _
    rw [ha 4 j p a (Or.inl (by decide))]
    rfl
  | 4, _ => rfl
  | 5, _ =>
    show (Sum.inr (6, [.ref (ad1 (3, j, p, 0)), _, _, _, _, _, _, _, _]) : va_E) = _
    rw [ha 3 j p 0 (Or.inl (by decide))]
    rfl
  | 6, _ =>
    show (Sum.inr (0, [.ref (ad1 (10, j, p, 0)), .ref (ad1 (3, j, p, 1)), .ref (ad1 (3, j, p, 2)), .ref (ad1 (3, j, p, 3)), _]) : va_E) = _
    rw [ha 10 j p 0 (Or.inl (by decide)), ha 3 j p 1 (Or.inl (by decide)), ha 3 j p 2 (Or.inl (by decide)), ha 3 j p 3 (Or.inl (by decide))]
    rfl
  | 7, _ =>
    show (Sum.inr (7, [.ref (ad1 (0, 0, 0, 0)), .ref (ad1 (0, 1, 0, 0)), .ref (ad1 (0, 2, 0, 0)), _, .ref (ad1 (8, 11, 7, 0)), .ref (ad1 (5, 11, 4, 0)), .ref (ad1 (6, 11, 5, 0)), .ref (ad1 (3, 11, 6, 0)), _]) : va_E) = _
    rw [ha 0 0 0 0 (Or.inl (by decide)), ha 0 1 0 0 (Or.inl (by decide)), ha 0 2 0 0 (Or.inl (by decide)), ha 8 11 7 0 (Or.inl (by decide)), ha 5 11 4 0 (Or.inl (by decide)), ha 6 11 5 0 (Or.inl (by decide)), ha 3 11 6 0 (Or.inl (by decide))]
    rfl
  | 8, _ =>
    show (Sum.inr (3, [.ref (ad1 (9, j, p, 0)), _, _]) : va_E) = _
    rw [ha 9 j p 0 (Or.inl (by decide))]
    rfl
  | 9, _ =>
    show (Sum.inl (wHs w, 8, .inr (.inr (.inr (.inr (fun q => some (ad1 (0, 3 + q, 0, 0))))))) : va_E) = Sum.inl (wHs w, 8, .inr (.inr (.inr (.inr (fun q => some (ad2 (0, 3 + q, 0, 0)))))))
    rw [show (fun q => some (ad1 (0, 3 + q, 0, 0))) = fun q => some (ad2 (0, 3 + q, 0, 0)) from funext fun q => by rw [ha 0 (3 + q) 0 0 (Or.inl (by decide))]]
  | 10, _ =>
    show (Sum.inl (wFs w, 30, .inr (.inr (.inr (.inr (fun x => dForm (wM w I1 ad1) ((Ω.1 j p).2 0 x)))))) : va_E) = Sum.inl (wFs w, 30, .inr (.inr (.inr (.inr (fun x => dForm (wM w I2 ad2) ((Ω.1 j p).2 0 x))))))
    rw [show (fun x => dForm (wM w I1 ad1) ((Ω.1 j p).2 0 x)) = fun x => dForm (wM w I2 ad2) ((Ω.1 j p).2 0 x) from funext fun x => hd _]
  | 12, _ =>
    show (Sum.inl (wI w, mlen a, Sum.inl (Ω.2.1.2 a)) : va_E) = Sum.inl (wI w, mlen a, Sum.inl (Ω'.2.1.2 a))
    rw [h2]
  | k + 13, _ => rfl
set_option maxRecDepth 20000 in
/-- this.f = new int[n] -/
theorem s_arM {w : WP} {I : ID → Prop} {ad : ID → Nat} {X : CX} {cc : ByteArray} {d nL mc ms : Nat} {Q : QT} {pc : Nat} {lo : List (Nat × Value)} {S : Nat → Nat → HV} {τ : HV} {o : Nat → Int64} (hD : gD w) (hx : ∀ z, wOk w z ∨ I z → okX z) (C : gC (wM w I ad) X cc "HedgeMessagesModel" none d nL) (hT : gTn X mc ms) (hY : gY w) (hag : gAg w I ad) (hbh : gBh X I ad) (a n : Nat) (hn : mlen a = n) (hn1 : n ≤ 10000) (h0 : wFr w (11, 12, 0, 0)) (h4 : ¬ (wOk w (12, 12, 0, a) ∨ I (12, 12, 0, a))) {b : Nat} (hb : wAd w (11, 12, 0, 0) = b) {fs fs' : (ID → Nat) → List Value} (hfs : ∀ ad1 ad2 : ID → Nat, (∀ z, I z → ad1 z = ad2 z) → fs ad1 = fs ad2) (hfs' : ∀ ad, fs' ad = (fs ad).set a (.ref (ad (12, 12, 0, a)))) (ha23 : a < 23) {idxF : Nat} (hlink : Cond.fieldLink "HedgeMessagesModel" idxF (TX11 a).1 (TX11 a).2.1 (TX11 a).2.2.1 ∈ lw_tbl) (hfin : (TX11 a).2.2.2 = true) (hdecl : (TX11 a).1 = "HedgeMessagesModel") (hty : tyX11 a = .array .int) (hlen : a < (fs ad).length) (hlo : lo[0]? = some (0, .ref b)) {l : Nat}
    (d0 : decode cc pc = .ok (.aload_n 0, 1)) (d3 : ∀ {w9 : WP} {Q9 : QT} {ct9 : CT} {st9 : List Value}, gC w9 X cc "HedgeMessagesModel" none d nL → gU w9 X Q9 ct9 (pc + 1 + l) lo (.int (nI n) :: st9) → gU w9 X Q9 ct9 (pc + 1) lo st9) (d4 : decode cc (pc + 1 + l) = .ok (.newarray .int, 2)) (d5 : decode cc (pc + 1 + l + 2) = .ok (.putfield idxF, 3)) (hq : qOk X (Q.1, Q.2.1 + 1, Q.2.2 + n)) (hτ : τ.2 a = fun _ => 0)
    (kk : ∀ ad', gAg w (fun z => I z ∨ one (12, 12, 0, a) z) ad' → gBh X (fun z => I z ∨ one (12, 12, 0, a) z) ad' → gC (wM w (fun z => I z ∨ one (12, 12, 0, a) z) ad') X cc "HedgeMessagesModel" none d nL → gU (wM w (fun z => I z ∨ one (12, 12, 0, a) z) ad') X (Q.1, Q.2.1 + 1, Q.2.2 + n) (upE (cA (wM w (fun z => I z ∨ one (12, 12, 0, a) z) ad') (S, τ, o)) (11, 12, 0, 0) (.inr (8, fs' ad'))) (pc + 1 + l + 2 + 3) lo []) : gU (wM w I ad) X Q (upE (cA (wM w I ad) (S, τ, o)) (11, 12, 0, 0) (.inr (8, fs ad))) pc lo [] := by
  have h0o := hD.2.1 _ h0
  refine r_aload_n C (k := 0) hlo rfl d0 ?_
  refine d3 C ?_
  refine r_newI C hY (12, 12, 0, a) h4 (nI_pos (by omega)) (nI_clamp (by omega)) (by omega) d4 hq fun q hag' hbh' C' => ?_
  have hagF := gAg_M hag hag'
  have hbhF := gBh_M hbh hag' hbh'
  have hq4 : adU (wM w I ad) (12, 12, 0, a) q (12, 12, 0, a) = q := if_pos rfl
  have eW : wM (wM w I ad) (one (12, 12, 0, a)) (adU (wM w I ad) (12, 12, 0, a) q) = wM w (fun z => I z ∨ one (12, 12, 0, a) z) (adU (wM w I ad) (12, 12, 0, a) q) := wM_M
  rw [eW] at C' ⊢
  generalize adU (wM w I ad) (12, 12, 0, a) q = ad' at hag' hbh' C' hagF hbhF hq4 ⊢
  refine r_putR C' hT F11 a (11, 12, 0, 0) (Or.inl h0) ((hagF.1 _ h0o).trans hb) (fs := fs ad) ?_ ha23 hlink hfin hdecl (by rw [hty]; rfl) (by rw [hty]; rfl) hlen d5 (ct' := upE (cA (wM w (fun z => I z ∨ one (12, 12, 0, a) z) ad') (S, τ, o)) (11, 12, 0, 0) (.inr (8, fs' ad'))) (fun z hz => ?_) (kk ad' hagF hbhF C')
  · rw [upE_n (by intro h; cases h), upE_s]
  · by_cases h1 : z = (11, 12, 0, 0)
    · subst h1
      rw [upE_s, upE_s, hfs', hfs ad' ad (fun z hz => hag'.1 z (Or.inr hz)), hq4]
    · rw [upE_n h1, upE_n h1]
      by_cases h5 : z = (12, 12, 0, a)
      · subst h5
        rw [upE_s]
        show _ = (Sum.inl (wI w, mlen a, Sum.inl (τ.2 a)) : va_E)
        rw [hτ, hn]
        rfl
      · rw [upE_n h5, upE_n h1]
        have hz' : wOk w z ∨ I z := hz.elim Or.inl (fun h => h.elim Or.inr (fun h => absurd h h5))
        exact cA_K (fun k j p a9 hk => (hag'.2 _ (fun h => by have h9 : k = 12 := congrArg Prod.fst h; omega)).symm) rfl rfl rfl z (fun h => h1 (x_11 (hx z hz') h))
/-- the text laid down letter by letter -/
theorem lp_mi {w : WP} (hW : gWM w) (hS : gS w) {X : CX} {d : Nat} {Q : QT} (C : gC w X cX11_init "HedgeMessagesModel" none (d + 4) 3) (hq : qOk X Q) {S : Nat → Nat → HV} {t : HV} {o : Nat → Int64} :
    ∀ n i, n + i = 98 → gU w X Q (cA w (S, sA t 10 (ltr 27 98), o)) 118 [(2, .int (nI 98)), (1, .ref (sAd w 27)), (0, .ref (wAd w (11, 12, 0, 0)))] [] → gU w X Q (cA w (S, sA t 10 (ltr 27 i), o)) 93 [(2, .int (nI i)), (1, .ref (sAd w 27)), (0, .ref (wAd w (11, 12, 0, 0)))] [] := by
  have hsl : gX w X (va_O "java/lang/String" (sAd w 27)) := (hS.s C).imp fun _ _ _ h => (h.2.2.2 27 (by decide)).1
  intro n
  induction n with
  | zero =>
    intro i hi kk
    have hi : i = 98 := by omega
    subst hi
    refine r_iload_n C (k := 0) rfl rfl dX11_init_93 ?_
    refine r_aload_n C (k := 1) rfl rfl dX11_init_94 ?_
    refine r_callE C (d' := 1) [] (c_slen hS (i := 27) (by decide)) myJ0_length_8abf5 wm6_176 hsl rfl (by omega) (by decide) (kR rfl) rfl dX11_init_95 ?_ hq
    rw [tL_len]
    exact r_icmp_ge C (tgt := 118) rfl dX11_init_98 (fun _ => kk) (fun h => absurd (Int32.le_refl _) h)
  | succ n ih =>
    intro i hi kk
    have hil : i < 98 := by omega
    refine r_iload_n C (k := 0) rfl rfl dX11_init_93 ?_
    refine r_aload_n C (k := 1) rfl rfl dX11_init_94 ?_
    refine r_callE C (d' := 1) [] (c_slen hS (i := 27) (by decide)) myJ0_length_8abf5 wm6_176 hsl rfl (by omega) (by decide) (kR rfl) rfl dX11_init_95 ?_ hq
    rw [tL_len]
    refine r_icmp_ge C (tgt := 118) rfl dX11_init_98 (fun h => absurd h (nI_ge hil (by decide))) (fun _ => ?_)
    refine r_aload_n C (k := 2) rfl rfl dX11_init_101 ?_
    refine og_11_10 C (hW.ok k11) wm7_77 dX11_init_102 ?_
    refine r_iload_n C (k := 0) rfl rfl dX11_init_105 ?_
    refine r_aload_n C (k := 1) rfl rfl dX11_init_106 ?_
    refine r_iload_n C (k := 0) rfl rfl dX11_init_107 ?_
    refine r_callE C (d' := 3) [.int (nI i)] (c_charAt hS (i := 27) (by decide) (by rw [tL_len]; exact vp_in_nI hil (by decide))) myJ0_charAt_5068e wm6_177 hsl rfl (by omega) (by decide) (kR rfl) rfl dX11_init_108 ?_ hq
    have e : sM (S, sA t 10 (ltr 27 i), o) (aw (sA t 10 (ltr 27 i)) 10 (nI i) (sCh 27 (nI i))) = (S, sA t 10 (ltr 27 (i + 1)), o) := by
      rw [Z_aw (by omega), sA2s, sAA, ltr_s]
      rfl
    refine m_ast C hW.1 (hW.fr (k12 (a := 10) (by unfold okMa; decide))) (τ := sA t 10 (ltr 27 i)) rfl (n := 800) rfl (by rw [Z_vpb (by omega)]; omega) dX11_init_111 e ?_
    refine r_iinc C (k := 0) (v := nI (i + 1)) (lo' := [(2, .int (nI (i + 1))), (1, .ref (sAd w 27)), (0, .ref (wAd w (11, 12, 0, 0)))]) rfl (show nI i + Int32.ofInt 1 = nI (i + 1) from nI_1 i) (by decide) rfl dX11_init_112 ?_
    refine r_goto C (tgt := 93) rfl dX11_init_115 ?_
    exact ih (i + 1) (by omega) kk
def fsM0 : List Value := [.null, .null, .null, .null, .null, .int 0, .int 0, .int 0, .int 0, .null, .null, .int 0, .int 0, .int 0, .int 0, .int 0, .int 0, .int 0, .int 0, .null, .int 0, .null, .int 0]
def IM0 : ID → Prop := IZ
def IM1 : ID → Prop := fun z => IM0 z ∨ one (12, 12, 0, 0) z
def IM2 : ID → Prop := fun z => IM1 z ∨ one (12, 12, 0, 1) z
def IM3 : ID → Prop := fun z => IM2 z ∨ one (12, 12, 0, 2) z
def IM4 : ID → Prop := fun z => IM3 z ∨ one (12, 12, 0, 3) z
def IM5 : ID → Prop := fun z => IM4 z ∨ one (12, 12, 0, 4) z
def IM6 : ID → Prop := fun z => IM5 z ∨ one (12, 12, 0, 9) z
def IM7 : ID → Prop := fun z => IM6 z ∨ one (12, 12, 0, 10) z
def IM8 : ID → Prop := fun z => IM7 z ∨ one (12, 12, 0, 19) z
def IM9 : ID → Prop := fun z => IM8 z ∨ one (12, 12, 0, 21) z
def IM : ID → Prop := IM9
def tZ : HV := (fun _ => 0, fun _ _ => 0)
def tI : HV := sS (sA (sS tZ 18 (-1)) 10 (ltr 27 98)) 11 (nI 98)
theorem IM1_x {z : ID} (h : IM1 z) : z.1 = 12 ∧ okM z := by
  rcases h with h | h
  · exact (h : False).elim
  · cases h
    exact ⟨rfl, k12 (by unfold okMa; decide)⟩
theorem IM1_n {a : Nat} (h : IM1 (12, 12, 0, a)) : a = 0 := by
  rcases h with h | h
  · exact (h : False).elim
  · have h9 : a = 0 := congrArg (fun z : ID => z.2.2.2) h
    omega
theorem IM2_x {z : ID} (h : IM2 z) : z.1 = 12 ∧ okM z := by
  rcases h with h | h
  · exact IM1_x h
  · cases h
    exact ⟨rfl, k12 (by unfold okMa; decide)⟩
theorem IM2_n {a : Nat} (h : IM2 (12, 12, 0, a)) : a = 0 ∨ a = 1 := by
  rcases h with h | h
  · have := IM1_n h
    omega
  · have h9 : a = 1 := congrArg (fun z : ID => z.2.2.2) h
    omega
theorem IM3_x {z : ID} (h : IM3 z) : z.1 = 12 ∧ okM z := by
  rcases h with h | h
  · exact IM2_x h
  · cases h
    exact ⟨rfl, k12 (by unfold okMa; decide)⟩
theorem IM3_n {a : Nat} (h : IM3 (12, 12, 0, a)) : a = 0 ∨ a = 1 ∨ a = 2 := by
  rcases h with h | h
  · have := IM2_n h
    omega
  · have h9 : a = 2 := congrArg (fun z : ID => z.2.2.2) h
    omega
theorem IM4_x {z : ID} (h : IM4 z) : z.1 = 12 ∧ okM z := by
  rcases h with h | h
  · exact IM3_x h
  · cases h
    exact ⟨rfl, k12 (by unfold okMa; decide)⟩
theorem IM4_n {a : Nat} (h : IM4 (12, 12, 0, a)) : a = 0 ∨ a = 1 ∨ a = 2 ∨ a = 3 := by
  rcases h with h | h
  · have := IM3_n h
    omega
  · have h9 : a = 3 := congrArg (fun z : ID => z.2.2.2) h
    omega
theorem IM5_x {z : ID} (h : IM5 z) : z.1 = 12 ∧ okM z := by
  rcases h with h | h
  · exact IM4_x h
  · cases h
    exact ⟨rfl, k12 (by unfold okMa; decide)⟩
theorem IM5_n {a : Nat} (h : IM5 (12, 12, 0, a)) : a = 0 ∨ a = 1 ∨ a = 2 ∨ a = 3 ∨ a = 4 := by
  rcases h with h | h
  · have := IM4_n h
    omega
  · have h9 : a = 4 := congrArg (fun z : ID => z.2.2.2) h
    omega
theorem IM6_x {z : ID} (h : IM6 z) : z.1 = 12 ∧ okM z := by
  rcases h with h | h
  · exact IM5_x h
  · cases h
    exact ⟨rfl, k12 (by unfold okMa; decide)⟩
theorem IM6_n {a : Nat} (h : IM6 (12, 12, 0, a)) : a = 0 ∨ a = 1 ∨ a = 2 ∨ a = 3 ∨ a = 4 ∨ a = 9 := by
  rcases h with h | h
  · have := IM5_n h
    omega
  · have h9 : a = 9 := congrArg (fun z : ID => z.2.2.2) h
    omega
theorem IM7_x {z : ID} (h : IM7 z) : z.1 = 12 ∧ okM z := by
  rcases h with h | h
  · exact IM6_x h
  · cases h
    exact ⟨rfl, k12 (by unfold okMa; decide)⟩
theorem IM7_n {a : Nat} (h : IM7 (12, 12, 0, a)) : a = 0 ∨ a = 1 ∨ a = 2 ∨ a = 3 ∨ a = 4 ∨ a = 9 ∨ a = 10 := by
  rcases h with h | h
  · have := IM6_n h
    omega
  · have h9 : a = 10 := congrArg (fun z : ID => z.2.2.2) h
    omega
theorem IM8_x {z : ID} (h : IM8 z) : z.1 = 12 ∧ okM z := by
  rcases h with h | h
  · exact IM7_x h
  · cases h
    exact ⟨rfl, k12 (by unfold okMa; decide)⟩
theorem IM8_n {a : Nat} (h : IM8 (12, 12, 0, a)) : a = 0 ∨ a = 1 ∨ a = 2 ∨ a = 3 ∨ a = 4 ∨ a = 9 ∨ a = 10 ∨ a = 19 := by
  rcases h with h | h
  · have := IM7_n h
    omega
  · have h9 : a = 19 := congrArg (fun z : ID => z.2.2.2) h
    omega
theorem IM9_x {z : ID} (h : IM9 z) : z.1 = 12 ∧ okM z := by
  rcases h with h | h
  · exact IM8_x h
  · cases h
    exact ⟨rfl, k12 (by unfold okMa; decide)⟩
theorem IM9_n {a : Nat} (h : IM9 (12, 12, 0, a)) : a = 0 ∨ a = 1 ∨ a = 2 ∨ a = 3 ∨ a = 4 ∨ a = 9 ∨ a = 10 ∨ a = 19 ∨ a = 21 := by
  rcases h with h | h
  · have := IM8_n h
    omega
  · have h9 : a = 21 := congrArg (fun z : ID => z.2.2.2) h
    omega
theorem IM_ok {a : Nat} (ha : okMa a) : IM (12, 12, 0, a) := by
  unfold okMa at ha
  have h : a = 0 ∨ a = 1 ∨ a = 2 ∨ a = 3 ∨ a = 4 ∨ a = 9 ∨ a = 10 ∨ a = 19 ∨ a = 21 := by omega
  rcases h with rfl | rfl | rfl | rfl | rfl | rfl | rfl | rfl | rfl
  · exact Or.inl (Or.inl (Or.inl (Or.inl (Or.inl (Or.inl (Or.inl (Or.inl (Or.inr rfl))))))))
  · exact Or.inl (Or.inl (Or.inl (Or.inl (Or.inl (Or.inl (Or.inl (Or.inr rfl)))))))
  · exact Or.inl (Or.inl (Or.inl (Or.inl (Or.inl (Or.inl (Or.inr rfl))))))
  · exact Or.inl (Or.inl (Or.inl (Or.inl (Or.inl (Or.inr rfl)))))
  · exact Or.inl (Or.inl (Or.inl (Or.inl (Or.inr rfl))))
  · exact Or.inl (Or.inl (Or.inl (Or.inr rfl)))
  · exact Or.inl (Or.inl (Or.inr rfl))
  · exact Or.inl (Or.inr rfl)
  · exact Or.inr rfl
theorem IMin1_0 : IM1 (12, 12, 0, 0) := Or.inr rfl
theorem IMin2_0 : IM2 (12, 12, 0, 0) := Or.inl (Or.inr rfl)
theorem IMin2_1 : IM2 (12, 12, 0, 1) := Or.inr rfl
theorem IMin3_0 : IM3 (12, 12, 0, 0) := Or.inl (Or.inl (Or.inr rfl))
theorem IMin3_1 : IM3 (12, 12, 0, 1) := Or.inl (Or.inr rfl)
theorem IMin3_2 : IM3 (12, 12, 0, 2) := Or.inr rfl
theorem IMin4_0 : IM4 (12, 12, 0, 0) := Or.inl (Or.inl (Or.inl (Or.inr rfl)))
theorem IMin4_1 : IM4 (12, 12, 0, 1) := Or.inl (Or.inl (Or.inr rfl))
theorem IMin4_2 : IM4 (12, 12, 0, 2) := Or.inl (Or.inr rfl)
theorem IMin4_3 : IM4 (12, 12, 0, 3) := Or.inr rfl
theorem IMin5_0 : IM5 (12, 12, 0, 0) := Or.inl (Or.inl (Or.inl (Or.inl (Or.inr rfl))))
theorem IMin5_1 : IM5 (12, 12, 0, 1) := Or.inl (Or.inl (Or.inl (Or.inr rfl)))
theorem IMin5_2 : IM5 (12, 12, 0, 2) := Or.inl (Or.inl (Or.inr rfl))
theorem IMin5_3 : IM5 (12, 12, 0, 3) := Or.inl (Or.inr rfl)
theorem IMin5_4 : IM5 (12, 12, 0, 4) := Or.inr rfl
theorem IMin6_0 : IM6 (12, 12, 0, 0) := Or.inl (Or.inl (Or.inl (Or.inl (Or.inl (Or.inr rfl)))))
theorem IMin6_1 : IM6 (12, 12, 0, 1) := Or.inl (Or.inl (Or.inl (Or.inl (Or.inr rfl))))
theorem IMin6_2 : IM6 (12, 12, 0, 2) := Or.inl (Or.inl (Or.inl (Or.inr rfl)))
theorem IMin6_3 : IM6 (12, 12, 0, 3) := Or.inl (Or.inl (Or.inr rfl))
theorem IMin6_4 : IM6 (12, 12, 0, 4) := Or.inl (Or.inr rfl)
theorem IMin6_9 : IM6 (12, 12, 0, 9) := Or.inr rfl
theorem IMin7_0 : IM7 (12, 12, 0, 0) := Or.inl (Or.inl (Or.inl (Or.inl (Or.inl (Or.inl (Or.inr rfl))))))
theorem IMin7_1 : IM7 (12, 12, 0, 1) := Or.inl (Or.inl (Or.inl (Or.inl (Or.inl (Or.inr rfl)))))
theorem IMin7_2 : IM7 (12, 12, 0, 2) := Or.inl (Or.inl (Or.inl (Or.inl (Or.inr rfl))))
theorem IMin7_3 : IM7 (12, 12, 0, 3) := Or.inl (Or.inl (Or.inl (Or.inr rfl)))
theorem IMin7_4 : IM7 (12, 12, 0, 4) := Or.inl (Or.inl (Or.inr rfl))
theorem IMin7_9 : IM7 (12, 12, 0, 9) := Or.inl (Or.inr rfl)
theorem IMin7_10 : IM7 (12, 12, 0, 10) := Or.inr rfl
theorem IMin8_0 : IM8 (12, 12, 0, 0) := Or.inl (Or.inl (Or.inl (Or.inl (Or.inl (Or.inl (Or.inl (Or.inr rfl)))))))
theorem IMin8_1 : IM8 (12, 12, 0, 1) := Or.inl (Or.inl (Or.inl (Or.inl (Or.inl (Or.inl (Or.inr rfl))))))
theorem IMin8_2 : IM8 (12, 12, 0, 2) := Or.inl (Or.inl (Or.inl (Or.inl (Or.inl (Or.inr rfl)))))
theorem IMin8_3 : IM8 (12, 12, 0, 3) := Or.inl (Or.inl (Or.inl (Or.inl (Or.inr rfl))))
theorem IMin8_4 : IM8 (12, 12, 0, 4) := Or.inl (Or.inl (Or.inl (Or.inr rfl)))
theorem IMin8_9 : IM8 (12, 12, 0, 9) := Or.inl (Or.inl (Or.inr rfl))
theorem IMin8_10 : IM8 (12, 12, 0, 10) := Or.inl (Or.inr rfl)
theorem IMin8_19 : IM8 (12, 12, 0, 19) := Or.inr rfl
theorem IMin9_0 : IM9 (12, 12, 0, 0) := Or.inl (Or.inl (Or.inl (Or.inl (Or.inl (Or.inl (Or.inl (Or.inl (Or.inr rfl))))))))
theorem IMin9_1 : IM9 (12, 12, 0, 1) := Or.inl (Or.inl (Or.inl (Or.inl (Or.inl (Or.inl (Or.inl (Or.inr rfl)))))))
theorem IMin9_2 : IM9 (12, 12, 0, 2) := Or.inl (Or.inl (Or.inl (Or.inl (Or.inl (Or.inl (Or.inr rfl))))))
theorem IMin9_3 : IM9 (12, 12, 0, 3) := Or.inl (Or.inl (Or.inl (Or.inl (Or.inl (Or.inr rfl)))))
theorem IMin9_4 : IM9 (12, 12, 0, 4) := Or.inl (Or.inl (Or.inl (Or.inl (Or.inr rfl))))
theorem IMin9_9 : IM9 (12, 12, 0, 9) := Or.inl (Or.inl (Or.inl (Or.inr rfl)))
theorem IMin9_10 : IM9 (12, 12, 0, 10) := Or.inl (Or.inl (Or.inr rfl))
theorem IMin9_19 : IM9 (12, 12, 0, 19) := Or.inl (Or.inr rfl)
theorem IMin9_21 : IM9 (12, 12, 0, 21) := Or.inr rfl
theorem r_pu18 {w : WP} {I : ID → Prop} {ad : ID → Nat} {X : CX} {cc : ByteArray} {d nL : Nat} {Q : QT} {pc : Nat} {lo : List (Nat × Value)} {S : Nat → Nat → HV} {τ : HV} {o : Nat → Int64} (C : gC (wM w I ad) X cc "HedgeMessagesModel" none d nL) (h0 : wFr w (11, 12, 0, 0)) {b : Nat} (hb : b = wAd (wM w I ad) (11, 12, 0, 0)) {fs fs' : (ID → Nat) → List Value} (hfs' : fs' ad = (fs ad).set 18 (.int (-1))) {idx : Nat} (hlink : Cond.fieldLink "HedgeMessagesModel" idx "HedgeMessagesModel" "toldAt" "I" ∈ lw_tbl) (hd : decode cc pc = .ok (.putfield idx, 3)) (kk : gU (wM w I ad) X Q (upE (cA (wM w I ad) (S, τ, o)) (11, 12, 0, 0) (.inr (8, fs' ad))) (pc + 3) lo []) (hlen : 18 < (fs ad).length) : gU (wM w I ad) X Q (upE (cA (wM w I ad) (S, τ, o)) (11, 12, 0, 0) (.inr (8, fs ad))) pc lo [.int (-1), .ref b] := by
  subst hb
  refine r_put C F11 18 (11, 12, 0, 0) (Or.inl h0) (fs := fs ad) upE_s (by decide) hlink rfl (vp_nar_int (-1)) rfl hlen hd (fun z _ => ?_) kk
  by_cases h1 : z = (11, 12, 0, 0)
  · subst h1
    rw [upE_s, upE_s, hfs']
  · rw [upE_n h1, upE_n h1, upE_n h1]
set_option maxRecDepth 40000 in
set_option maxHeartbeats 4000000 in
theorem c_X11_init {w : WP} (hD : gD w) (hY : gY w) (hS : gS w) (hx : ∀ z, wOk w z → okX z) (hn : ∀ a, ¬ wOk w (12, 12, 0, a)) (h0 : wFr w (11, 12, 0, 0)) {b : Nat} (hb : wAd w (11, 12, 0, 0) = b) {S : Nat → Nat → HV} {o : Nat → Int64} {ct : CT} (hct : ∀ z, wOk w z → ct z = upE (cA w (S, tZ, o)) (11, 12, 0, 0) (.inr (8, fsM0)) z) {N : Nat} {v : Int32} {τ' : HV} (hF : F_X11_load N tI = some (v, τ')) : gMn w 7 yX11_init cX11_init 3 [.ref b] ct IM (fun ad => cA (wM w IM ad) (S, τ', o)) 9 10453 := by
  refine gMn_of "HedgeMessagesModel" rfl rfl (by decide) (kR rfl) fun X C hT => ?_
  have hq : ∀ c n, c ≤ 9 → n ≤ 10453 → qOk X ((qN1 w X IM (fun ad => cA (wM w IM ad) (S, τ', o)) 9 10453), c, n) := by
    intro c n hc hn
    obtain ⟨p, e, R, s, m, args, below, meth, c9, nn, A⟩ := X
    exact ⟨Nat.le_trans hc hT.1, Nat.le_trans hn hT.2.1⟩
  have hbz : gBh X IM0 (wAd w) := by
    obtain ⟨p, e, R, s, m, args, below, meth, c9, nn, A⟩ := X
    exact fun _ h => (h : False).elim
  show gU w X _ _ 0 [(0, .ref b)] []
  refine r_aload_n C (k := 0) rfl rfl dX11_init_0 ?_
  refine r_objInit C wm6_174 (kR rfl) (kR rfl) dX11_init_1 ?_
  refine gU_P hct ?_
  have eZ : w = wM w IM0 (wAd w) := wM_Z.symm
  have C0 : gC (wM w IM0 (wAd w)) X cX11_init "HedgeMessagesModel" none 7 3 := by rw [← eZ]; exact C
  have hag0 : gAg w IM0 (wAd w) := ⟨fun _ _ => rfl, fun _ _ => rfl⟩
  rw [show upE (cA w (S, tZ, o)) (11, 12, 0, 0) (.inr (8, fsM0)) = upE (cA (wM w IM0 (wAd w)) (S, tZ, o)) (11, 12, 0, 0) (.inr (8, fsM0)) from by rw [← eZ]]
  suffices hgo : ∀ Q5 : QT, Q5 = (qN1 w X IM (fun ad => cA (wM w IM ad) (S, τ', o)) 9 10453, 0, 0) → gU (wM w IM0 (wAd w)) X Q5 (upE (cA (wM w IM0 (wAd w)) (S, tZ, o)) (11, 12, 0, 0) (.inr (8, fsM0))) 4 [(0, .ref b)] [] by
    have := hgo _ rfl
    rw [← eZ] at this
    rw [← eZ]
    exact this
  intro Q5 hQ5
  subst hQ5
  refine s_arM (l := 3) (I := IM0) (fs := fun ad => [.null, .null, .null, .null, .null, .int 0, .int 0, .int 0, .int 0, .null, .null, .int 0, .int 0, .int 0, .int 0, .int 0, .int 0, .int 0, .int 0, .null, .int 0, .null, .int 0]) (fs' := fun ad => [.ref (ad (12, 12, 0, 0)), .null, .null, .null, .null, .int 0, .int 0, .int 0, .int 0, .null, .null, .int 0, .int 0, .int 0, .int 0, .int 0, .int 0, .int 0, .int 0, .null, .int 0, .null, .int 0]) (S := S) (τ := tZ) (o := o) hD (fun z hz => hz.elim (hx z) (fun h => (h : False).elim)) C0 hT hY hag0 hbz 0 760 rfl (by decide) h0 (fun h => h.elim (hn _) (fun h => (h : False).elim)) hb (fun _ _ _ => rfl) (fun _ => rfl) (by decide) wm7_67 rfl rfl rfl (by show 0 < 23; decide) rfl dX11_init_4 (fun C9 k9 => r_sipush C9 (v := nI 760) rfl dX11_init_5 k9) dX11_init_8 dX11_init_10 (hq _ _ (kR rfl) (kR rfl)) rfl fun ad1 hag1 hbh1 C1 => ?_
  change gAg w IM1 ad1 at hag1
  change gBh X IM1 ad1 at hbh1
  change gC (wM w IM1 ad1) X _ _ _ _ _ at C1
  change gU (wM w IM1 ad1) X _ (upE (cA (wM w IM1 ad1) (S, tZ, o)) _ _) _ _ _
  refine s_arM (l := 3) (I := IM1) (fs := fun ad => [.ref (ad (12, 12, 0, 0)), .null, .null, .null, .null, .int 0, .int 0, .int 0, .int 0, .null, .null, .int 0, .int 0, .int 0, .int 0, .int 0, .int 0, .int 0, .int 0, .null, .int 0, .null, .int 0]) (fs' := fun ad => [.ref (ad (12, 12, 0, 0)), .ref (ad (12, 12, 0, 1)), .null, .null, .null, .int 0, .int 0, .int 0, .int 0, .null, .null, .int 0, .int 0, .int 0, .int 0, .int 0, .int 0, .int 0, .int 0, .null, .int 0, .null, .int 0]) (S := S) (τ := tZ) (o := o) hD (fun z hz => hz.elim (hx z) (fun h => Or.inr (Or.inl (IM1_x h).2))) C1 hT hY hag1 hbh1 1 760 rfl (by decide) h0 (fun h => h.elim (hn _) (fun h => by have := IM1_n h; omega)) hb (fun ad1 ad2 h => by simp only [h (12, 12, 0, 0) (IMin1_0)]) (fun _ => rfl) (by decide) wm7_68 rfl rfl rfl (by show 1 < 23; decide) rfl dX11_init_13 (fun C9 k9 => r_sipush C9 (v := nI 760) rfl dX11_init_14 k9) dX11_init_17 dX11_init_19 (hq _ _ (kR rfl) (kR rfl)) rfl fun ad2 hag2 hbh2 C2 => ?_
  change gAg w IM2 ad2 at hag2
  change gBh X IM2 ad2 at hbh2
  change gC (wM w IM2 ad2) X _ _ _ _ _ at C2
  change gU (wM w IM2 ad2) X _ (upE (cA (wM w IM2 ad2) (S, tZ, o)) _ _) _ _ _
  refine s_arM (l := 3) (I := IM2) (fs := fun ad => [.ref (ad (12, 12, 0, 0)), .ref (ad (12, 12, 0, 1)), .null, .null, .null, .int 0, .int 0, .int 0, .int 0, .null, .null, .int 0, .int 0, .int 0, .int 0, .int 0, .int 0, .int 0, .int 0, .null, .int 0, .null, .int 0]) (fs' := fun ad => [.ref (ad (12, 12, 0, 0)), .ref (ad (12, 12, 0, 1)), .ref (ad (12, 12, 0, 2)), .null, .null, .int 0, .int 0, .int 0, .int 0, .null, .null, .int 0, .int 0, .int 0, .int 0, .int 0, .int 0, .int 0, .int 0, .null, .int 0, .null, .int 0]) (S := S) (τ := tZ) (o := o) hD (fun z hz => hz.elim (hx z) (fun h => Or.inr (Or.inl (IM2_x h).2))) C2 hT hY hag2 hbh2 2 760 rfl (by decide) h0 (fun h => h.elim (hn _) (fun h => by have := IM2_n h; omega)) hb (fun ad1 ad2 h => by simp only [h (12, 12, 0, 0) (IMin2_0), h (12, 12, 0, 1) (IMin2_1)]) (fun _ => rfl) (by decide) wm7_69 rfl rfl rfl (by show 2 < 23; decide) rfl dX11_init_22 (fun C9 k9 => r_sipush C9 (v := nI 760) rfl dX11_init_23 k9) dX11_init_26 dX11_init_28 (hq _ _ (kR rfl) (kR rfl)) rfl fun ad3 hag3 hbh3 C3 => ?_
  change gAg w IM3 ad3 at hag3
  change gBh X IM3 ad3 at hbh3
  change gC (wM w IM3 ad3) X _ _ _ _ _ at C3
  change gU (wM w IM3 ad3) X _ (upE (cA (wM w IM3 ad3) (S, tZ, o)) _ _) _ _ _
  refine s_arM (l := 3) (I := IM3) (fs := fun ad => [.ref (ad (12, 12, 0, 0)), .ref (ad (12, 12, 0, 1)), .ref (ad (12, 12, 0, 2)), .null, .null, .int 0, .int 0, .int 0, .int 0, .null, .null, .int 0, .int 0, .int 0, .int 0, .int 0, .int 0, .int 0, .int 0, .null, .int 0, .null, .int 0]) (fs' := fun ad => [.ref (ad (12, 12, 0, 0)), .ref (ad (12, 12, 0, 1)), .ref (ad (12, 12, 0, 2)), .ref (ad (12, 12, 0, 3)), .null, .int 0, .int 0, .int 0, .int 0, .null, .null, .int 0, .int 0, .int 0, .int 0, .int 0, .int 0, .int 0, .int 0, .null, .int 0, .null, .int 0]) (S := S) (τ := tZ) (o := o) hD (fun z hz => hz.elim (hx z) (fun h => Or.inr (Or.inl (IM3_x h).2))) C3 hT hY hag3 hbh3 3 760 rfl (by decide) h0 (fun h => h.elim (hn _) (fun h => by have := IM3_n h; omega)) hb (fun ad1 ad2 h => by simp only [h (12, 12, 0, 0) (IMin3_0), h (12, 12, 0, 1) (IMin3_1), h (12, 12, 0, 2) (IMin3_2)]) (fun _ => rfl) (by decide) wm7_70 rfl rfl rfl (by show 3 < 23; decide) rfl dX11_init_31 (fun C9 k9 => r_sipush C9 (v := nI 760) rfl dX11_init_32 k9) dX11_init_35 dX11_init_37 (hq _ _ (kR rfl) (kR rfl)) rfl fun ad4 hag4 hbh4 C4 => ?_
  change gAg w IM4 ad4 at hag4
  change gBh X IM4 ad4 at hbh4
  change gC (wM w IM4 ad4) X _ _ _ _ _ at C4
  change gU (wM w IM4 ad4) X _ (upE (cA (wM w IM4 ad4) (S, tZ, o)) _ _) _ _ _
  refine s_arM (l := 3) (I := IM4) (fs := fun ad => [.ref (ad (12, 12, 0, 0)), .ref (ad (12, 12, 0, 1)), .ref (ad (12, 12, 0, 2)), .ref (ad (12, 12, 0, 3)), .null, .int 0, .int 0, .int 0, .int 0, .null, .null, .int 0, .int 0, .int 0, .int 0, .int 0, .int 0, .int 0, .int 0, .null, .int 0, .null, .int 0]) (fs' := fun ad => [.ref (ad (12, 12, 0, 0)), .ref (ad (12, 12, 0, 1)), .ref (ad (12, 12, 0, 2)), .ref (ad (12, 12, 0, 3)), .ref (ad (12, 12, 0, 4)), .int 0, .int 0, .int 0, .int 0, .null, .null, .int 0, .int 0, .int 0, .int 0, .int 0, .int 0, .int 0, .int 0, .null, .int 0, .null, .int 0]) (S := S) (τ := tZ) (o := o) hD (fun z hz => hz.elim (hx z) (fun h => Or.inr (Or.inl (IM4_x h).2))) C4 hT hY hag4 hbh4 4 6080 rfl (by decide) h0 (fun h => h.elim (hn _) (fun h => by have := IM4_n h; omega)) hb (fun ad1 ad2 h => by simp only [h (12, 12, 0, 0) (IMin4_0), h (12, 12, 0, 1) (IMin4_1), h (12, 12, 0, 2) (IMin4_2), h (12, 12, 0, 3) (IMin4_3)]) (fun _ => rfl) (by decide) wm7_71 rfl rfl rfl (by show 4 < 23; decide) rfl dX11_init_40 (fun C9 k9 => r_sipush C9 (v := nI 6080) rfl dX11_init_41 k9) dX11_init_44 dX11_init_46 (hq _ _ (kR rfl) (kR rfl)) rfl fun ad5 hag5 hbh5 C5 => ?_
  change gAg w IM5 ad5 at hag5
  change gBh X IM5 ad5 at hbh5
  change gC (wM w IM5 ad5) X _ _ _ _ _ at C5
  change gU (wM w IM5 ad5) X _ (upE (cA (wM w IM5 ad5) (S, tZ, o)) _ _) _ _ _
  refine s_arM (l := 2) (I := IM5) (fs := fun ad => [.ref (ad (12, 12, 0, 0)), .ref (ad (12, 12, 0, 1)), .ref (ad (12, 12, 0, 2)), .ref (ad (12, 12, 0, 3)), .ref (ad (12, 12, 0, 4)), .int 0, .int 0, .int 0, .int 0, .null, .null, .int 0, .int 0, .int 0, .int 0, .int 0, .int 0, .int 0, .int 0, .null, .int 0, .null, .int 0]) (fs' := fun ad => [.ref (ad (12, 12, 0, 0)), .ref (ad (12, 12, 0, 1)), .ref (ad (12, 12, 0, 2)), .ref (ad (12, 12, 0, 3)), .ref (ad (12, 12, 0, 4)), .int 0, .int 0, .int 0, .int 0, .ref (ad (12, 12, 0, 9)), .null, .int 0, .int 0, .int 0, .int 0, .int 0, .int 0, .int 0, .int 0, .null, .int 0, .null, .int 0]) (S := S) (τ := tZ) (o := o) hD (fun z hz => hz.elim (hx z) (fun h => Or.inr (Or.inl (IM5_x h).2))) C5 hT hY hag5 hbh5 9 13 rfl (by decide) h0 (fun h => h.elim (hn _) (fun h => by have := IM5_n h; omega)) hb (fun ad1 ad2 h => by simp only [h (12, 12, 0, 0) (IMin5_0), h (12, 12, 0, 1) (IMin5_1), h (12, 12, 0, 2) (IMin5_2), h (12, 12, 0, 3) (IMin5_3), h (12, 12, 0, 4) (IMin5_4)]) (fun _ => rfl) (by decide) wm7_76 rfl rfl rfl (by show 9 < 23; decide) rfl dX11_init_49 (fun C9 k9 => r_bipush C9 (v := nI 13) rfl dX11_init_50 k9) dX11_init_52 dX11_init_54 (hq _ _ (kR rfl) (kR rfl)) rfl fun ad6 hag6 hbh6 C6 => ?_
  change gAg w IM6 ad6 at hag6
  change gBh X IM6 ad6 at hbh6
  change gC (wM w IM6 ad6) X _ _ _ _ _ at C6
  change gU (wM w IM6 ad6) X _ (upE (cA (wM w IM6 ad6) (S, tZ, o)) _ _) _ _ _
  refine s_arM (l := 3) (I := IM6) (fs := fun ad => [.ref (ad (12, 12, 0, 0)), .ref (ad (12, 12, 0, 1)), .ref (ad (12, 12, 0, 2)), .ref (ad (12, 12, 0, 3)), .ref (ad (12, 12, 0, 4)), .int 0, .int 0, .int 0, .int 0, .ref (ad (12, 12, 0, 9)), .null, .int 0, .int 0, .int 0, .int 0, .int 0, .int 0, .int 0, .int 0, .null, .int 0, .null, .int 0]) (fs' := fun ad => [.ref (ad (12, 12, 0, 0)), .ref (ad (12, 12, 0, 1)), .ref (ad (12, 12, 0, 2)), .ref (ad (12, 12, 0, 3)), .ref (ad (12, 12, 0, 4)), .int 0, .int 0, .int 0, .int 0, .ref (ad (12, 12, 0, 9)), .ref (ad (12, 12, 0, 10)), .int 0, .int 0, .int 0, .int 0, .int 0, .int 0, .int 0, .int 0, .null, .int 0, .null, .int 0]) (S := S) (τ := tZ) (o := o) hD (fun z hz => hz.elim (hx z) (fun h => Or.inr (Or.inl (IM6_x h).2))) C6 hT hY hag6 hbh6 10 800 rfl (by decide) h0 (fun h => h.elim (hn _) (fun h => by have := IM6_n h; omega)) hb (fun ad1 ad2 h => by simp only [h (12, 12, 0, 0) (IMin6_0), h (12, 12, 0, 1) (IMin6_1), h (12, 12, 0, 2) (IMin6_2), h (12, 12, 0, 3) (IMin6_3), h (12, 12, 0, 4) (IMin6_4), h (12, 12, 0, 9) (IMin6_9)]) (fun _ => rfl) (by decide) wm7_77 rfl rfl rfl (by show 10 < 23; decide) rfl dX11_init_57 (fun C9 k9 => r_sipush C9 (v := nI 800) rfl dX11_init_58 k9) dX11_init_61 dX11_init_63 (hq _ _ (kR rfl) (kR rfl)) rfl fun ad7 hag7 hbh7 C7 => ?_
  change gAg w IM7 ad7 at hag7
  change gBh X IM7 ad7 at hbh7
  change gC (wM w IM7 ad7) X _ _ _ _ _ at C7
  change gU (wM w IM7 ad7) X _ (upE (cA (wM w IM7 ad7) (S, tZ, o)) _ _) _ _ _
  refine r_aload_n C7 (k := 0) rfl rfl dX11_init_66 ?_
  refine r_iconst C7 (v := -1) rfl dX11_init_67 ?_
  have eb : b = wAd (wM w IM7 ad7) (11, 12, 0, 0) := ((hag7.1 _ (hD.2.1 _ h0)).trans hb).symm
  refine r_pu18 C7 h0 eb (fs := fun ad => [.ref (ad (12, 12, 0, 0)), .ref (ad (12, 12, 0, 1)), .ref (ad (12, 12, 0, 2)), .ref (ad (12, 12, 0, 3)), .ref (ad (12, 12, 0, 4)), .int 0, .int 0, .int 0, .int 0, .ref (ad (12, 12, 0, 9)), .ref (ad (12, 12, 0, 10)), .int 0, .int 0, .int 0, .int 0, .int 0, .int 0, .int 0, .int 0, .null, .int 0, .null, .int 0]) (fs' := fun ad => [.ref (ad (12, 12, 0, 0)), .ref (ad (12, 12, 0, 1)), .ref (ad (12, 12, 0, 2)), .ref (ad (12, 12, 0, 3)), .ref (ad (12, 12, 0, 4)), .int 0, .int 0, .int 0, .int 0, .ref (ad (12, 12, 0, 9)), .ref (ad (12, 12, 0, 10)), .int 0, .int 0, .int 0, .int 0, .int 0, .int 0, .int 0, .int (-1), .null, .int 0, .null, .int 0]) rfl wm7_85 dX11_init_68 ?_ (by show 18 < 23; decide)
  refine s_arM (l := 3) (I := IM7) (fs := fun ad => [.ref (ad (12, 12, 0, 0)), .ref (ad (12, 12, 0, 1)), .ref (ad (12, 12, 0, 2)), .ref (ad (12, 12, 0, 3)), .ref (ad (12, 12, 0, 4)), .int 0, .int 0, .int 0, .int 0, .ref (ad (12, 12, 0, 9)), .ref (ad (12, 12, 0, 10)), .int 0, .int 0, .int 0, .int 0, .int 0, .int 0, .int 0, .int (-1), .null, .int 0, .null, .int 0]) (fs' := fun ad => [.ref (ad (12, 12, 0, 0)), .ref (ad (12, 12, 0, 1)), .ref (ad (12, 12, 0, 2)), .ref (ad (12, 12, 0, 3)), .ref (ad (12, 12, 0, 4)), .int 0, .int 0, .int 0, .int 0, .ref (ad (12, 12, 0, 9)), .ref (ad (12, 12, 0, 10)), .int 0, .int 0, .int 0, .int 0, .int 0, .int 0, .int 0, .int (-1), .ref (ad (12, 12, 0, 19)), .int 0, .null, .int 0]) (S := S) (τ := tZ) (o := o) hD (fun z hz => hz.elim (hx z) (fun h => Or.inr (Or.inl (IM7_x h).2))) C7 hT hY hag7 hbh7 19 480 rfl (by decide) h0 (fun h => h.elim (hn _) (fun h => by have := IM7_n h; omega)) hb (fun ad1 ad2 h => by simp only [h (12, 12, 0, 0) (IMin7_0), h (12, 12, 0, 1) (IMin7_1), h (12, 12, 0, 2) (IMin7_2), h (12, 12, 0, 3) (IMin7_3), h (12, 12, 0, 4) (IMin7_4), h (12, 12, 0, 9) (IMin7_9), h (12, 12, 0, 10) (IMin7_10)]) (fun _ => rfl) (by decide) wm7_86 rfl rfl rfl (by show 19 < 23; decide) rfl dX11_init_71 (fun C9 k9 => r_sipush C9 (v := nI 480) rfl dX11_init_72 k9) dX11_init_75 dX11_init_77 (hq _ _ (kR rfl) (kR rfl)) rfl fun ad8 hag8 hbh8 C8 => ?_
  change gAg w IM8 ad8 at hag8
  change gBh X IM8 ad8 at hbh8
  change gC (wM w IM8 ad8) X _ _ _ _ _ at C8
  change gU (wM w IM8 ad8) X _ (upE (cA (wM w IM8 ad8) (S, tZ, o)) _ _) _ _ _
  refine s_arM (l := 2) (I := IM8) (fs := fun ad => [.ref (ad (12, 12, 0, 0)), .ref (ad (12, 12, 0, 1)), .ref (ad (12, 12, 0, 2)), .ref (ad (12, 12, 0, 3)), .ref (ad (12, 12, 0, 4)), .int 0, .int 0, .int 0, .int 0, .ref (ad (12, 12, 0, 9)), .ref (ad (12, 12, 0, 10)), .int 0, .int 0, .int 0, .int 0, .int 0, .int 0, .int 0, .int (-1), .ref (ad (12, 12, 0, 19)), .int 0, .null, .int 0]) (fs' := fun ad => [.ref (ad (12, 12, 0, 0)), .ref (ad (12, 12, 0, 1)), .ref (ad (12, 12, 0, 2)), .ref (ad (12, 12, 0, 3)), .ref (ad (12, 12, 0, 4)), .int 0, .int 0, .int 0, .int 0, .ref (ad (12, 12, 0, 9)), .ref (ad (12, 12, 0, 10)), .int 0, .int 0, .int 0, .int 0, .int 0, .int 0, .int 0, .int (-1), .ref (ad (12, 12, 0, 19)), .int 0, .ref (ad (12, 12, 0, 21)), .int 0]) (S := S) (τ := tZ) (o := o) hD (fun z hz => hz.elim (hx z) (fun h => Or.inr (Or.inl (IM8_x h).2))) C8 hT hY hag8 hbh8 21 40 rfl (by decide) h0 (fun h => h.elim (hn _) (fun h => by have := IM8_n h; omega)) hb (fun ad1 ad2 h => by simp only [h (12, 12, 0, 0) (IMin8_0), h (12, 12, 0, 1) (IMin8_1), h (12, 12, 0, 2) (IMin8_2), h (12, 12, 0, 3) (IMin8_3), h (12, 12, 0, 4) (IMin8_4), h (12, 12, 0, 9) (IMin8_9), h (12, 12, 0, 10) (IMin8_10), h (12, 12, 0, 19) (IMin8_19)]) (fun _ => rfl) (by decide) wm7_88 rfl rfl rfl (by show 21 < 23; decide) rfl dX11_init_80 (fun C9 k9 => r_bipush C9 (v := nI 40) rfl dX11_init_81 k9) dX11_init_83 dX11_init_85 (hq _ _ (kR rfl) (kR rfl)) rfl fun ad9 hag9 hbh9 C9 => ?_
  change gAg w IM9 ad9 at hag9
  change gBh X IM9 ad9 at hbh9
  change gC (wM w IM9 ad9) X _ _ _ _ _ at C9
  change gU (wM w IM9 ad9) X _ (upE (cA (wM w IM9 ad9) (S, tZ, o)) _ _) _ _ _
  have hW9 : gWM (wM w IM9 ad9) := ⟨fun z hz => hz.elim (hx z) (fun h => Or.inr (Or.inl (IM9_x h).2)), fun z hz => (by
    obtain ⟨k, j, p, a⟩ := z
    match k, hz with
    | 0, hz | 1, hz | 2, hz | 3, hz | 4, hz | 5, hz | 6, hz | 7, hz | 8, hz | 9, hz | 10, hz => exact (hz : False).elim
    | n + 13, hz => exact (hz : False).elim
    | 11, hz =>
      obtain ⟨h1, h2, h3⟩ := hz
      have h1 : j = 12 := h1
      have h2 : p = 0 := h2
      have h3 : a = 0 := h3
      subst h1 h2 h3
      exact Or.inl h0
    | 12, hz =>
      obtain ⟨h1, h2, h3⟩ := hz
      have h1 : j = 12 := h1
      have h2 : p = 0 := h2
      subst h1 h2
      exact Or.inr (IM_ok h3)), gD_C C9⟩
  have hS9 : gS (wM w IM9 ad9) := gS_M hS hag9 (fun z hz => Or.inl (by have := (IM9_x hz).1; omega))
  have hb9 : b = wAd (wM w IM9 ad9) (11, 12, 0, 0) := ((hag9.1 _ (hD.2.1 _ h0)).trans hb).symm
  refine gU_P (ct' := cA (wM w IM9 ad9) (S, sA (sS tZ 18 (-1)) 10 (ltr 27 0), o)) (fun z hz => ?_) ?_
  · by_cases h1 : z = (11, 12, 0, 0)
    · subst h1
      rw [upE_s]
      rfl
    · rw [upE_n h1]
      refine cA_K (Ω := (S, tZ, o)) (Ω' := (S, sA (sS tZ 18 (-1)) 10 (ltr 27 0), o)) (fun _ _ _ _ _ => rfl) rfl ?_ rfl z (fun h => h1 (x_11 (hW9.1 z hz) h))
      show up (fun _ _ => 0) 10 (ltr 27 0) = fun _ _ => 0
      rw [show ltr 27 0 = fun _ => 0 from funext fun q => if_neg (Nat.not_lt_zero q)]
      exact up_id
  rw [hb9]
  refine r_ldcS C9 ((hS9.s C9).imp fun _ _ _ h => h.2.2.1 27 (by decide)) dX11_init_88 ?_
  refine r_astore_n C9 (lo' := [(1, .ref (sAd (wM w IM9 ad9) 27)), (0, .ref (wAd (wM w IM9 ad9) (11, 12, 0, 0)))]) rfl (by decide) rfl dX11_init_90 ?_
  refine r_iconst C9 (v := nI 0) rfl dX11_init_91 ?_
  refine r_istore_n C9 (lo' := [(2, .int (nI 0)), (1, .ref (sAd (wM w IM9 ad9) 27)), (0, .ref (wAd (wM w IM9 ad9) (11, 12, 0, 0)))]) rfl (by decide) rfl dX11_init_92 ?_
  refine lp_mi (d := 3) hW9 hS9 C9 (hq 9 10453 (kR rfl) (kR rfl)) 98 0 rfl ?_
  refine r_aload_n C9 (k := 2) rfl rfl dX11_init_118 ?_
  refine r_aload_n C9 (k := 1) rfl rfl dX11_init_119 ?_
  refine r_callE C9 (d' := 1) [] (c_slen hS9 (i := 27) (by decide)) myJ0_length_8abf5 wm6_176 ((hS9.s C9).imp fun _ _ _ h => (h.2.2.2 27 (by decide)).1) rfl (by omega) (by decide) (kR rfl) rfl dX11_init_120 ?_ (hq 9 10453 (kR rfl) (kR rfl))
  rw [tL_len]
  refine op_11_11 C9 hW9.1 (hW9.fr k11) (τ := sA (sS tZ 18 (-1)) 10 (ltr 27 98)) rfl wm7_78 dX11_init_123 (Ω' := (S, tI, o)) rfl ?_
  refine r_aload_n C9 (k := 2) rfl rfl dX11_init_126 ?_
  refine r_callV C9 (d' := 6) [] (c_X11_load hW9 hS9 (Ω := (S, tI, o)) rfl N hF (Ω' := (S, τ', o)) rfl) myX11_load wm6_178 ⟨_, _, _, _, hW9.ok k11, rfl, rfl, rfl, rfl⟩ rfl (kR rfl) (by decide) (kR rfl) rfl dX11_init_127 ?_ (hq 9 10453 (kR rfl) (kR rfl))
  refine r_istore_n C9 (lo' := [(2, .int v), (1, .ref (sAd (wM w IM9 ad9) 27)), (0, .ref (wAd (wM w IM9 ad9) (11, 12, 0, 0)))]) rfl (by decide) rfl dX11_init_130 ?_
  exact r_nend (w := w) (w2 := wM w IM9 ad9) (I := IM9) rfl rfl C9 hD (fun _ h => h) hag9 hbh9 (fun _ _ => rfl) dX11_init_131
