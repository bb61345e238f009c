/-! ===== 23.model: printed by wip/whole/genmodel.py ===== -/
theorem dX11_takesWord_0 : decode cX11_takesWord 0 = .ok (.aload_n 0, 1) := by decide +kernel
theorem dX11_takesWord_1 : decode cX11_takesWord 1 = .ok (.getfield 25, 3) := by decide +kernel
theorem dX11_takesWord_4 : decode cX11_takesWord 4 = .ok (.iconst 0, 1) := by decide +kernel
theorem dX11_takesWord_5 : decode cX11_takesWord 5 = .ok (.iload_n 2, 1) := by decide +kernel
theorem dX11_takesWord_6 : decode cX11_takesWord 6 = .ok (.iastore, 1) := by decide +kernel
theorem dX11_takesWord_7 : decode cX11_takesWord 7 = .ok (.iconst 0, 1) := by decide +kernel
theorem dX11_takesWord_8 : decode cX11_takesWord 8 = .ok (.istore_n 3, 1) := by decide +kernel
theorem dX11_takesWord_9 : decode cX11_takesWord 9 = .ok (.iload_n 3, 1) := by decide +kernel
theorem dX11_takesWord_10 : decode cX11_takesWord 10 = .ok (.bipush 12, 2) := by decide +kernel
theorem dX11_takesWord_12 : decode cX11_takesWord 12 = .ok (.if_icmp .ge 34, 3) := by decide +kernel
theorem dX11_takesWord_15 : decode cX11_takesWord 15 = .ok (.aload_n 0, 1) := by decide +kernel
theorem dX11_takesWord_16 : decode cX11_takesWord 16 = .ok (.getfield 25, 3) := by decide +kernel
theorem dX11_takesWord_19 : decode cX11_takesWord 19 = .ok (.iconst 1, 1) := by decide +kernel
theorem dX11_takesWord_20 : decode cX11_takesWord 20 = .ok (.iload_n 3, 1) := by decide +kernel
theorem dX11_takesWord_21 : decode cX11_takesWord 21 = .ok (.iadd, 1) := by decide +kernel
theorem dX11_takesWord_22 : decode cX11_takesWord 22 = .ok (.iload_n 3, 1) := by decide +kernel
theorem dX11_takesWord_23 : decode cX11_takesWord 23 = .ok (.iload_n 2, 1) := by decide +kernel
theorem dX11_takesWord_24 : decode cX11_takesWord 24 = .ok (.if_icmp .ge 14, 3) := by decide +kernel
theorem dX11_takesWord_27 : decode cX11_takesWord 27 = .ok (.aload_n 0, 1) := by decide +kernel
theorem dX11_takesWord_28 : decode cX11_takesWord 28 = .ok (.getfield 28, 3) := by decide +kernel
theorem dX11_takesWord_31 : decode cX11_takesWord 31 = .ok (.iload_n 1, 1) := by decide +kernel
theorem dX11_takesWord_32 : decode cX11_takesWord 32 = .ok (.iload_n 3, 1) := by decide +kernel
theorem dX11_takesWord_33 : decode cX11_takesWord 33 = .ok (.iadd, 1) := by decide +kernel
theorem dX11_takesWord_34 : decode cX11_takesWord 34 = .ok (.iaload, 1) := by decide +kernel
theorem dX11_takesWord_35 : decode cX11_takesWord 35 = .ok (.goto 4, 3) := by decide +kernel
theorem dX11_takesWord_38 : decode cX11_takesWord 38 = .ok (.iconst 0, 1) := by decide +kernel
theorem dX11_takesWord_39 : decode cX11_takesWord 39 = .ok (.iastore, 1) := by decide +kernel
theorem dX11_takesWord_40 : decode cX11_takesWord 40 = .ok (.iinc 3 1, 3) := by decide +kernel
theorem dX11_takesWord_43 : decode cX11_takesWord 43 = .ok (.goto (-34), 3) := by decide +kernel
theorem dX11_takesWord_46 : decode cX11_takesWord 46 = .ok (.return_, 1) := by decide +kernel
def st_X11_takesWord_9 (N : Nat) (l1 : Int32) (l2 : Int32) (l3 : Int32) (t : HV) : Option ((Int32 × HV) ⊕ (HV)) := (if 12 ≤ l3 then some (.inr t) else (if l2 ≤ l3 then (if vpb (1 + l3) 13 = true then (lt (aw t 9 (1 + l3) 0) fun t4 => some (.inl ((l3 + 1), t4))) else none) else (if vpb (l1 + l3) 800 = true then (if vpb (1 + l3) 13 = true then (lt (aw t 9 (1 + l3) (ag t 10 (l1 + l3))) fun t7 => some (.inl ((l3 + 1), t7))) else none) else none)))
def F_X11_takesWord (N : Nat) (a1 : Int32) (a2 : Int32) (t : HV) : Option (HV) := (if vpb 0 13 = true then (lt (aw t 9 0 a2) fun t2 => (lpN N (fun z => st_X11_takesWord_9 N a1 a2 z.1 z.2) (0, t2))) else none)
theorem lp_X11_takesWord_9 {w : WP} (hW : gWM w) {Ω : OM}   (l1 : Int32) (l2 : Int32) {N : Nat} {X : CX} (C : gC w X cX11_takesWord "HedgeMessagesModel" none 0 4) {t' : HV}  : ∀ (n : Nat) (l3 : Int32) (t : HV), lpN n (fun z : Int32 × HV => st_X11_takesWord_9 N l1 l2 z.1 z.2) (l3, t) = some t' → gV w X (none, cA w (sM Ω t')) (cA w (sM Ω t)) 9 [(0, .ref (wAd w (11, 12, 0, 0))), (1, .int l1), (2, .int l2), (3, .int l3)] [] := by
  intro n
  induction n with
  | zero => intro l3 t hL; exact lpN_0 hL
  | succ n ih =>
    intro l3 t hL
    obtain ⟨q9, hF, hL⟩ := lpN_e hL
    change st_X11_takesWord_9 N l1 l2 l3 t = some q9 at hF
    unfold st_X11_takesWord_9 at hF
    refine r_iload_n C (k := 3) rfl rfl dX11_takesWord_9 ?_
    refine r_bipush C (v := 12) rfl dX11_takesWord_10 ?_
    refine r_icmp_ge C (tgt := 46) rfl dX11_takesWord_12 (fun hc => ?_) (fun hc => ?_)
    · rw [if_pos hc] at hF
      cases hF
      change some _ = some _ at hL
      cases hL
      exact r_return C dX11_takesWord_46
    · rw [if_neg hc] at hF
      refine r_aload_n C (k := 0) rfl rfl dX11_takesWord_15 ?_
      refine og_11_9 C (hW.ok k11) wm7_76 dX11_takesWord_16 ?_
      refine r_iconst C (v := 1) rfl dX11_takesWord_19 ?_
      refine r_iload_n C (k := 3) rfl rfl dX11_takesWord_20 ?_
      refine r_iadd C dX11_takesWord_21 ?_
      refine r_iload_n C (k := 3) rfl rfl dX11_takesWord_22 ?_
      refine r_iload_n C (k := 2) rfl rfl dX11_takesWord_23 ?_
      refine r_icmp_ge C (tgt := 38) rfl dX11_takesWord_24 (fun hc => ?_) (fun hc => ?_)
      · rw [if_pos hc] at hF
        refine r_iconst C (v := 0) rfl dX11_takesWord_38 ?_
        obtain ⟨b3, hF⟩ := gd_e hF
        obtain ⟨t4, et4, hF⟩ := lt_e hF
        refine m_ast C hW.x (hW.fr (k12 (a := 9) (by unfold okMa; decide))) (show (sM Ω t).2.1 = t from rfl) rfl b3 dX11_takesWord_39 (congrArg (sM Ω) et4) ?_
        refine r_iinc C (k := 3) (v := (l3 + 1)) (lo' := [(3, .int (l3 + 1)), (0, .ref (wAd w (11, 12, 0, 0))), (1, .int l1), (2, .int l2)]) rfl rfl (by decide) rfl dX11_takesWord_40 ?_
        refine r_goto C (tgt := 9) rfl dX11_takesWord_43 ?_
        cases hF
        change lpN n _ _ = some _ at hL
        refine r_lo [1, 2, 3, 0] (lo' := [(0, .ref (wAd w (11, 12, 0, 0))), (1, .int l1), (2, .int l2), (3, .int (l3 + 1))]) rfl ?_
        exact ih (l3 + 1) t4 hL
      · rw [if_neg hc] at hF
        refine r_aload_n C (k := 0) rfl rfl dX11_takesWord_27 ?_
        refine og_11_10 C (hW.ok k11) wm7_77 dX11_takesWord_28 ?_
        refine r_iload_n C (k := 1) rfl rfl dX11_takesWord_31 ?_
        refine r_iload_n C (k := 3) rfl rfl dX11_takesWord_32 ?_
        refine r_iadd C dX11_takesWord_33 ?_
        obtain ⟨b5, hF⟩ := gd_e hF
        refine m_ald C (hW.ok (k12 (a := 10) (by unfold okMa; decide))) (show (sM Ω t).2.1 = t from rfl) rfl b5 dX11_takesWord_34 ?_
        refine r_goto C (tgt := 39) rfl dX11_takesWord_35 ?_
        obtain ⟨b6, hF⟩ := gd_e hF
        obtain ⟨t7, et7, hF⟩ := lt_e hF
        refine m_ast C hW.x (hW.fr (k12 (a := 9) (by unfold okMa; decide))) (show (sM Ω t).2.1 = t from rfl) rfl b6 dX11_takesWord_39 (congrArg (sM Ω) et7) ?_
        refine r_iinc C (k := 3) (v := (l3 + 1)) (lo' := [(3, .int (l3 + 1)), (0, .ref (wAd w (11, 12, 0, 0))), (1, .int l1), (2, .int l2)]) rfl rfl (by decide) rfl dX11_takesWord_40 ?_
        refine r_goto C (tgt := 9) rfl dX11_takesWord_43 ?_
        cases hF
        change lpN n _ _ = some _ at hL
        refine r_lo [1, 2, 3, 0] (lo' := [(0, .ref (wAd w (11, 12, 0, 0))), (1, .int l1), (2, .int l2), (3, .int (l3 + 1))]) rfl ?_
        exact ih (l3 + 1) t7 hL
theorem c_X11_takesWord {w : WP} (hW : gWM w) {Ω : OM}  {t : HV} (e : Ω.2.1 = t) (N : Nat) (a1 : Int32) (a2 : Int32) {t' : HV} (hF : F_X11_takesWord N a1 a2 t = some t') {Ω' : OM} (e2 : (sM Ω t') = Ω') : gM w 0 yX11_takesWord cX11_takesWord 4 none [.ref (wAd w (11, 12, 0, 0)), .int a1, .int a2] (cA w Ω) none (cA w Ω') := by
  refine gM_of "HedgeMessagesModel" rfl (by decide) (kR rfl) fun X C => ?_
  unfold F_X11_takesWord at hF
  subst e2
  show gV w X _ _ 0 [(0, .ref (wAd w (11, 12, 0, 0))), (1, .int a1), (2, .int a2)] []
  refine r_ct (ct' := cA w (sM Ω t)) (congrArg (cA w) (sM_i e).symm) ?_
  refine r_aload_n C (k := 0) rfl rfl dX11_takesWord_0 ?_
  refine og_11_9 C (hW.ok k11) wm7_76 dX11_takesWord_1 ?_
  refine r_iconst C (v := 0) rfl dX11_takesWord_4 ?_
  refine r_iload_n C (k := 2) rfl rfl dX11_takesWord_5 ?_
  obtain ⟨b1, hF⟩ := gd_e hF
  obtain ⟨t2, et2, hF⟩ := lt_e hF
  refine m_ast C hW.x (hW.fr (k12 (a := 9) (by unfold okMa; decide))) (show (sM Ω t).2.1 = t from rfl) rfl b1 dX11_takesWord_6 (congrArg (sM Ω) et2) ?_
  refine r_iconst C (v := 0) rfl dX11_takesWord_7 ?_
  refine r_istore_n C (lo' := [(3, .int 0), (0, .ref (wAd w (11, 12, 0, 0))), (1, .int a1), (2, .int a2)]) rfl (by decide) rfl dX11_takesWord_8 ?_
  refine r_lo [1, 2, 3, 0] (lo' := [(0, .ref (wAd w (11, 12, 0, 0))), (1, .int a1), (2, .int a2), (3, .int 0)]) rfl ?_
  exact lp_X11_takesWord_9 hW a1 a2 C N 0 t2 hF
theorem dX11_wordHere_0 : decode cX11_wordHere 0 = .ok (.aload_n 0, 1) := by decide +kernel
theorem dX11_wordHere_1 : decode cX11_wordHere 1 = .ok (.getfield 244, 3) := by decide +kernel
theorem dX11_wordHere_4 : decode cX11_wordHere 4 = .ok (.ifCond .eq 4, 3) := by decide +kernel
theorem dX11_wordHere_7 : decode cX11_wordHere 7 = .ok (.return_, 1) := by decide +kernel
theorem dX11_wordHere_8 : decode cX11_wordHere 8 = .ok (.aload_n 0, 1) := by decide +kernel
theorem dX11_wordHere_9 : decode cX11_wordHere 9 = .ok (.invokevirtual 250, 3) := by decide +kernel
theorem dX11_wordHere_12 : decode cX11_wordHere 12 = .ok (.istore_n 1, 1) := by decide +kernel
theorem dX11_wordHere_13 : decode cX11_wordHere 13 = .ok (.aload_n 0, 1) := by decide +kernel
theorem dX11_wordHere_14 : decode cX11_wordHere 14 = .ok (.aload_n 0, 1) := by decide +kernel
theorem dX11_wordHere_15 : decode cX11_wordHere 15 = .ok (.getfield 237, 3) := by decide +kernel
theorem dX11_wordHere_18 : decode cX11_wordHere 18 = .ok (.i2l, 1) := by decide +kernel
theorem dX11_wordHere_19 : decode cX11_wordHere 19 = .ok (.lconst 1, 1) := by decide +kernel
theorem dX11_wordHere_20 : decode cX11_wordHere 20 = .ok (.ldc2_w 264, 3) := by decide +kernel
theorem dX11_wordHere_23 : decode cX11_wordHere 23 = .ok (.invokestatic 65, 3) := by decide +kernel
theorem dX11_wordHere_26 : decode cX11_wordHere 26 = .ok (.iconst 1, 1) := by decide +kernel
theorem dX11_wordHere_27 : decode cX11_wordHere 27 = .ok (.invokevirtual 253, 3) := by decide +kernel
theorem dX11_wordHere_30 : decode cX11_wordHere 30 = .ok (.aload_n 0, 1) := by decide +kernel
theorem dX11_wordHere_31 : decode cX11_wordHere 31 = .ok (.getfield 244, 3) := by decide +kernel
theorem dX11_wordHere_34 : decode cX11_wordHere 34 = .ok (.ifCond .ne 15, 3) := by decide +kernel
theorem dX11_wordHere_37 : decode cX11_wordHere 37 = .ok (.aload_n 0, 1) := by decide +kernel
theorem dX11_wordHere_38 : decode cX11_wordHere 38 = .ok (.aload_n 0, 1) := by decide +kernel
theorem dX11_wordHere_39 : decode cX11_wordHere 39 = .ok (.getfield 234, 3) := by decide +kernel
theorem dX11_wordHere_42 : decode cX11_wordHere 42 = .ok (.aload_n 0, 1) := by decide +kernel
theorem dX11_wordHere_43 : decode cX11_wordHere 43 = .ok (.getfield 237, 3) := by decide +kernel
theorem dX11_wordHere_46 : decode cX11_wordHere 46 = .ok (.invokevirtual 266, 3) := by decide +kernel
theorem dX11_wordHere_49 : decode cX11_wordHere 49 = .ok (.return_, 1) := by decide +kernel
def F_X11_wordHere (N : Nat) (t : HV) : Option (HV) := (if (t.1 15) = 0 then (ob (F_X11_next N t) fun v1 t2 => (lt (F_X11_must (F_X11_in (((t2.1 14) : Int32).toInt64) (1 : Int64) (12 : Int64)) 1 t2) fun t4 => (if (t4.1 15) = 0 then (ob1 (F_X11_takesWord N (t4.1 13) (t4.1 14) t4) fun t6 => some t6) else some t4))) else some t)
theorem c_X11_wordHere {w : WP} (hW : gWM w) {Ω : OM}  {t : HV} (e : Ω.2.1 = t) (N : Nat)  {t' : HV} (hF : F_X11_wordHere N t = some t') {Ω' : OM} (e2 : (sM Ω t') = Ω') : gM w 2 yX11_wordHere cX11_wordHere 2 none [.ref (wAd w (11, 12, 0, 0))] (cA w Ω) none (cA w Ω') := by
  refine gM_of "HedgeMessagesModel" rfl (by decide) (kR rfl) fun X C => ?_
  unfold F_X11_wordHere at hF
  subst e2
  show gV w X _ _ 0 [(0, .ref (wAd w (11, 12, 0, 0)))] []
  refine r_ct (ct' := cA w (sM Ω t)) (congrArg (cA w) (sM_i e).symm) ?_
  refine r_aload_n C (k := 0) rfl rfl dX11_wordHere_0 ?_
  refine og_11_15 C (hW.ok k11) (show (sM Ω t).2.1 = t from rfl) wm7_82 dX11_wordHere_1 ?_
  refine r_if_eq C (tgt := 8) rfl dX11_wordHere_4 (fun hc => ?_) (fun hc => ?_)
  · rw [if_pos hc] at hF
    refine r_aload_n C (k := 0) rfl rfl dX11_wordHere_8 ?_
    obtain ⟨v1, t2, ht2, hF⟩ := ob_e hF
    refine r_callV C (d' := 1) [] (c_X11_next hW (show (sM Ω t).2.1 = t from rfl) N ht2 rfl) myX11_next wm6_198 ⟨_, _, _, _, (hW.ok k11), rfl, rfl, rfl, rfl⟩ rfl (kR rfl) (by decide) (kR rfl) rfl dX11_wordHere_9 ?_
    refine r_istore_n C (lo' := [(1, .int v1), (0, .ref (wAd w (11, 12, 0, 0)))]) rfl (by decide) rfl dX11_wordHere_12 ?_
    refine r_aload_n C (k := 1) rfl rfl dX11_wordHere_13 ?_
    refine r_aload_n C (k := 1) rfl rfl dX11_wordHere_14 ?_
    refine og_11_14 C (hW.ok k11) (show (sM Ω t2).2.1 = t2 from rfl) wm7_81 dX11_wordHere_15 ?_
    refine r_i2l C (v := (((t2.1 14) : Int32).toInt64)) rfl dX11_wordHere_18 ?_
    refine r_lconst C (v := 1) rfl dX11_wordHere_19 ?_
    refine r_ldc2 C wm7_47 dX11_wordHere_20 ?_
    refine r_callS C (d' := 0) [.long (((t2.1 14) : Int32).toInt64), .long (1 : Int64), .long (12 : Int64)] (c_X11_in (((t2.1 14) : Int32).toInt64) (1 : Int64) (12 : Int64) rfl) myX11_in wm6_208 rfl (kR rfl) (by decide) (kR rfl) rfl dX11_wordHere_23 ?_
    refine r_iconst C (v := 1) rfl dX11_wordHere_26 ?_
    obtain ⟨t4, ht4, hF⟩ := lt_e hF
    refine r_callV C (d' := 0) [.int (b2i (F_X11_in (((t2.1 14) : Int32).toInt64) (1 : Int64) (12 : Int64))), .int 1] (c_X11_must hW (show (sM Ω t2).2.1 = t2 from rfl) (F_X11_in (((t2.1 14) : Int32).toInt64) (1 : Int64) (12 : Int64)) 1 ht4 rfl) myX11_must wm6_211 ⟨_, _, _, _, (hW.ok k11), rfl, rfl, rfl, rfl⟩ rfl (kR rfl) (by decide) (kR rfl) rfl dX11_wordHere_27 ?_
    refine r_aload_n C (k := 1) rfl rfl dX11_wordHere_30 ?_
    refine og_11_15 C (hW.ok k11) (show (sM Ω t4).2.1 = t4 from rfl) wm7_82 dX11_wordHere_31 ?_
    refine r_if_ne C (tgt := 49) rfl dX11_wordHere_34 (fun hc => ?_) (fun hc => ?_)
    · rw [if_neg hc] at hF
      cases hF
      exact r_return C dX11_wordHere_49
    · rw [if_pos hc] at hF
      refine r_aload_n C (k := 1) rfl rfl dX11_wordHere_37 ?_
      refine r_aload_n C (k := 1) rfl rfl dX11_wordHere_38 ?_
      refine og_11_13 C (hW.ok k11) (show (sM Ω t4).2.1 = t4 from rfl) wm7_80 dX11_wordHere_39 ?_
      refine r_aload_n C (k := 1) rfl rfl dX11_wordHere_42 ?_
      refine og_11_14 C (hW.ok k11) (show (sM Ω t4).2.1 = t4 from rfl) wm7_81 dX11_wordHere_43 ?_
      obtain ⟨t6, ht6, hF⟩ := ob1_e hF
      refine r_callV C (d' := 0) [.int (t4.1 13), .int (t4.1 14)] (c_X11_takesWord hW (show (sM Ω t4).2.1 = t4 from rfl) N (t4.1 13) (t4.1 14) ht6 rfl) myX11_takesWord wm7_48 ⟨_, _, _, _, (hW.ok k11), rfl, rfl, rfl, rfl⟩ rfl (kR rfl) (by decide) (kR rfl) rfl dX11_wordHere_46 ?_
      cases hF
      exact r_return C dX11_wordHere_49
  · rw [if_neg hc] at hF
    cases hF
    exact r_return C dX11_wordHere_7
theorem dX11_startsText_0 : decode cX11_startsText 0 = .ok (.aload_n 0, 1) := by decide +kernel
theorem dX11_startsText_1 : decode cX11_startsText 1 = .ok (.iconst 0, 1) := by decide +kernel
theorem dX11_startsText_2 : decode cX11_startsText 2 = .ok (.putfield 228, 3) := by decide +kernel
theorem dX11_startsText_5 : decode cX11_startsText 5 = .ok (.aload_n 0, 1) := by decide +kernel
theorem dX11_startsText_6 : decode cX11_startsText 6 = .ok (.iconst 0, 1) := by decide +kernel
theorem dX11_startsText_7 : decode cX11_startsText 7 = .ok (.putfield 234, 3) := by decide +kernel
theorem dX11_startsText_10 : decode cX11_startsText 10 = .ok (.aload_n 0, 1) := by decide +kernel
theorem dX11_startsText_11 : decode cX11_startsText 11 = .ok (.iconst 0, 1) := by decide +kernel
theorem dX11_startsText_12 : decode cX11_startsText 12 = .ok (.putfield 244, 3) := by decide +kernel
theorem dX11_startsText_15 : decode cX11_startsText 15 = .ok (.aload_n 0, 1) := by decide +kernel
theorem dX11_startsText_16 : decode cX11_startsText 16 = .ok (.iconst (-1), 1) := by decide +kernel
theorem dX11_startsText_17 : decode cX11_startsText 17 = .ok (.putfield 247, 3) := by decide +kernel
theorem dX11_startsText_20 : decode cX11_startsText 20 = .ok (.return_, 1) := by decide +kernel
def F_X11_startsText (t : HV) : HV := (lt (sS t 12 0) fun t1 => (lt (sS t1 13 0) fun t2 => (lt (sS t2 15 0) fun t3 => (lt (sS t3 16 (-1)) fun t4 => t4))))
theorem c_X11_startsText {w : WP} (hW : gWM w) {Ω : OM}  {t : HV} (e : Ω.2.1 = t)  {t' : HV} (hF : F_X11_startsText t = t') {Ω' : OM} (e2 : (sM Ω t') = Ω') : gM w 0 yX11_startsText cX11_startsText 1 none [.ref (wAd w (11, 12, 0, 0))] (cA w Ω) none (cA w Ω') := by
  refine gM_of "HedgeMessagesModel" rfl (by decide) (kR rfl) fun X C => ?_
  unfold F_X11_startsText at hF
  subst e2
  show gV w X _ _ 0 [(0, .ref (wAd w (11, 12, 0, 0)))] []
  refine r_ct (ct' := cA w (sM Ω t)) (congrArg (cA w) (sM_i e).symm) ?_
  refine r_aload_n C (k := 0) rfl rfl dX11_startsText_0 ?_
  refine r_iconst C (v := 0) rfl dX11_startsText_1 ?_
  obtain ⟨t1, et1, hF⟩ := lt_e hF
  refine op_11_12 C hW.x (hW.fr k11) (show (sM Ω t).2.1 = t from rfl) wm7_79 dX11_startsText_2 (congrArg (sM Ω) et1) ?_
  refine r_aload_n C (k := 0) rfl rfl dX11_startsText_5 ?_
  refine r_iconst C (v := 0) rfl dX11_startsText_6 ?_
  obtain ⟨t2, et2, hF⟩ := lt_e hF
  refine op_11_13 C hW.x (hW.fr k11) (show (sM Ω t1).2.1 = t1 from rfl) wm7_80 dX11_startsText_7 (congrArg (sM Ω) et2) ?_
  refine r_aload_n C (k := 0) rfl rfl dX11_startsText_10 ?_
  refine r_iconst C (v := 0) rfl dX11_startsText_11 ?_
  obtain ⟨t3, et3, hF⟩ := lt_e hF
  refine op_11_15 C hW.x (hW.fr k11) (show (sM Ω t2).2.1 = t2 from rfl) wm7_82 dX11_startsText_12 (congrArg (sM Ω) et3) ?_
  refine r_aload_n C (k := 0) rfl rfl dX11_startsText_15 ?_
  refine r_iconst C (v := (-1)) (by decide) dX11_startsText_16 ?_
  obtain ⟨t4, et4, hF⟩ := lt_e hF
  refine op_11_16 C hW.x (hW.fr k11) (show (sM Ω t3).2.1 = t3 from rfl) wm7_83 dX11_startsText_17 (congrArg (sM Ω) et4) ?_
  cases hF
  exact r_return C dX11_startsText_20
theorem dX11_endsText_0 : decode cX11_endsText 0 = .ok (.aload_n 0, 1) := by decide +kernel
theorem dX11_endsText_1 : decode cX11_endsText 1 = .ok (.iconst 0, 1) := by decide +kernel
theorem dX11_endsText_2 : decode cX11_endsText 2 = .ok (.putfield 53, 3) := by decide +kernel
theorem dX11_endsText_5 : decode cX11_endsText 5 = .ok (.aload_n 0, 1) := by decide +kernel
theorem dX11_endsText_6 : decode cX11_endsText 6 = .ok (.aload_n 0, 1) := by decide +kernel
theorem dX11_endsText_7 : decode cX11_endsText 7 = .ok (.getfield 244, 3) := by decide +kernel
theorem dX11_endsText_10 : decode cX11_endsText 10 = .ok (.putfield 269, 3) := by decide +kernel
theorem dX11_endsText_13 : decode cX11_endsText 13 = .ok (.aload_n 0, 1) := by decide +kernel
theorem dX11_endsText_14 : decode cX11_endsText 14 = .ok (.aload_n 0, 1) := by decide +kernel
theorem dX11_endsText_15 : decode cX11_endsText 15 = .ok (.getfield 247, 3) := by decide +kernel
theorem dX11_endsText_18 : decode cX11_endsText 18 = .ok (.putfield 31, 3) := by decide +kernel
theorem dX11_endsText_21 : decode cX11_endsText 21 = .ok (.aload_n 0, 1) := by decide +kernel
theorem dX11_endsText_22 : decode cX11_endsText 22 = .ok (.getfield 244, 3) := by decide +kernel
theorem dX11_endsText_25 : decode cX11_endsText 25 = .ok (.ifCond .ne 7, 3) := by decide +kernel
theorem dX11_endsText_28 : decode cX11_endsText 28 = .ok (.iconst 1, 1) := by decide +kernel
theorem dX11_endsText_29 : decode cX11_endsText 29 = .ok (.goto 4, 3) := by decide +kernel
theorem dX11_endsText_32 : decode cX11_endsText 32 = .ok (.iconst 0, 1) := by decide +kernel
theorem dX11_endsText_33 : decode cX11_endsText 33 = .ok (.ireturn, 1) := by decide +kernel
def F_X11_endsText (t : HV) : Bool × (HV) := (lt (sS t 11 0) fun t1 => (lt (sS t1 17 (t1.1 15)) fun t2 => (lt (sS t2 18 (t2.1 16)) fun t3 => (if (t3.1 15) = 0 then (true, t3) else (false, t3)))))
theorem c_X11_endsText {w : WP} (hW : gWM w) {Ω : OM}  {t : HV} (e : Ω.2.1 = t)  {v : Bool} {t' : HV} (hF : F_X11_endsText t = (v, t')) {Ω' : OM} (e2 : (sM Ω t') = Ω') : gM w 0 yX11_endsText cX11_endsText 1 (some .boolean) [.ref (wAd w (11, 12, 0, 0))] (cA w Ω) (some (.int (b2i v))) (cA w Ω') := by
  refine gM_of "HedgeMessagesModel" rfl (by decide) (kR rfl) fun X C => ?_
  unfold F_X11_endsText at hF
  subst e2
  show gV w X _ _ 0 [(0, .ref (wAd w (11, 12, 0, 0)))] []
  refine r_ct (ct' := cA w (sM Ω t)) (congrArg (cA w) (sM_i e).symm) ?_
  refine r_aload_n C (k := 0) rfl rfl dX11_endsText_0 ?_
  refine r_iconst C (v := 0) rfl dX11_endsText_1 ?_
  obtain ⟨t1, et1, hF⟩ := lt_e hF
  refine op_11_11 C hW.x (hW.fr k11) (show (sM Ω t).2.1 = t from rfl) wm7_78 dX11_endsText_2 (congrArg (sM Ω) et1) ?_
  refine r_aload_n C (k := 0) rfl rfl dX11_endsText_5 ?_
  refine r_aload_n C (k := 0) rfl rfl dX11_endsText_6 ?_
  refine og_11_15 C (hW.ok k11) (show (sM Ω t1).2.1 = t1 from rfl) wm7_82 dX11_endsText_7 ?_
  obtain ⟨t2, et2, hF⟩ := lt_e hF
  refine op_11_17 C hW.x (hW.fr k11) (show (sM Ω t1).2.1 = t1 from rfl) wm7_84 dX11_endsText_10 (congrArg (sM Ω) et2) ?_
  refine r_aload_n C (k := 0) rfl rfl dX11_endsText_13 ?_
  refine r_aload_n C (k := 0) rfl rfl dX11_endsText_14 ?_
  refine og_11_16 C (hW.ok k11) (show (sM Ω t2).2.1 = t2 from rfl) wm7_83 dX11_endsText_15 ?_
  obtain ⟨t3, et3, hF⟩ := lt_e hF
  refine op_11_18 C hW.x (hW.fr k11) (show (sM Ω t2).2.1 = t2 from rfl) wm7_85 dX11_endsText_18 (congrArg (sM Ω) et3) ?_
  refine r_aload_n C (k := 0) rfl rfl dX11_endsText_21 ?_
  refine og_11_15 C (hW.ok k11) (show (sM Ω t3).2.1 = t3 from rfl) wm7_82 dX11_endsText_22 ?_
  refine r_if_ne C (tgt := 32) rfl dX11_endsText_25 (fun hc => ?_) (fun hc => ?_)
  · rw [if_neg hc] at hF
    refine r_iconst C (v := 0) rfl dX11_endsText_32 ?_
    cases hF
    exact r_zreturn C false rfl dX11_endsText_33
  · rw [if_pos hc] at hF
    refine r_iconst C (v := 1) rfl dX11_endsText_28 ?_
    refine r_goto C (tgt := 33) rfl dX11_endsText_29 ?_
    cases hF
    exact r_zreturn C true rfl dX11_endsText_33
theorem dX11_errorCode_0 : decode cX11_errorCode 0 = .ok (.aload_n 0, 1) := by decide +kernel
theorem dX11_errorCode_1 : decode cX11_errorCode 1 = .ok (.iconst 0, 1) := by decide +kernel
theorem dX11_errorCode_2 : decode cX11_errorCode 2 = .ok (.putfield 58, 3) := by decide +kernel
theorem dX11_errorCode_5 : decode cX11_errorCode 5 = .ok (.aload_n 0, 1) := by decide +kernel
theorem dX11_errorCode_6 : decode cX11_errorCode 6 = .ok (.getfield 269, 3) := by decide +kernel
theorem dX11_errorCode_9 : decode cX11_errorCode 9 = .ok (.ireturn, 1) := by decide +kernel
def F_X11_errorCode (t : HV) : Int32 × (HV) := (lt (sS t 6 0) fun t1 => ((t1.1 17), t1))
theorem c_X11_errorCode {w : WP} (hW : gWM w) {Ω : OM}  {t : HV} (e : Ω.2.1 = t)  {v : Int32} {t' : HV} (hF : F_X11_errorCode t = (v, t')) {Ω' : OM} (e2 : (sM Ω t') = Ω') : gM w 0 yX11_errorCode cX11_errorCode 1 (some .int) [.ref (wAd w (11, 12, 0, 0))] (cA w Ω) (some (.int v)) (cA w Ω') := by
  refine gM_of "HedgeMessagesModel" rfl (by decide) (kR rfl) fun X C => ?_
  unfold F_X11_errorCode at hF
  subst e2
  show gV w X _ _ 0 [(0, .ref (wAd w (11, 12, 0, 0)))] []
  refine r_ct (ct' := cA w (sM Ω t)) (congrArg (cA w) (sM_i e).symm) ?_
  refine r_aload_n C (k := 0) rfl rfl dX11_errorCode_0 ?_
  refine r_iconst C (v := 0) rfl dX11_errorCode_1 ?_
  obtain ⟨t1, et1, hF⟩ := lt_e hF
  refine op_11_6 C hW.x (hW.fr k11) (show (sM Ω t).2.1 = t from rfl) wm7_73 dX11_errorCode_2 (congrArg (sM Ω) et1) ?_
  refine r_aload_n C (k := 0) rfl rfl dX11_errorCode_5 ?_
  refine og_11_17 C (hW.ok k11) (show (sM Ω t1).2.1 = t1 from rfl) wm7_84 dX11_errorCode_6 ?_
  cases hF
  exact r_ireturn C dX11_errorCode_9
theorem dX11_errorPosition_0 : decode cX11_errorPosition 0 = .ok (.aload_n 0, 1) := by decide +kernel
theorem dX11_errorPosition_1 : decode cX11_errorPosition 1 = .ok (.iconst 0, 1) := by decide +kernel
theorem dX11_errorPosition_2 : decode cX11_errorPosition 2 = .ok (.putfield 58, 3) := by decide +kernel
theorem dX11_errorPosition_5 : decode cX11_errorPosition 5 = .ok (.aload_n 0, 1) := by decide +kernel
theorem dX11_errorPosition_6 : decode cX11_errorPosition 6 = .ok (.getfield 31, 3) := by decide +kernel
theorem dX11_errorPosition_9 : decode cX11_errorPosition 9 = .ok (.ireturn, 1) := by decide +kernel
def F_X11_errorPosition (t : HV) : Int32 × (HV) := (lt (sS t 6 0) fun t1 => ((t1.1 18), t1))
theorem c_X11_errorPosition {w : WP} (hW : gWM w) {Ω : OM}  {t : HV} (e : Ω.2.1 = t)  {v : Int32} {t' : HV} (hF : F_X11_errorPosition t = (v, t')) {Ω' : OM} (e2 : (sM Ω t') = Ω') : gM w 0 yX11_errorPosition cX11_errorPosition 1 (some .int) [.ref (wAd w (11, 12, 0, 0))] (cA w Ω) (some (.int v)) (cA w Ω') := by
  refine gM_of "HedgeMessagesModel" rfl (by decide) (kR rfl) fun X C => ?_
  unfold F_X11_errorPosition at hF
  subst e2
  show gV w X _ _ 0 [(0, .ref (wAd w (11, 12, 0, 0)))] []
  refine r_ct (ct' := cA w (sM Ω t)) (congrArg (cA w) (sM_i e).symm) ?_
  refine r_aload_n C (k := 0) rfl rfl dX11_errorPosition_0 ?_
  refine r_iconst C (v := 0) rfl dX11_errorPosition_1 ?_
  obtain ⟨t1, et1, hF⟩ := lt_e hF
  refine op_11_6 C hW.x (hW.fr k11) (show (sM Ω t).2.1 = t from rfl) wm7_73 dX11_errorPosition_2 (congrArg (sM Ω) et1) ?_
  refine r_aload_n C (k := 0) rfl rfl dX11_errorPosition_5 ?_
  refine og_11_18 C (hW.ok k11) (show (sM Ω t1).2.1 = t1 from rfl) wm7_85 dX11_errorPosition_6 ?_
  cases hF
  exact r_ireturn C dX11_errorPosition_9
theorem dX11_twigLine_0 : decode cX11_twigLine 0 = .ok (.aload_n 0, 1) := by decide +kernel
theorem dX11_twigLine_1 : decode cX11_twigLine 1 = .ok (.invokevirtual 261, 3) := by decide +kernel
theorem dX11_twigLine_4 : decode cX11_twigLine 4 = .ok (.aload_n 0, 1) := by decide +kernel
theorem dX11_twigLine_5 : decode cX11_twigLine 5 = .ok (.iconst 0, 1) := by decide +kernel
theorem dX11_twigLine_6 : decode cX11_twigLine 6 = .ok (.aload_n 0, 1) := by decide +kernel
theorem dX11_twigLine_7 : decode cX11_twigLine 7 = .ok (.getfield 7, 3) := by decide +kernel
theorem dX11_twigLine_10 : decode cX11_twigLine 10 = .ok (.iconst 0, 1) := by decide +kernel
theorem dX11_twigLine_11 : decode cX11_twigLine 11 = .ok (.iaload, 1) := by decide +kernel
theorem dX11_twigLine_12 : decode cX11_twigLine 12 = .ok (.iconst 1, 1) := by decide +kernel
theorem dX11_twigLine_13 : decode cX11_twigLine 13 = .ok (.isub, 1) := by decide +kernel
theorem dX11_twigLine_14 : decode cX11_twigLine 14 = .ok (.invokevirtual 278, 3) := by decide +kernel
theorem dX11_twigLine_17 : decode cX11_twigLine 17 = .ok (.istore_n 1, 1) := by decide +kernel
theorem dX11_twigLine_18 : decode cX11_twigLine 18 = .ok (.aload_n 0, 1) := by decide +kernel
theorem dX11_twigLine_19 : decode cX11_twigLine 19 = .ok (.aload_n 0, 1) := by decide +kernel
theorem dX11_twigLine_20 : decode cX11_twigLine 20 = .ok (.getfield 244, 3) := by decide +kernel
theorem dX11_twigLine_23 : decode cX11_twigLine 23 = .ok (.ifCond .ne 11, 3) := by decide +kernel
theorem dX11_twigLine_26 : decode cX11_twigLine 26 = .ok (.aload_n 0, 1) := by decide +kernel
theorem dX11_twigLine_27 : decode cX11_twigLine 27 = .ok (.iload_n 1, 1) := by decide +kernel
theorem dX11_twigLine_28 : decode cX11_twigLine 28 = .ok (.invokevirtual 84, 3) := by decide +kernel
theorem dX11_twigLine_31 : decode cX11_twigLine 31 = .ok (.ifCond .ne 7, 3) := by decide +kernel
theorem dX11_twigLine_34 : decode cX11_twigLine 34 = .ok (.iconst 1, 1) := by decide +kernel
theorem dX11_twigLine_35 : decode cX11_twigLine 35 = .ok (.goto 4, 3) := by decide +kernel
theorem dX11_twigLine_38 : decode cX11_twigLine 38 = .ok (.iconst 0, 1) := by decide +kernel
theorem dX11_twigLine_39 : decode cX11_twigLine 39 = .ok (.iconst 3, 1) := by decide +kernel
theorem dX11_twigLine_40 : decode cX11_twigLine 40 = .ok (.invokevirtual 253, 3) := by decide +kernel
theorem dX11_twigLine_43 : decode cX11_twigLine 43 = .ok (.aload_n 0, 1) := by decide +kernel
theorem dX11_twigLine_44 : decode cX11_twigLine 44 = .ok (.invokevirtual 284, 3) := by decide +kernel
theorem dX11_twigLine_47 : decode cX11_twigLine 47 = .ok (.istore_n 2, 1) := by decide +kernel
theorem dX11_twigLine_48 : decode cX11_twigLine 48 = .ok (.aload_n 0, 1) := by decide +kernel
theorem dX11_twigLine_49 : decode cX11_twigLine 49 = .ok (.iconst 0, 1) := by decide +kernel
theorem dX11_twigLine_50 : decode cX11_twigLine 50 = .ok (.iconst 1, 1) := by decide +kernel
theorem dX11_twigLine_51 : decode cX11_twigLine 51 = .ok (.invokevirtual 278, 3) := by decide +kernel
theorem dX11_twigLine_54 : decode cX11_twigLine 54 = .ok (.istore_n 3, 1) := by decide +kernel
theorem dX11_twigLine_55 : decode cX11_twigLine 55 = .ok (.aload_n 0, 1) := by decide +kernel
theorem dX11_twigLine_56 : decode cX11_twigLine 56 = .ok (.iconst 1, 1) := by decide +kernel
theorem dX11_twigLine_57 : decode cX11_twigLine 57 = .ok (.bipush 99, 2) := by decide +kernel
theorem dX11_twigLine_59 : decode cX11_twigLine 59 = .ok (.invokevirtual 278, 3) := by decide +kernel
theorem dX11_twigLine_62 : decode cX11_twigLine 62 = .ok (.istore 4, 2) := by decide +kernel
theorem dX11_twigLine_64 : decode cX11_twigLine 64 = .ok (.aload_n 0, 1) := by decide +kernel
theorem dX11_twigLine_65 : decode cX11_twigLine 65 = .ok (.getfield 244, 3) := by decide +kernel
theorem dX11_twigLine_68 : decode cX11_twigLine 68 = .ok (.ifCond .ne 13, 3) := by decide +kernel
theorem dX11_twigLine_71 : decode cX11_twigLine 71 = .ok (.aload_n 0, 1) := by decide +kernel
theorem dX11_twigLine_72 : decode cX11_twigLine 72 = .ok (.iload_n 1, 1) := by decide +kernel
theorem dX11_twigLine_73 : decode cX11_twigLine 73 = .ok (.iload_n 2, 1) := by decide +kernel
theorem dX11_twigLine_74 : decode cX11_twigLine 74 = .ok (.iload_n 3, 1) := by decide +kernel
theorem dX11_twigLine_75 : decode cX11_twigLine 75 = .ok (.iload 4, 2) := by decide +kernel
theorem dX11_twigLine_77 : decode cX11_twigLine 77 = .ok (.iconst 0, 1) := by decide +kernel
theorem dX11_twigLine_78 : decode cX11_twigLine 78 = .ok (.invokevirtual 143, 3) := by decide +kernel
theorem dX11_twigLine_81 : decode cX11_twigLine 81 = .ok (.return_, 1) := by decide +kernel
def F_X11_twigLine (N : Nat) (t : HV) : Option (HV) := (lt (F_X11_goesPast t) fun t2 => (if vpb 0 760 = true then (ob (F_X11_number N 0 ((ag t2 0 0) - 1) t2) fun v4 t5 => (if (t5.1 15) = 0 then (ob1 (F_X11_hasTwig v4 t5) fun v16 => (if v16 = true then (lt (F_X11_must false 3 t5) fun t18 => (ob (F_X11_letterHere N t18) fun v19 t20 => (ob (F_X11_number N 0 1 t20) fun v21 t22 => (ob (F_X11_number N 1 99 t22) fun v23 t24 => (if (t24.1 15) = 0 then (ob1 (F_X11_twigComes v4 v19 v21 v23 0 t24) fun t26 => some t26) else some t24))))) else (lt (F_X11_must true 3 t5) fun t28 => (ob (F_X11_letterHere N t28) fun v29 t30 => (ob (F_X11_number N 0 1 t30) fun v31 t32 => (ob (F_X11_number N 1 99 t32) fun v33 t34 => (if (t34.1 15) = 0 then (ob1 (F_X11_twigComes v4 v29 v31 v33 0 t34) fun t36 => some t36) else some t34))))))) else (lt (F_X11_must true 3 t5) fun t7 => (ob (F_X11_letterHere N t7) fun v8 t9 => (ob (F_X11_number N 0 1 t9) fun v10 t11 => (ob (F_X11_number N 1 99 t11) fun v12 t13 => (if (t13.1 15) = 0 then (ob1 (F_X11_twigComes v4 v8 v10 v12 0 t13) fun t15 => some t15) else some t13))))))) else none))
theorem c_X11_twigLine {w : WP} (hW : gWM w) {Ω : OM}  {t : HV} (e : Ω.2.1 = t) (N : Nat)  {t' : HV} (hF : F_X11_twigLine N t = some t') {Ω' : OM} (e2 : (sM Ω t') = Ω') : gM w 3 yX11_twigLine cX11_twigLine 5 none [.ref (wAd w (11, 12, 0, 0))] (cA w Ω) none (cA w Ω') := by
  refine gM_of "HedgeMessagesModel" rfl (by decide) (kR rfl) fun X C => ?_
  unfold F_X11_twigLine at hF
  subst e2
  show gV w X _ _ 0 [(0, .ref (wAd w (11, 12, 0, 0)))] []
  refine r_ct (ct' := cA w (sM Ω t)) (congrArg (cA w) (sM_i e).symm) ?_
  refine r_aload_n C (k := 0) rfl rfl dX11_twigLine_0 ?_
  obtain ⟨t2, ht2, hF⟩ := lt_e hF
  refine r_callV C (d' := 0) [] (c_X11_goesPast hW (show (sM Ω t).2.1 = t from rfl) ht2 rfl) myX11_goesPast wm6_215 ⟨_, _, _, _, (hW.ok k11), rfl, rfl, rfl, rfl⟩ rfl (kR rfl) (by decide) (kR rfl) rfl dX11_twigLine_1 ?_
  refine r_aload_n C (k := 0) rfl rfl dX11_twigLine_4 ?_
  refine r_iconst C (v := 0) rfl dX11_twigLine_5 ?_
  refine r_aload_n C (k := 0) rfl rfl dX11_twigLine_6 ?_
  refine og_11_0 C (hW.ok k11) wm7_67 dX11_twigLine_7 ?_
  refine r_iconst C (v := 0) rfl dX11_twigLine_10 ?_
  obtain ⟨b3, hF⟩ := gd_e hF
  refine m_ald C (hW.ok (k12 (a := 0) (by unfold okMa; decide))) (show (sM Ω t2).2.1 = t2 from rfl) rfl b3 dX11_twigLine_11 ?_
  refine r_iconst C (v := 1) rfl dX11_twigLine_12 ?_
  refine r_isub C dX11_twigLine_13 ?_
  obtain ⟨v4, t5, ht5, hF⟩ := ob_e hF
  refine r_callV C (d' := 2) [.int 0, .int ((ag t2 0 0) - 1)] (c_X11_number hW (show (sM Ω t2).2.1 = t2 from rfl) N 0 ((ag t2 0 0) - 1) ht5 rfl) myX11_number wm6_219 ⟨_, _, _, _, (hW.ok k11), rfl, rfl, rfl, rfl⟩ rfl (kR rfl) (by decide) (kR rfl) rfl dX11_twigLine_14 ?_
  refine r_istore_n C (lo' := [(1, .int v4), (0, .ref (wAd w (11, 12, 0, 0)))]) rfl (by decide) rfl dX11_twigLine_17 ?_
  refine r_aload_n C (k := 1) rfl rfl dX11_twigLine_18 ?_
  refine r_aload_n C (k := 1) rfl rfl dX11_twigLine_19 ?_
  refine og_11_15 C (hW.ok k11) (show (sM Ω t5).2.1 = t5 from rfl) wm7_82 dX11_twigLine_20 ?_
  refine r_if_ne C (tgt := 34) rfl dX11_twigLine_23 (fun hc => ?_) (fun hc => ?_)
  · rw [if_neg hc] at hF
    refine r_iconst C (v := 1) rfl dX11_twigLine_34 ?_
    refine r_goto C (tgt := 39) rfl dX11_twigLine_35 ?_
    refine r_iconst C (v := 3) rfl dX11_twigLine_39 ?_
    obtain ⟨t7, ht7, hF⟩ := lt_e hF
    refine r_callV C (d' := 0) [.int (b2i true), .int 3] (c_X11_must hW (show (sM Ω t5).2.1 = t5 from rfl) true 3 ht7 rfl) myX11_must wm6_211 ⟨_, _, _, _, (hW.ok k11), rfl, rfl, rfl, rfl⟩ rfl (kR rfl) (by decide) (kR rfl) rfl dX11_twigLine_40 ?_
    refine r_aload_n C (k := 1) rfl rfl dX11_twigLine_43 ?_
    obtain ⟨v8, t9, ht9, hF⟩ := ob_e hF
    refine r_callV C (d' := 2) [] (c_X11_letterHere hW (show (sM Ω t7).2.1 = t7 from rfl) N ht9 rfl) myX11_letterHere wm7_6 ⟨_, _, _, _, (hW.ok k11), rfl, rfl, rfl, rfl⟩ rfl (kR rfl) (by decide) (kR rfl) rfl dX11_twigLine_44 ?_
    refine r_istore_n C (lo' := [(2, .int v8), (1, .int v4), (0, .ref (wAd w (11, 12, 0, 0)))]) rfl (by decide) rfl dX11_twigLine_47 ?_
    refine r_aload_n C (k := 2) rfl rfl dX11_twigLine_48 ?_
    refine r_iconst C (v := 0) rfl dX11_twigLine_49 ?_
    refine r_iconst C (v := 1) rfl dX11_twigLine_50 ?_
    obtain ⟨v10, t11, ht11, hF⟩ := ob_e hF
    refine r_callV C (d' := 2) [.int 0, .int 1] (c_X11_number hW (show (sM Ω t9).2.1 = t9 from rfl) N 0 1 ht11 rfl) myX11_number wm6_219 ⟨_, _, _, _, (hW.ok k11), rfl, rfl, rfl, rfl⟩ rfl (kR rfl) (by decide) (kR rfl) rfl dX11_twigLine_51 ?_
    refine r_istore_n C (lo' := [(3, .int v10), (2, .int v8), (1, .int v4), (0, .ref (wAd w (11, 12, 0, 0)))]) rfl (by decide) rfl dX11_twigLine_54 ?_
    refine r_aload_n C (k := 3) rfl rfl dX11_twigLine_55 ?_
    refine r_iconst C (v := 1) rfl dX11_twigLine_56 ?_
    refine r_bipush C (v := 99) rfl dX11_twigLine_57 ?_
    obtain ⟨v12, t13, ht13, hF⟩ := ob_e hF
    refine r_callV C (d' := 2) [.int 1, .int 99] (c_X11_number hW (show (sM Ω t11).2.1 = t11 from rfl) N 1 99 ht13 rfl) myX11_number wm6_219 ⟨_, _, _, _, (hW.ok k11), rfl, rfl, rfl, rfl⟩ rfl (kR rfl) (by decide) (kR rfl) rfl dX11_twigLine_59 ?_
    refine r_istore C (lo' := [(4, .int v12), (3, .int v10), (2, .int v8), (1, .int v4), (0, .ref (wAd w (11, 12, 0, 0)))]) (by decide) rfl dX11_twigLine_62 ?_
    refine r_aload_n C (k := 4) rfl rfl dX11_twigLine_64 ?_
    refine og_11_15 C (hW.ok k11) (show (sM Ω t13).2.1 = t13 from rfl) wm7_82 dX11_twigLine_65 ?_
    refine r_if_ne C (tgt := 81) rfl dX11_twigLine_68 (fun hc => ?_) (fun hc => ?_)
    · rw [if_neg hc] at hF
      cases hF
      exact r_return C dX11_twigLine_81
    · rw [if_pos hc] at hF
      refine r_aload_n C (k := 4) rfl rfl dX11_twigLine_71 ?_
      refine r_iload_n C (k := 3) rfl rfl dX11_twigLine_72 ?_
      refine r_iload_n C (k := 2) rfl rfl dX11_twigLine_73 ?_
      refine r_iload_n C (k := 1) rfl rfl dX11_twigLine_74 ?_
      refine r_iload C (k := 0) rfl dX11_twigLine_75 ?_
      refine r_iconst C (v := 0) rfl dX11_twigLine_77 ?_
      obtain ⟨t15, ht15, hF⟩ := ob1_e hF
      refine r_callV C (d' := 1) [.int v4, .int v8, .int v10, .int v12, .int 0] (c_X11_twigComes hW (show (sM Ω t13).2.1 = t13 from rfl) v4 v8 v10 v12 0 ht15 rfl) myX11_twigComes wm7_10 ⟨_, _, _, _, (hW.ok k11), rfl, rfl, rfl, rfl⟩ rfl (kR rfl) (by decide) (kR rfl) rfl dX11_twigLine_78 ?_
      cases hF
      exact r_return C dX11_twigLine_81
  · rw [if_pos hc] at hF
    refine r_aload_n C (k := 1) rfl rfl dX11_twigLine_26 ?_
    refine r_iload_n C (k := 0) rfl rfl dX11_twigLine_27 ?_
    obtain ⟨v16, hv16, hF⟩ := ob1_e hF
    refine r_callV C (d' := 1) [.int v4] (c_X11_hasTwig hW (show (sM Ω t5).2.1 = t5 from rfl) v4 hv16) myX11_hasTwig wm6_238 ⟨_, _, _, _, (hW.ok k11), rfl, rfl, rfl, rfl⟩ rfl (kR rfl) (by decide) (kR rfl) rfl dX11_twigLine_28 ?_
    refine r_if_ne C (tgt := 38) rfl dX11_twigLine_31 (fun hc => ?_) (fun hc => ?_)
    · rw [if_pos (b2i_t hc)] at hF
      refine r_iconst C (v := 0) rfl dX11_twigLine_38 ?_
      refine r_iconst C (v := 3) rfl dX11_twigLine_39 ?_
      obtain ⟨t18, ht18, hF⟩ := lt_e hF
      refine r_callV C (d' := 0) [.int (b2i false), .int 3] (c_X11_must hW (show (sM Ω t5).2.1 = t5 from rfl) false 3 ht18 rfl) myX11_must wm6_211 ⟨_, _, _, _, (hW.ok k11), rfl, rfl, rfl, rfl⟩ rfl (kR rfl) (by decide) (kR rfl) rfl dX11_twigLine_40 ?_
      refine r_aload_n C (k := 1) rfl rfl dX11_twigLine_43 ?_
      obtain ⟨v19, t20, ht20, hF⟩ := ob_e hF
      refine r_callV C (d' := 2) [] (c_X11_letterHere hW (show (sM Ω t18).2.1 = t18 from rfl) N ht20 rfl) myX11_letterHere wm7_6 ⟨_, _, _, _, (hW.ok k11), rfl, rfl, rfl, rfl⟩ rfl (kR rfl) (by decide) (kR rfl) rfl dX11_twigLine_44 ?_
      refine r_istore_n C (lo' := [(2, .int v19), (1, .int v4), (0, .ref (wAd w (11, 12, 0, 0)))]) rfl (by decide) rfl dX11_twigLine_47 ?_
      refine r_aload_n C (k := 2) rfl rfl dX11_twigLine_48 ?_
      refine r_iconst C (v := 0) rfl dX11_twigLine_49 ?_
      refine r_iconst C (v := 1) rfl dX11_twigLine_50 ?_
      obtain ⟨v21, t22, ht22, hF⟩ := ob_e hF
      refine r_callV C (d' := 2) [.int 0, .int 1] (c_X11_number hW (show (sM Ω t20).2.1 = t20 from rfl) N 0 1 ht22 rfl) myX11_number wm6_219 ⟨_, _, _, _, (hW.ok k11), rfl, rfl, rfl, rfl⟩ rfl (kR rfl) (by decide) (kR rfl) rfl dX11_twigLine_51 ?_
      refine r_istore_n C (lo' := [(3, .int v21), (2, .int v19), (1, .int v4), (0, .ref (wAd w (11, 12, 0, 0)))]) rfl (by decide) rfl dX11_twigLine_54 ?_
      refine r_aload_n C (k := 3) rfl rfl dX11_twigLine_55 ?_
      refine r_iconst C (v := 1) rfl dX11_twigLine_56 ?_
      refine r_bipush C (v := 99) rfl dX11_twigLine_57 ?_
      obtain ⟨v23, t24, ht24, hF⟩ := ob_e hF
      refine r_callV C (d' := 2) [.int 1, .int 99] (c_X11_number hW (show (sM Ω t22).2.1 = t22 from rfl) N 1 99 ht24 rfl) myX11_number wm6_219 ⟨_, _, _, _, (hW.ok k11), rfl, rfl, rfl, rfl⟩ rfl (kR rfl) (by decide) (kR rfl) rfl dX11_twigLine_59 ?_
      refine r_istore C (lo' := [(4, .int v23), (3, .int v21), (2, .int v19), (1, .int v4), (0, .ref (wAd w (11, 12, 0, 0)))]) (by decide) rfl dX11_twigLine_62 ?_
      refine r_aload_n C (k := 4) rfl rfl dX11_twigLine_64 ?_
      refine og_11_15 C (hW.ok k11) (show (sM Ω t24).2.1 = t24 from rfl) wm7_82 dX11_twigLine_65 ?_
      refine r_if_ne C (tgt := 81) rfl dX11_twigLine_68 (fun hc => ?_) (fun hc => ?_)
      · rw [if_neg hc] at hF
        cases hF
        exact r_return C dX11_twigLine_81
      · rw [if_pos hc] at hF
        refine r_aload_n C (k := 4) rfl rfl dX11_twigLine_71 ?_
        refine r_iload_n C (k := 3) rfl rfl dX11_twigLine_72 ?_
        refine r_iload_n C (k := 2) rfl rfl dX11_twigLine_73 ?_
        refine r_iload_n C (k := 1) rfl rfl dX11_twigLine_74 ?_
        refine r_iload C (k := 0) rfl dX11_twigLine_75 ?_
        refine r_iconst C (v := 0) rfl dX11_twigLine_77 ?_
        obtain ⟨t26, ht26, hF⟩ := ob1_e hF
        refine r_callV C (d' := 1) [.int v4, .int v19, .int v21, .int v23, .int 0] (c_X11_twigComes hW (show (sM Ω t24).2.1 = t24 from rfl) v4 v19 v21 v23 0 ht26 rfl) myX11_twigComes wm7_10 ⟨_, _, _, _, (hW.ok k11), rfl, rfl, rfl, rfl⟩ rfl (kR rfl) (by decide) (kR rfl) rfl dX11_twigLine_78 ?_
        cases hF
        exact r_return C dX11_twigLine_81
    · rw [if_neg (b2i_f hc)] at hF
      refine r_iconst C (v := 1) rfl dX11_twigLine_34 ?_
      refine r_goto C (tgt := 39) rfl dX11_twigLine_35 ?_
      refine r_iconst C (v := 3) rfl dX11_twigLine_39 ?_
      obtain ⟨t28, ht28, hF⟩ := lt_e hF
      refine r_callV C (d' := 0) [.int (b2i true), .int 3] (c_X11_must hW (show (sM Ω t5).2.1 = t5 from rfl) true 3 ht28 rfl) myX11_must wm6_211 ⟨_, _, _, _, (hW.ok k11), rfl, rfl, rfl, rfl⟩ rfl (kR rfl) (by decide) (kR rfl) rfl dX11_twigLine_40 ?_
      refine r_aload_n C (k := 1) rfl rfl dX11_twigLine_43 ?_
      obtain ⟨v29, t30, ht30, hF⟩ := ob_e hF
      refine r_callV C (d' := 2) [] (c_X11_letterHere hW (show (sM Ω t28).2.1 = t28 from rfl) N ht30 rfl) myX11_letterHere wm7_6 ⟨_, _, _, _, (hW.ok k11), rfl, rfl, rfl, rfl⟩ rfl (kR rfl) (by decide) (kR rfl) rfl dX11_twigLine_44 ?_
      refine r_istore_n C (lo' := [(2, .int v29), (1, .int v4), (0, .ref (wAd w (11, 12, 0, 0)))]) rfl (by decide) rfl dX11_twigLine_47 ?_
      refine r_aload_n C (k := 2) rfl rfl dX11_twigLine_48 ?_
      refine r_iconst C (v := 0) rfl dX11_twigLine_49 ?_
      refine r_iconst C (v := 1) rfl dX11_twigLine_50 ?_
      obtain ⟨v31, t32, ht32, hF⟩ := ob_e hF
      refine r_callV C (d' := 2) [.int 0, .int 1] (c_X11_number hW (show (sM Ω t30).2.1 = t30 from rfl) N 0 1 ht32 rfl) myX11_number wm6_219 ⟨_, _, _, _, (hW.ok k11), rfl, rfl, rfl, rfl⟩ rfl (kR rfl) (by decide) (kR rfl) rfl dX11_twigLine_51 ?_
      refine r_istore_n C (lo' := [(3, .int v31), (2, .int v29), (1, .int v4), (0, .ref (wAd w (11, 12, 0, 0)))]) rfl (by decide) rfl dX11_twigLine_54 ?_
      refine r_aload_n C (k := 3) rfl rfl dX11_twigLine_55 ?_
      refine r_iconst C (v := 1) rfl dX11_twigLine_56 ?_
      refine r_bipush C (v := 99) rfl dX11_twigLine_57 ?_
      obtain ⟨v33, t34, ht34, hF⟩ := ob_e hF
      refine r_callV C (d' := 2) [.int 1, .int 99] (c_X11_number hW (show (sM Ω t32).2.1 = t32 from rfl) N 1 99 ht34 rfl) myX11_number wm6_219 ⟨_, _, _, _, (hW.ok k11), rfl, rfl, rfl, rfl⟩ rfl (kR rfl) (by decide) (kR rfl) rfl dX11_twigLine_59 ?_
      refine r_istore C (lo' := [(4, .int v33), (3, .int v31), (2, .int v29), (1, .int v4), (0, .ref (wAd w (11, 12, 0, 0)))]) (by decide) rfl dX11_twigLine_62 ?_
      refine r_aload_n C (k := 4) rfl rfl dX11_twigLine_64 ?_
      refine og_11_15 C (hW.ok k11) (show (sM Ω t34).2.1 = t34 from rfl) wm7_82 dX11_twigLine_65 ?_
      refine r_if_ne C (tgt := 81) rfl dX11_twigLine_68 (fun hc => ?_) (fun hc => ?_)
      · rw [if_neg hc] at hF
        cases hF
        exact r_return C dX11_twigLine_81
      · rw [if_pos hc] at hF
        refine r_aload_n C (k := 4) rfl rfl dX11_twigLine_71 ?_
        refine r_iload_n C (k := 3) rfl rfl dX11_twigLine_72 ?_
        refine r_iload_n C (k := 2) rfl rfl dX11_twigLine_73 ?_
        refine r_iload_n C (k := 1) rfl rfl dX11_twigLine_74 ?_
        refine r_iload C (k := 0) rfl dX11_twigLine_75 ?_
        refine r_iconst C (v := 0) rfl dX11_twigLine_77 ?_
        obtain ⟨t36, ht36, hF⟩ := ob1_e hF
        refine r_callV C (d' := 1) [.int v4, .int v29, .int v31, .int v33, .int 0] (c_X11_twigComes hW (show (sM Ω t34).2.1 = t34 from rfl) v4 v29 v31 v33 0 ht36 rfl) myX11_twigComes wm7_10 ⟨_, _, _, _, (hW.ok k11), rfl, rfl, rfl, rfl⟩ rfl (kR rfl) (by decide) (kR rfl) rfl dX11_twigLine_78 ?_
        cases hF
        exact r_return C dX11_twigLine_81
theorem dX11_nestLine_0 : decode cX11_nestLine 0 = .ok (.aload_n 0, 1) := by decide +kernel
theorem dX11_nestLine_1 : decode cX11_nestLine 1 = .ok (.invokevirtual 261, 3) := by decide +kernel
theorem dX11_nestLine_4 : decode cX11_nestLine 4 = .ok (.aload_n 0, 1) := by decide +kernel
theorem dX11_nestLine_5 : decode cX11_nestLine 5 = .ok (.iconst 0, 1) := by decide +kernel
theorem dX11_nestLine_6 : decode cX11_nestLine 6 = .ok (.aload_n 0, 1) := by decide +kernel
theorem dX11_nestLine_7 : decode cX11_nestLine 7 = .ok (.getfield 7, 3) := by decide +kernel
theorem dX11_nestLine_10 : decode cX11_nestLine 10 = .ok (.iconst 0, 1) := by decide +kernel
theorem dX11_nestLine_11 : decode cX11_nestLine 11 = .ok (.iaload, 1) := by decide +kernel
theorem dX11_nestLine_12 : decode cX11_nestLine 12 = .ok (.iconst 1, 1) := by decide +kernel
theorem dX11_nestLine_13 : decode cX11_nestLine 13 = .ok (.isub, 1) := by decide +kernel
theorem dX11_nestLine_14 : decode cX11_nestLine 14 = .ok (.invokevirtual 278, 3) := by decide +kernel
theorem dX11_nestLine_17 : decode cX11_nestLine 17 = .ok (.istore_n 1, 1) := by decide +kernel
theorem dX11_nestLine_18 : decode cX11_nestLine 18 = .ok (.aload_n 0, 1) := by decide +kernel
theorem dX11_nestLine_19 : decode cX11_nestLine 19 = .ok (.aload_n 0, 1) := by decide +kernel
theorem dX11_nestLine_20 : decode cX11_nestLine 20 = .ok (.getfield 244, 3) := by decide +kernel
theorem dX11_nestLine_23 : decode cX11_nestLine 23 = .ok (.ifCond .ne 11, 3) := by decide +kernel
theorem dX11_nestLine_26 : decode cX11_nestLine 26 = .ok (.aload_n 0, 1) := by decide +kernel
theorem dX11_nestLine_27 : decode cX11_nestLine 27 = .ok (.iload_n 1, 1) := by decide +kernel
theorem dX11_nestLine_28 : decode cX11_nestLine 28 = .ok (.invokevirtual 77, 3) := by decide +kernel
theorem dX11_nestLine_31 : decode cX11_nestLine 31 = .ok (.ifCond .ne 7, 3) := by decide +kernel
theorem dX11_nestLine_34 : decode cX11_nestLine 34 = .ok (.iconst 1, 1) := by decide +kernel
theorem dX11_nestLine_35 : decode cX11_nestLine 35 = .ok (.goto 4, 3) := by decide +kernel
theorem dX11_nestLine_38 : decode cX11_nestLine 38 = .ok (.iconst 0, 1) := by decide +kernel
theorem dX11_nestLine_39 : decode cX11_nestLine 39 = .ok (.iconst 3, 1) := by decide +kernel
theorem dX11_nestLine_40 : decode cX11_nestLine 40 = .ok (.invokevirtual 253, 3) := by decide +kernel
theorem dX11_nestLine_43 : decode cX11_nestLine 43 = .ok (.aload_n 0, 1) := by decide +kernel
theorem dX11_nestLine_44 : decode cX11_nestLine 44 = .ok (.aload_n 0, 1) := by decide +kernel
theorem dX11_nestLine_45 : decode cX11_nestLine 45 = .ok (.invokevirtual 209, 3) := by decide +kernel
theorem dX11_nestLine_48 : decode cX11_nestLine 48 = .ok (.bipush 6, 2) := by decide +kernel
theorem dX11_nestLine_50 : decode cX11_nestLine 50 = .ok (.if_icmp .ge 7, 3) := by decide +kernel
theorem dX11_nestLine_53 : decode cX11_nestLine 53 = .ok (.iconst 1, 1) := by decide +kernel
theorem dX11_nestLine_54 : decode cX11_nestLine 54 = .ok (.goto 4, 3) := by decide +kernel
theorem dX11_nestLine_57 : decode cX11_nestLine 57 = .ok (.iconst 0, 1) := by decide +kernel
theorem dX11_nestLine_58 : decode cX11_nestLine 58 = .ok (.iconst 4, 1) := by decide +kernel
theorem dX11_nestLine_59 : decode cX11_nestLine 59 = .ok (.invokevirtual 253, 3) := by decide +kernel
theorem dX11_nestLine_62 : decode cX11_nestLine 62 = .ok (.aload_n 0, 1) := by decide +kernel
theorem dX11_nestLine_63 : decode cX11_nestLine 63 = .ok (.iconst 1, 1) := by decide +kernel
theorem dX11_nestLine_64 : decode cX11_nestLine 64 = .ok (.bipush 30, 2) := by decide +kernel
theorem dX11_nestLine_66 : decode cX11_nestLine 66 = .ok (.invokevirtual 278, 3) := by decide +kernel
theorem dX11_nestLine_69 : decode cX11_nestLine 69 = .ok (.istore_n 2, 1) := by decide +kernel
theorem dX11_nestLine_70 : decode cX11_nestLine 70 = .ok (.aload_n 0, 1) := by decide +kernel
theorem dX11_nestLine_71 : decode cX11_nestLine 71 = .ok (.getfield 244, 3) := by decide +kernel
theorem dX11_nestLine_74 : decode cX11_nestLine 74 = .ok (.ifCond .ne 10, 3) := by decide +kernel
theorem dX11_nestLine_77 : decode cX11_nestLine 77 = .ok (.aload_n 0, 1) := by decide +kernel
theorem dX11_nestLine_78 : decode cX11_nestLine 78 = .ok (.iload_n 1, 1) := by decide +kernel
theorem dX11_nestLine_79 : decode cX11_nestLine 79 = .ok (.iconst 4, 1) := by decide +kernel
theorem dX11_nestLine_80 : decode cX11_nestLine 80 = .ok (.iload_n 2, 1) := by decide +kernel
theorem dX11_nestLine_81 : decode cX11_nestLine 81 = .ok (.invokevirtual 87, 3) := by decide +kernel
theorem dX11_nestLine_84 : decode cX11_nestLine 84 = .ok (.return_, 1) := by decide +kernel
def F_X11_nestLine (N : Nat) (t : HV) : Option (HV) := (lt (F_X11_goesPast t) fun t2 => (if vpb 0 760 = true then (ob (F_X11_number N 0 ((ag t2 0 0) - 1) t2) fun v4 t5 => (if (t5.1 15) = 0 then (ob1 (F_X11_hasNest v4 t5) fun v21 => (if v21 = true then (lt (F_X11_must false 3 t5) fun t23 => (ob1 (F_X11_nests N t23) fun v24 => (if 6 ≤ v24 then (lt (F_X11_must false 4 t23) fun t26 => (ob (F_X11_number N 1 30 t26) fun v27 t28 => (if (t28.1 15) = 0 then (ob1 (F_X11_puts v4 4 v27 t28) fun t30 => some t30) else some t28))) else (lt (F_X11_must true 4 t23) fun t32 => (ob (F_X11_number N 1 30 t32) fun v33 t34 => (if (t34.1 15) = 0 then (ob1 (F_X11_puts v4 4 v33 t34) fun t36 => some t36) else some t34)))))) else (lt (F_X11_must true 3 t5) fun t38 => (ob1 (F_X11_nests N t38) fun v39 => (if 6 ≤ v39 then (lt (F_X11_must false 4 t38) fun t41 => (ob (F_X11_number N 1 30 t41) fun v42 t43 => (if (t43.1 15) = 0 then (ob1 (F_X11_puts v4 4 v42 t43) fun t45 => some t45) else some t43))) else (lt (F_X11_must true 4 t38) fun t47 => (ob (F_X11_number N 1 30 t47) fun v48 t49 => (if (t49.1 15) = 0 then (ob1 (F_X11_puts v4 4 v48 t49) fun t51 => some t51) else some t49)))))))) else (lt (F_X11_must true 3 t5) fun t7 => (ob1 (F_X11_nests N t7) fun v8 => (if 6 ≤ v8 then (lt (F_X11_must false 4 t7) fun t10 => (ob (F_X11_number N 1 30 t10) fun v11 t12 => (if (t12.1 15) = 0 then (ob1 (F_X11_puts v4 4 v11 t12) fun t14 => some t14) else some t12))) else (lt (F_X11_must true 4 t7) fun t16 => (ob (F_X11_number N 1 30 t16) fun v17 t18 => (if (t18.1 15) = 0 then (ob1 (F_X11_puts v4 4 v17 t18) fun t20 => some t20) else some t18)))))))) else none))
theorem c_X11_nestLine {w : WP} (hW : gWM w) {Ω : OM}  {t : HV} (e : Ω.2.1 = t) (N : Nat)  {t' : HV} (hF : F_X11_nestLine N t = some t') {Ω' : OM} (e2 : (sM Ω t') = Ω') : gM w 3 yX11_nestLine cX11_nestLine 3 none [.ref (wAd w (11, 12, 0, 0))] (cA w Ω) none (cA w Ω') := by
  refine gM_of "HedgeMessagesModel" rfl (by decide) (kR rfl) fun X C => ?_
  unfold F_X11_nestLine at hF
  subst e2
  show gV w X _ _ 0 [(0, .ref (wAd w (11, 12, 0, 0)))] []
  refine r_ct (ct' := cA w (sM Ω t)) (congrArg (cA w) (sM_i e).symm) ?_
  refine r_aload_n C (k := 0) rfl rfl dX11_nestLine_0 ?_
  obtain ⟨t2, ht2, hF⟩ := lt_e hF
  refine r_callV C (d' := 0) [] (c_X11_goesPast hW (show (sM Ω t).2.1 = t from rfl) ht2 rfl) myX11_goesPast wm6_215 ⟨_, _, _, _, (hW.ok k11), rfl, rfl, rfl, rfl⟩ rfl (kR rfl) (by decide) (kR rfl) rfl dX11_nestLine_1 ?_
  refine r_aload_n C (k := 0) rfl rfl dX11_nestLine_4 ?_
  refine r_iconst C (v := 0) rfl dX11_nestLine_5 ?_
  refine r_aload_n C (k := 0) rfl rfl dX11_nestLine_6 ?_
  refine og_11_0 C (hW.ok k11) wm7_67 dX11_nestLine_7 ?_
  refine r_iconst C (v := 0) rfl dX11_nestLine_10 ?_
  obtain ⟨b3, hF⟩ := gd_e hF
  refine m_ald C (hW.ok (k12 (a := 0) (by unfold okMa; decide))) (show (sM Ω t2).2.1 = t2 from rfl) rfl b3 dX11_nestLine_11 ?_
  refine r_iconst C (v := 1) rfl dX11_nestLine_12 ?_
  refine r_isub C dX11_nestLine_13 ?_
  obtain ⟨v4, t5, ht5, hF⟩ := ob_e hF
  refine r_callV C (d' := 2) [.int 0, .int ((ag t2 0 0) - 1)] (c_X11_number hW (show (sM Ω t2).2.1 = t2 from rfl) N 0 ((ag t2 0 0) - 1) ht5 rfl) myX11_number wm6_219 ⟨_, _, _, _, (hW.ok k11), rfl, rfl, rfl, rfl⟩ rfl (kR rfl) (by decide) (kR rfl) rfl dX11_nestLine_14 ?_
  refine r_istore_n C (lo' := [(1, .int v4), (0, .ref (wAd w (11, 12, 0, 0)))]) rfl (by decide) rfl dX11_nestLine_17 ?_
  refine r_aload_n C (k := 1) rfl rfl dX11_nestLine_18 ?_
  refine r_aload_n C (k := 1) rfl rfl dX11_nestLine_19 ?_
  refine og_11_15 C (hW.ok k11) (show (sM Ω t5).2.1 = t5 from rfl) wm7_82 dX11_nestLine_20 ?_
  refine r_if_ne C (tgt := 34) rfl dX11_nestLine_23 (fun hc => ?_) (fun hc => ?_)
  · rw [if_neg hc] at hF
    refine r_iconst C (v := 1) rfl dX11_nestLine_34 ?_
    refine r_goto C (tgt := 39) rfl dX11_nestLine_35 ?_
    refine r_iconst C (v := 3) rfl dX11_nestLine_39 ?_
    obtain ⟨t7, ht7, hF⟩ := lt_e hF
    refine r_callV C (d' := 0) [.int (b2i true), .int 3] (c_X11_must hW (show (sM Ω t5).2.1 = t5 from rfl) true 3 ht7 rfl) myX11_must wm6_211 ⟨_, _, _, _, (hW.ok k11), rfl, rfl, rfl, rfl⟩ rfl (kR rfl) (by decide) (kR rfl) rfl dX11_nestLine_40 ?_
    refine r_aload_n C (k := 1) rfl rfl dX11_nestLine_43 ?_
    refine r_aload_n C (k := 1) rfl rfl dX11_nestLine_44 ?_
    obtain ⟨v8, hv8, hF⟩ := ob1_e hF
    refine r_callV C (d' := 1) [] (c_X11_nests hW (show (sM Ω t7).2.1 = t7 from rfl) N hv8) myX11_nests wm7_31 ⟨_, _, _, _, (hW.ok k11), rfl, rfl, rfl, rfl⟩ rfl (kR rfl) (by decide) (kR rfl) rfl dX11_nestLine_45 ?_
    refine r_bipush C (v := 6) rfl dX11_nestLine_48 ?_
    refine r_icmp_ge C (tgt := 57) rfl dX11_nestLine_50 (fun hc => ?_) (fun hc => ?_)
    · rw [if_pos hc] at hF
      refine r_iconst C (v := 0) rfl dX11_nestLine_57 ?_
      refine r_iconst C (v := 4) rfl dX11_nestLine_58 ?_
      obtain ⟨t10, ht10, hF⟩ := lt_e hF
      refine r_callV C (d' := 0) [.int (b2i false), .int 4] (c_X11_must hW (show (sM Ω t7).2.1 = t7 from rfl) false 4 ht10 rfl) myX11_must wm6_211 ⟨_, _, _, _, (hW.ok k11), rfl, rfl, rfl, rfl⟩ rfl (kR rfl) (by decide) (kR rfl) rfl dX11_nestLine_59 ?_
      refine r_aload_n C (k := 1) rfl rfl dX11_nestLine_62 ?_
      refine r_iconst C (v := 1) rfl dX11_nestLine_63 ?_
      refine r_bipush C (v := 30) rfl dX11_nestLine_64 ?_
      obtain ⟨v11, t12, ht12, hF⟩ := ob_e hF
      refine r_callV C (d' := 2) [.int 1, .int 30] (c_X11_number hW (show (sM Ω t10).2.1 = t10 from rfl) N 1 30 ht12 rfl) myX11_number wm6_219 ⟨_, _, _, _, (hW.ok k11), rfl, rfl, rfl, rfl⟩ rfl (kR rfl) (by decide) (kR rfl) rfl dX11_nestLine_66 ?_
      refine r_istore_n C (lo' := [(2, .int v11), (1, .int v4), (0, .ref (wAd w (11, 12, 0, 0)))]) rfl (by decide) rfl dX11_nestLine_69 ?_
      refine r_aload_n C (k := 2) rfl rfl dX11_nestLine_70 ?_
      refine og_11_15 C (hW.ok k11) (show (sM Ω t12).2.1 = t12 from rfl) wm7_82 dX11_nestLine_71 ?_
      refine r_if_ne C (tgt := 84) rfl dX11_nestLine_74 (fun hc => ?_) (fun hc => ?_)
      · rw [if_neg hc] at hF
        cases hF
        exact r_return C dX11_nestLine_84
      · rw [if_pos hc] at hF
        refine r_aload_n C (k := 2) rfl rfl dX11_nestLine_77 ?_
        refine r_iload_n C (k := 1) rfl rfl dX11_nestLine_78 ?_
        refine r_iconst C (v := 4) rfl dX11_nestLine_79 ?_
        refine r_iload_n C (k := 0) rfl rfl dX11_nestLine_80 ?_
        obtain ⟨t14, ht14, hF⟩ := ob1_e hF
        refine r_callV C (d' := 0) [.int v4, .int 4, .int v11] (c_X11_puts hW (show (sM Ω t12).2.1 = t12 from rfl) v4 4 v11 ht14 rfl) myX11_puts wm7_14 ⟨_, _, _, _, (hW.ok k11), rfl, rfl, rfl, rfl⟩ rfl (kR rfl) (by decide) (kR rfl) rfl dX11_nestLine_81 ?_
        cases hF
        exact r_return C dX11_nestLine_84
    · rw [if_neg hc] at hF
      refine r_iconst C (v := 1) rfl dX11_nestLine_53 ?_
      refine r_goto C (tgt := 58) rfl dX11_nestLine_54 ?_
      refine r_iconst C (v := 4) rfl dX11_nestLine_58 ?_
      obtain ⟨t16, ht16, hF⟩ := lt_e hF
      refine r_callV C (d' := 0) [.int (b2i true), .int 4] (c_X11_must hW (show (sM Ω t7).2.1 = t7 from rfl) true 4 ht16 rfl) myX11_must wm6_211 ⟨_, _, _, _, (hW.ok k11), rfl, rfl, rfl, rfl⟩ rfl (kR rfl) (by decide) (kR rfl) rfl dX11_nestLine_59 ?_
      refine r_aload_n C (k := 1) rfl rfl dX11_nestLine_62 ?_
      refine r_iconst C (v := 1) rfl dX11_nestLine_63 ?_
      refine r_bipush C (v := 30) rfl dX11_nestLine_64 ?_
      obtain ⟨v17, t18, ht18, hF⟩ := ob_e hF
      refine r_callV C (d' := 2) [.int 1, .int 30] (c_X11_number hW (show (sM Ω t16).2.1 = t16 from rfl) N 1 30 ht18 rfl) myX11_number wm6_219 ⟨_, _, _, _, (hW.ok k11), rfl, rfl, rfl, rfl⟩ rfl (kR rfl) (by decide) (kR rfl) rfl dX11_nestLine_66 ?_
      refine r_istore_n C (lo' := [(2, .int v17), (1, .int v4), (0, .ref (wAd w (11, 12, 0, 0)))]) rfl (by decide) rfl dX11_nestLine_69 ?_
      refine r_aload_n C (k := 2) rfl rfl dX11_nestLine_70 ?_
      refine og_11_15 C (hW.ok k11) (show (sM Ω t18).2.1 = t18 from rfl) wm7_82 dX11_nestLine_71 ?_
      refine r_if_ne C (tgt := 84) rfl dX11_nestLine_74 (fun hc => ?_) (fun hc => ?_)
      · rw [if_neg hc] at hF
        cases hF
        exact r_return C dX11_nestLine_84
      · rw [if_pos hc] at hF
        refine r_aload_n C (k := 2) rfl rfl dX11_nestLine_77 ?_
        refine r_iload_n C (k := 1) rfl rfl dX11_nestLine_78 ?_
        refine r_iconst C (v := 4) rfl dX11_nestLine_79 ?_
        refine r_iload_n C (k := 0) rfl rfl dX11_nestLine_80 ?_
        obtain ⟨t20, ht20, hF⟩ := ob1_e hF
        refine r_callV C (d' := 0) [.int v4, .int 4, .int v17] (c_X11_puts hW (show (sM Ω t18).2.1 = t18 from rfl) v4 4 v17 ht20 rfl) myX11_puts wm7_14 ⟨_, _, _, _, (hW.ok k11), rfl, rfl, rfl, rfl⟩ rfl (kR rfl) (by decide) (kR rfl) rfl dX11_nestLine_81 ?_
        cases hF
        exact r_return C dX11_nestLine_84
  · rw [if_pos hc] at hF
    refine r_aload_n C (k := 1) rfl rfl dX11_nestLine_26 ?_
    refine r_iload_n C (k := 0) rfl rfl dX11_nestLine_27 ?_
    obtain ⟨v21, hv21, hF⟩ := ob1_e hF
    refine r_callV C (d' := 2) [.int v4] (c_X11_hasNest hW (show (sM Ω t5).2.1 = t5 from rfl) v4 hv21) myX11_hasNest wm7_23 ⟨_, _, _, _, (hW.ok k11), rfl, rfl, rfl, rfl⟩ rfl (kR rfl) (by decide) (kR rfl) rfl dX11_nestLine_28 ?_
    refine r_if_ne C (tgt := 38) rfl dX11_nestLine_31 (fun hc => ?_) (fun hc => ?_)
    · rw [if_pos (b2i_t hc)] at hF
      refine r_iconst C (v := 0) rfl dX11_nestLine_38 ?_
      refine r_iconst C (v := 3) rfl dX11_nestLine_39 ?_
      obtain ⟨t23, ht23, hF⟩ := lt_e hF
      refine r_callV C (d' := 0) [.int (b2i false), .int 3] (c_X11_must hW (show (sM Ω t5).2.1 = t5 from rfl) false 3 ht23 rfl) myX11_must wm6_211 ⟨_, _, _, _, (hW.ok k11), rfl, rfl, rfl, rfl⟩ rfl (kR rfl) (by decide) (kR rfl) rfl dX11_nestLine_40 ?_
      refine r_aload_n C (k := 1) rfl rfl dX11_nestLine_43 ?_
      refine r_aload_n C (k := 1) rfl rfl dX11_nestLine_44 ?_
      obtain ⟨v24, hv24, hF⟩ := ob1_e hF
      refine r_callV C (d' := 1) [] (c_X11_nests hW (show (sM Ω t23).2.1 = t23 from rfl) N hv24) myX11_nests wm7_31 ⟨_, _, _, _, (hW.ok k11), rfl, rfl, rfl, rfl⟩ rfl (kR rfl) (by decide) (kR rfl) rfl dX11_nestLine_45 ?_
      refine r_bipush C (v := 6) rfl dX11_nestLine_48 ?_
      refine r_icmp_ge C (tgt := 57) rfl dX11_nestLine_50 (fun hc => ?_) (fun hc => ?_)
      · rw [if_pos hc] at hF
        refine r_iconst C (v := 0) rfl dX11_nestLine_57 ?_
        refine r_iconst C (v := 4) rfl dX11_nestLine_58 ?_
        obtain ⟨t26, ht26, hF⟩ := lt_e hF
        refine r_callV C (d' := 0) [.int (b2i false), .int 4] (c_X11_must hW (show (sM Ω t23).2.1 = t23 from rfl) false 4 ht26 rfl) myX11_must wm6_211 ⟨_, _, _, _, (hW.ok k11), rfl, rfl, rfl, rfl⟩ rfl (kR rfl) (by decide) (kR rfl) rfl dX11_nestLine_59 ?_
        refine r_aload_n C (k := 1) rfl rfl dX11_nestLine_62 ?_
        refine r_iconst C (v := 1) rfl dX11_nestLine_63 ?_
        refine r_bipush C (v := 30) rfl dX11_nestLine_64 ?_
        obtain ⟨v27, t28, ht28, hF⟩ := ob_e hF
        refine r_callV C (d' := 2) [.int 1, .int 30] (c_X11_number hW (show (sM Ω t26).2.1 = t26 from rfl) N 1 30 ht28 rfl) myX11_number wm6_219 ⟨_, _, _, _, (hW.ok k11), rfl, rfl, rfl, rfl⟩ rfl (kR rfl) (by decide) (kR rfl) rfl dX11_nestLine_66 ?_
        refine r_istore_n C (lo' := [(2, .int v27), (1, .int v4), (0, .ref (wAd w (11, 12, 0, 0)))]) rfl (by decide) rfl dX11_nestLine_69 ?_
        refine r_aload_n C (k := 2) rfl rfl dX11_nestLine_70 ?_
        refine og_11_15 C (hW.ok k11) (show (sM Ω t28).2.1 = t28 from rfl) wm7_82 dX11_nestLine_71 ?_
        refine r_if_ne C (tgt := 84) rfl dX11_nestLine_74 (fun hc => ?_) (fun hc => ?_)
        · rw [if_neg hc] at hF
          cases hF
          exact r_return C dX11_nestLine_84
        · rw [if_pos hc] at hF
          refine r_aload_n C (k := 2) rfl rfl dX11_nestLine_77 ?_
          refine r_iload_n C (k := 1) rfl rfl dX11_nestLine_78 ?_
          refine r_iconst C (v := 4) rfl dX11_nestLine_79 ?_
          refine r_iload_n C (k := 0) rfl rfl dX11_nestLine_80 ?_
          obtain ⟨t30, ht30, hF⟩ := ob1_e hF
          refine r_callV C (d' := 0) [.int v4, .int 4, .int v27] (c_X11_puts hW (show (sM Ω t28).2.1 = t28 from rfl) v4 4 v27 ht30 rfl) myX11_puts wm7_14 ⟨_, _, _, _, (hW.ok k11), rfl, rfl, rfl, rfl⟩ rfl (kR rfl) (by decide) (kR rfl) rfl dX11_nestLine_81 ?_
          cases hF
          exact r_return C dX11_nestLine_84
      · rw [if_neg hc] at hF
        refine r_iconst C (v := 1) rfl dX11_nestLine_53 ?_
        refine r_goto C (tgt := 58) rfl dX11_nestLine_54 ?_
        refine r_iconst C (v := 4) rfl dX11_nestLine_58 ?_
        obtain ⟨t32, ht32, hF⟩ := lt_e hF
        refine r_callV C (d' := 0) [.int (b2i true), .int 4] (c_X11_must hW (show (sM Ω t23).2.1 = t23 from rfl) true 4 ht32 rfl) myX11_must wm6_211 ⟨_, _, _, _, (hW.ok k11), rfl, rfl, rfl, rfl⟩ rfl (kR rfl) (by decide) (kR rfl) rfl dX11_nestLine_59 ?_
        refine r_aload_n C (k := 1) rfl rfl dX11_nestLine_62 ?_
        refine r_iconst C (v := 1) rfl dX11_nestLine_63 ?_
        refine r_bipush C (v := 30) rfl dX11_nestLine_64 ?_
        obtain ⟨v33, t34, ht34, hF⟩ := ob_e hF
        refine r_callV C (d' := 2) [.int 1, .int 30] (c_X11_number hW (show (sM Ω t32).2.1 = t32 from rfl) N 1 30 ht34 rfl) myX11_number wm6_219 ⟨_, _, _, _, (hW.ok k11), rfl, rfl, rfl, rfl⟩ rfl (kR rfl) (by decide) (kR rfl) rfl dX11_nestLine_66 ?_
        refine r_istore_n C (lo' := [(2, .int v33), (1, .int v4), (0, .ref (wAd w (11, 12, 0, 0)))]) rfl (by decide) rfl dX11_nestLine_69 ?_
        refine r_aload_n C (k := 2) rfl rfl dX11_nestLine_70 ?_
        refine og_11_15 C (hW.ok k11) (show (sM Ω t34).2.1 = t34 from rfl) wm7_82 dX11_nestLine_71 ?_
        refine r_if_ne C (tgt := 84) rfl dX11_nestLine_74 (fun hc => ?_) (fun hc => ?_)
        · rw [if_neg hc] at hF
          cases hF
          exact r_return C dX11_nestLine_84
        · rw [if_pos hc] at hF
          refine r_aload_n C (k := 2) rfl rfl dX11_nestLine_77 ?_
          refine r_iload_n C (k := 1) rfl rfl dX11_nestLine_78 ?_
          refine r_iconst C (v := 4) rfl dX11_nestLine_79 ?_
          refine r_iload_n C (k := 0) rfl rfl dX11_nestLine_80 ?_
          obtain ⟨t36, ht36, hF⟩ := ob1_e hF
          refine r_callV C (d' := 0) [.int v4, .int 4, .int v33] (c_X11_puts hW (show (sM Ω t34).2.1 = t34 from rfl) v4 4 v33 ht36 rfl) myX11_puts wm7_14 ⟨_, _, _, _, (hW.ok k11), rfl, rfl, rfl, rfl⟩ rfl (kR rfl) (by decide) (kR rfl) rfl dX11_nestLine_81 ?_
          cases hF
          exact r_return C dX11_nestLine_84
    · rw [if_neg (b2i_f hc)] at hF
      refine r_iconst C (v := 1) rfl dX11_nestLine_34 ?_
      refine r_goto C (tgt := 39) rfl dX11_nestLine_35 ?_
      refine r_iconst C (v := 3) rfl dX11_nestLine_39 ?_
      obtain ⟨t38, ht38, hF⟩ := lt_e hF
      refine r_callV C (d' := 0) [.int (b2i true), .int 3] (c_X11_must hW (show (sM Ω t5).2.1 = t5 from rfl) true 3 ht38 rfl) myX11_must wm6_211 ⟨_, _, _, _, (hW.ok k11), rfl, rfl, rfl, rfl⟩ rfl (kR rfl) (by decide) (kR rfl) rfl dX11_nestLine_40 ?_
      refine r_aload_n C (k := 1) rfl rfl dX11_nestLine_43 ?_
      refine r_aload_n C (k := 1) rfl rfl dX11_nestLine_44 ?_
      obtain ⟨v39, hv39, hF⟩ := ob1_e hF
      refine r_callV C (d' := 1) [] (c_X11_nests hW (show (sM Ω t38).2.1 = t38 from rfl) N hv39) myX11_nests wm7_31 ⟨_, _, _, _, (hW.ok k11), rfl, rfl, rfl, rfl⟩ rfl (kR rfl) (by decide) (kR rfl) rfl dX11_nestLine_45 ?_
      refine r_bipush C (v := 6) rfl dX11_nestLine_48 ?_
      refine r_icmp_ge C (tgt := 57) rfl dX11_nestLine_50 (fun hc => ?_) (fun hc => ?_)
      · rw [if_pos hc] at hF
        refine r_iconst C (v := 0) rfl dX11_nestLine_57 ?_
        refine r_iconst C (v := 4) rfl dX11_nestLine_58 ?_
        obtain ⟨t41, ht41, hF⟩ := lt_e hF
        refine r_callV C (d' := 0) [.int (b2i false), .int 4] (c_X11_must hW (show (sM Ω t38).2.1 = t38 from rfl) false 4 ht41 rfl) myX11_must wm6_211 ⟨_, _, _, _, (hW.ok k11), rfl, rfl, rfl, rfl⟩ rfl (kR rfl) (by decide) (kR rfl) rfl dX11_nestLine_59 ?_
        refine r_aload_n C (k := 1) rfl rfl dX11_nestLine_62 ?_
        refine r_iconst C (v := 1) rfl dX11_nestLine_63 ?_
        refine r_bipush C (v := 30) rfl dX11_nestLine_64 ?_
        obtain ⟨v42, t43, ht43, hF⟩ := ob_e hF
        refine r_callV C (d' := 2) [.int 1, .int 30] (c_X11_number hW (show (sM Ω t41).2.1 = t41 from rfl) N 1 30 ht43 rfl) myX11_number wm6_219 ⟨_, _, _, _, (hW.ok k11), rfl, rfl, rfl, rfl⟩ rfl (kR rfl) (by decide) (kR rfl) rfl dX11_nestLine_66 ?_
        refine r_istore_n C (lo' := [(2, .int v42), (1, .int v4), (0, .ref (wAd w (11, 12, 0, 0)))]) rfl (by decide) rfl dX11_nestLine_69 ?_
        refine r_aload_n C (k := 2) rfl rfl dX11_nestLine_70 ?_
        refine og_11_15 C (hW.ok k11) (show (sM Ω t43).2.1 = t43 from rfl) wm7_82 dX11_nestLine_71 ?_
        refine r_if_ne C (tgt := 84) rfl dX11_nestLine_74 (fun hc => ?_) (fun hc => ?_)
        · rw [if_neg hc] at hF
          cases hF
          exact r_return C dX11_nestLine_84
        · rw [if_pos hc] at hF
          refine r_aload_n C (k := 2) rfl rfl dX11_nestLine_77 ?_
          refine r_iload_n C (k := 1) rfl rfl dX11_nestLine_78 ?_
          refine r_iconst C (v := 4) rfl dX11_nestLine_79 ?_
          refine r_iload_n C (k := 0) rfl rfl dX11_nestLine_80 ?_
          obtain ⟨t45, ht45, hF⟩ := ob1_e hF
          refine r_callV C (d' := 0) [.int v4, .int 4, .int v42] (c_X11_puts hW (show (sM Ω t43).2.1 = t43 from rfl) v4 4 v42 ht45 rfl) myX11_puts wm7_14 ⟨_, _, _, _, (hW.ok k11), rfl, rfl, rfl, rfl⟩ rfl (kR rfl) (by decide) (kR rfl) rfl dX11_nestLine_81 ?_
          cases hF
          exact r_return C dX11_nestLine_84
      · rw [if_neg hc] at hF
        refine r_iconst C (v := 1) rfl dX11_nestLine_53 ?_
        refine r_goto C (tgt := 58) rfl dX11_nestLine_54 ?_
        refine r_iconst C (v := 4) rfl dX11_nestLine_58 ?_
        obtain ⟨t47, ht47, hF⟩ := lt_e hF
        refine r_callV C (d' := 0) [.int (b2i true), .int 4] (c_X11_must hW (show (sM Ω t38).2.1 = t38 from rfl) true 4 ht47 rfl) myX11_must wm6_211 ⟨_, _, _, _, (hW.ok k11), rfl, rfl, rfl, rfl⟩ rfl (kR rfl) (by decide) (kR rfl) rfl dX11_nestLine_59 ?_
        refine r_aload_n C (k := 1) rfl rfl dX11_nestLine_62 ?_
        refine r_iconst C (v := 1) rfl dX11_nestLine_63 ?_
        refine r_bipush C (v := 30) rfl dX11_nestLine_64 ?_
        obtain ⟨v48, t49, ht49, hF⟩ := ob_e hF
        refine r_callV C (d' := 2) [.int 1, .int 30] (c_X11_number hW (show (sM Ω t47).2.1 = t47 from rfl) N 1 30 ht49 rfl) myX11_number wm6_219 ⟨_, _, _, _, (hW.ok k11), rfl, rfl, rfl, rfl⟩ rfl (kR rfl) (by decide) (kR rfl) rfl dX11_nestLine_66 ?_
        refine r_istore_n C (lo' := [(2, .int v48), (1, .int v4), (0, .ref (wAd w (11, 12, 0, 0)))]) rfl (by decide) rfl dX11_nestLine_69 ?_
        refine r_aload_n C (k := 2) rfl rfl dX11_nestLine_70 ?_
        refine og_11_15 C (hW.ok k11) (show (sM Ω t49).2.1 = t49 from rfl) wm7_82 dX11_nestLine_71 ?_
        refine r_if_ne C (tgt := 84) rfl dX11_nestLine_74 (fun hc => ?_) (fun hc => ?_)
        · rw [if_neg hc] at hF
          cases hF
          exact r_return C dX11_nestLine_84
        · rw [if_pos hc] at hF
          refine r_aload_n C (k := 2) rfl rfl dX11_nestLine_77 ?_
          refine r_iload_n C (k := 1) rfl rfl dX11_nestLine_78 ?_
          refine r_iconst C (v := 4) rfl dX11_nestLine_79 ?_
          refine r_iload_n C (k := 0) rfl rfl dX11_nestLine_80 ?_
          obtain ⟨t51, ht51, hF⟩ := ob1_e hF
          refine r_callV C (d' := 0) [.int v4, .int 4, .int v48] (c_X11_puts hW (show (sM Ω t49).2.1 = t49 from rfl) v4 4 v48 ht51 rfl) myX11_puts wm7_14 ⟨_, _, _, _, (hW.ok k11), rfl, rfl, rfl, rfl⟩ rfl (kR rfl) (by decide) (kR rfl) rfl dX11_nestLine_81 ?_
          cases hF
          exact r_return C dX11_nestLine_84
theorem dX11_messageLine_0 : decode cX11_messageLine 0 = .ok (.aload_n 0, 1) := by decide +kernel
theorem dX11_messageLine_1 : decode cX11_messageLine 1 = .ok (.invokevirtual 261, 3) := by decide +kernel
theorem dX11_messageLine_4 : decode cX11_messageLine 4 = .ok (.aload_n 0, 1) := by decide +kernel
theorem dX11_messageLine_5 : decode cX11_messageLine 5 = .ok (.iconst 0, 1) := by decide +kernel
theorem dX11_messageLine_6 : decode cX11_messageLine 6 = .ok (.iconst 1, 1) := by decide +kernel
theorem dX11_messageLine_7 : decode cX11_messageLine 7 = .ok (.invokevirtual 278, 3) := by decide +kernel
theorem dX11_messageLine_10 : decode cX11_messageLine 10 = .ok (.istore_n 1, 1) := by decide +kernel
theorem dX11_messageLine_11 : decode cX11_messageLine 11 = .ok (.aload_n 0, 1) := by decide +kernel
theorem dX11_messageLine_12 : decode cX11_messageLine 12 = .ok (.invokevirtual 287, 3) := by decide +kernel
theorem dX11_messageLine_15 : decode cX11_messageLine 15 = .ok (.aload_n 0, 1) := by decide +kernel
theorem dX11_messageLine_16 : decode cX11_messageLine 16 = .ok (.aload_n 0, 1) := by decide +kernel
theorem dX11_messageLine_17 : decode cX11_messageLine 17 = .ok (.getfield 244, 3) := by decide +kernel
theorem dX11_messageLine_20 : decode cX11_messageLine 20 = .ok (.ifCond .ne 17, 3) := by decide +kernel
theorem dX11_messageLine_23 : decode cX11_messageLine 23 = .ok (.aload_n 0, 1) := by decide +kernel
theorem dX11_messageLine_24 : decode cX11_messageLine 24 = .ok (.getfield 7, 3) := by decide +kernel
theorem dX11_messageLine_27 : decode cX11_messageLine 27 = .ok (.bipush 12, 2) := by decide +kernel
theorem dX11_messageLine_29 : decode cX11_messageLine 29 = .ok (.iload_n 1, 1) := by decide +kernel
theorem dX11_messageLine_30 : decode cX11_messageLine 30 = .ok (.iadd, 1) := by decide +kernel
theorem dX11_messageLine_31 : decode cX11_messageLine 31 = .ok (.iaload, 1) := by decide +kernel
theorem dX11_messageLine_32 : decode cX11_messageLine 32 = .ok (.bipush 8, 2) := by decide +kernel
theorem dX11_messageLine_34 : decode cX11_messageLine 34 = .ok (.if_icmp .ge 7, 3) := by decide +kernel
theorem dX11_messageLine_37 : decode cX11_messageLine 37 = .ok (.iconst 1, 1) := by decide +kernel
theorem dX11_messageLine_38 : decode cX11_messageLine 38 = .ok (.goto 4, 3) := by decide +kernel
theorem dX11_messageLine_41 : decode cX11_messageLine 41 = .ok (.iconst 0, 1) := by decide +kernel
theorem dX11_messageLine_42 : decode cX11_messageLine 42 = .ok (.iconst 4, 1) := by decide +kernel
theorem dX11_messageLine_43 : decode cX11_messageLine 43 = .ok (.invokevirtual 253, 3) := by decide +kernel
theorem dX11_messageLine_46 : decode cX11_messageLine 46 = .ok (.aload_n 0, 1) := by decide +kernel
theorem dX11_messageLine_47 : decode cX11_messageLine 47 = .ok (.getfield 244, 3) := by decide +kernel
theorem dX11_messageLine_50 : decode cX11_messageLine 50 = .ok (.ifCond .eq 4, 3) := by decide +kernel
theorem dX11_messageLine_53 : decode cX11_messageLine 53 = .ok (.return_, 1) := by decide +kernel
theorem dX11_messageLine_54 : decode cX11_messageLine 54 = .ok (.aload_n 0, 1) := by decide +kernel
theorem dX11_messageLine_55 : decode cX11_messageLine 55 = .ok (.invokevirtual 261, 3) := by decide +kernel
theorem dX11_messageLine_58 : decode cX11_messageLine 58 = .ok (.aload_n 0, 1) := by decide +kernel
theorem dX11_messageLine_59 : decode cX11_messageLine 59 = .ok (.iload_n 1, 1) := by decide +kernel
theorem dX11_messageLine_60 : decode cX11_messageLine 60 = .ok (.invokevirtual 290, 3) := by decide +kernel
theorem dX11_messageLine_63 : decode cX11_messageLine 63 = .ok (.istore_n 2, 1) := by decide +kernel
theorem dX11_messageLine_64 : decode cX11_messageLine 64 = .ok (.return_, 1) := by decide +kernel
def F_X11_messageLine (N : Nat) (t : HV) : Option (HV) := (lt (F_X11_goesPast t) fun t2 => (ob (F_X11_number N 0 1 t2) fun v3 t4 => (ob1 (F_X11_wordHere N t4) fun t6 => (if (t6.1 15) = 0 then (if vpb (12 + v3) 760 = true then (if 8 ≤ (ag t6 0 (12 + v3)) then (lt (F_X11_must false 4 t6) fun t15 => (if (t15.1 15) = 0 then (lt (F_X11_goesPast t15) fun t17 => (ob (F_X11_messageNow N v3 t17) fun v18 t19 => some t19)) else some t15)) else (lt (F_X11_must true 4 t6) fun t21 => (if (t21.1 15) = 0 then (lt (F_X11_goesPast t21) fun t23 => (ob (F_X11_messageNow N v3 t23) fun v24 t25 => some t25)) else some t21))) else none) else (lt (F_X11_must true 4 t6) fun t8 => (if (t8.1 15) = 0 then (lt (F_X11_goesPast t8) fun t10 => (ob (F_X11_messageNow N v3 t10) fun v11 t12 => some t12)) else some t8))))))
theorem c_X11_messageLine {w : WP} (hW : gWM w) {Ω : OM}  {t : HV} (e : Ω.2.1 = t) (N : Nat)  {t' : HV} (hF : F_X11_messageLine N t = some t') {Ω' : OM} (e2 : (sM Ω t') = Ω') : gM w 3 yX11_messageLine cX11_messageLine 3 none [.ref (wAd w (11, 12, 0, 0))] (cA w Ω) none (cA w Ω') := by
  refine gM_of "HedgeMessagesModel" rfl (by decide) (kR rfl) fun X C => ?_
  unfold F_X11_messageLine at hF
  subst e2
  show gV w X _ _ 0 [(0, .ref (wAd w (11, 12, 0, 0)))] []
  refine r_ct (ct' := cA w (sM Ω t)) (congrArg (cA w) (sM_i e).symm) ?_
  refine r_aload_n C (k := 0) rfl rfl dX11_messageLine_0 ?_
  obtain ⟨t2, ht2, hF⟩ := lt_e hF
  refine r_callV C (d' := 0) [] (c_X11_goesPast hW (show (sM Ω t).2.1 = t from rfl) ht2 rfl) myX11_goesPast wm6_215 ⟨_, _, _, _, (hW.ok k11), rfl, rfl, rfl, rfl⟩ rfl (kR rfl) (by decide) (kR rfl) rfl dX11_messageLine_1 ?_
  refine r_aload_n C (k := 0) rfl rfl dX11_messageLine_4 ?_
  refine r_iconst C (v := 0) rfl dX11_messageLine_5 ?_
  refine r_iconst C (v := 1) rfl dX11_messageLine_6 ?_
  obtain ⟨v3, t4, ht4, hF⟩ := ob_e hF
  refine r_callV C (d' := 2) [.int 0, .int 1] (c_X11_number hW (show (sM Ω t2).2.1 = t2 from rfl) N 0 1 ht4 rfl) myX11_number wm6_219 ⟨_, _, _, _, (hW.ok k11), rfl, rfl, rfl, rfl⟩ rfl (kR rfl) (by decide) (kR rfl) rfl dX11_messageLine_7 ?_
  refine r_istore_n C (lo' := [(1, .int v3), (0, .ref (wAd w (11, 12, 0, 0)))]) rfl (by decide) rfl dX11_messageLine_10 ?_
  refine r_aload_n C (k := 1) rfl rfl dX11_messageLine_11 ?_
  obtain ⟨t6, ht6, hF⟩ := ob1_e hF
  refine r_callV C (d' := 2) [] (c_X11_wordHere hW (show (sM Ω t4).2.1 = t4 from rfl) N ht6 rfl) myX11_wordHere wm7_43 ⟨_, _, _, _, (hW.ok k11), rfl, rfl, rfl, rfl⟩ rfl (kR rfl) (by decide) (kR rfl) rfl dX11_messageLine_12 ?_
  refine r_aload_n C (k := 1) rfl rfl dX11_messageLine_15 ?_
  refine r_aload_n C (k := 1) rfl rfl dX11_messageLine_16 ?_
  refine og_11_15 C (hW.ok k11) (show (sM Ω t6).2.1 = t6 from rfl) wm7_82 dX11_messageLine_17 ?_
  refine r_if_ne C (tgt := 37) rfl dX11_messageLine_20 (fun hc => ?_) (fun hc => ?_)
  · rw [if_neg hc] at hF
    refine r_iconst C (v := 1) rfl dX11_messageLine_37 ?_
    refine r_goto C (tgt := 42) rfl dX11_messageLine_38 ?_
    refine r_iconst C (v := 4) rfl dX11_messageLine_42 ?_
    obtain ⟨t8, ht8, hF⟩ := lt_e hF
    refine r_callV C (d' := 0) [.int (b2i true), .int 4] (c_X11_must hW (show (sM Ω t6).2.1 = t6 from rfl) true 4 ht8 rfl) myX11_must wm6_211 ⟨_, _, _, _, (hW.ok k11), rfl, rfl, rfl, rfl⟩ rfl (kR rfl) (by decide) (kR rfl) rfl dX11_messageLine_43 ?_
    refine r_aload_n C (k := 1) rfl rfl dX11_messageLine_46 ?_
    refine og_11_15 C (hW.ok k11) (show (sM Ω t8).2.1 = t8 from rfl) wm7_82 dX11_messageLine_47 ?_
    refine r_if_eq C (tgt := 54) rfl dX11_messageLine_50 (fun hc => ?_) (fun hc => ?_)
    · rw [if_pos hc] at hF
      refine r_aload_n C (k := 1) rfl rfl dX11_messageLine_54 ?_
      obtain ⟨t10, ht10, hF⟩ := lt_e hF
      refine r_callV C (d' := 0) [] (c_X11_goesPast hW (show (sM Ω t8).2.1 = t8 from rfl) ht10 rfl) myX11_goesPast wm6_215 ⟨_, _, _, _, (hW.ok k11), rfl, rfl, rfl, rfl⟩ rfl (kR rfl) (by decide) (kR rfl) rfl dX11_messageLine_55 ?_
      refine r_aload_n C (k := 1) rfl rfl dX11_messageLine_58 ?_
      refine r_iload_n C (k := 0) rfl rfl dX11_messageLine_59 ?_
      obtain ⟨v11, t12, ht12, hF⟩ := ob_e hF
      refine r_callV C (d' := 1) [.int v3] (c_X11_messageNow hW (show (sM Ω t10).2.1 = t10 from rfl) N v3 ht12 rfl) myX11_messageNow wm7_52 ⟨_, _, _, _, (hW.ok k11), rfl, rfl, rfl, rfl⟩ rfl (kR rfl) (by decide) (kR rfl) rfl dX11_messageLine_60 ?_
      refine r_istore_n C (lo' := [(2, .int (b2i v11)), (1, .int v3), (0, .ref (wAd w (11, 12, 0, 0)))]) rfl (by decide) rfl dX11_messageLine_63 ?_
      cases hF
      exact r_return C dX11_messageLine_64
    · rw [if_neg hc] at hF
      cases hF
      exact r_return C dX11_messageLine_53
  · rw [if_pos hc] at hF
    refine r_aload_n C (k := 1) rfl rfl dX11_messageLine_23 ?_
    refine og_11_0 C (hW.ok k11) wm7_67 dX11_messageLine_24 ?_
    refine r_bipush C (v := 12) rfl dX11_messageLine_27 ?_
    refine r_iload_n C (k := 0) rfl rfl dX11_messageLine_29 ?_
    refine r_iadd C dX11_messageLine_30 ?_
    obtain ⟨b13, hF⟩ := gd_e hF
    refine m_ald C (hW.ok (k12 (a := 0) (by unfold okMa; decide))) (show (sM Ω t6).2.1 = t6 from rfl) rfl b13 dX11_messageLine_31 ?_
    refine r_bipush C (v := 8) rfl dX11_messageLine_32 ?_
    refine r_icmp_ge C (tgt := 41) rfl dX11_messageLine_34 (fun hc => ?_) (fun hc => ?_)
    · rw [if_pos hc] at hF
      refine r_iconst C (v := 0) rfl dX11_messageLine_41 ?_
      refine r_iconst C (v := 4) rfl dX11_messageLine_42 ?_
      obtain ⟨t15, ht15, hF⟩ := lt_e hF
      refine r_callV C (d' := 0) [.int (b2i false), .int 4] (c_X11_must hW (show (sM Ω t6).2.1 = t6 from rfl) false 4 ht15 rfl) myX11_must wm6_211 ⟨_, _, _, _, (hW.ok k11), rfl, rfl, rfl, rfl⟩ rfl (kR rfl) (by decide) (kR rfl) rfl dX11_messageLine_43 ?_
      refine r_aload_n C (k := 1) rfl rfl dX11_messageLine_46 ?_
      refine og_11_15 C (hW.ok k11) (show (sM Ω t15).2.1 = t15 from rfl) wm7_82 dX11_messageLine_47 ?_
      refine r_if_eq C (tgt := 54) rfl dX11_messageLine_50 (fun hc => ?_) (fun hc => ?_)
      · rw [if_pos hc] at hF
        refine r_aload_n C (k := 1) rfl rfl dX11_messageLine_54 ?_
        obtain ⟨t17, ht17, hF⟩ := lt_e hF
        refine r_callV C (d' := 0) [] (c_X11_goesPast hW (show (sM Ω t15).2.1 = t15 from rfl) ht17 rfl) myX11_goesPast wm6_215 ⟨_, _, _, _, (hW.ok k11), rfl, rfl, rfl, rfl⟩ rfl (kR rfl) (by decide) (kR rfl) rfl dX11_messageLine_55 ?_
        refine r_aload_n C (k := 1) rfl rfl dX11_messageLine_58 ?_
        refine r_iload_n C (k := 0) rfl rfl dX11_messageLine_59 ?_
        obtain ⟨v18, t19, ht19, hF⟩ := ob_e hF
        refine r_callV C (d' := 1) [.int v3] (c_X11_messageNow hW (show (sM Ω t17).2.1 = t17 from rfl) N v3 ht19 rfl) myX11_messageNow wm7_52 ⟨_, _, _, _, (hW.ok k11), rfl, rfl, rfl, rfl⟩ rfl (kR rfl) (by decide) (kR rfl) rfl dX11_messageLine_60 ?_
        refine r_istore_n C (lo' := [(2, .int (b2i v18)), (1, .int v3), (0, .ref (wAd w (11, 12, 0, 0)))]) rfl (by decide) rfl dX11_messageLine_63 ?_
        cases hF
        exact r_return C dX11_messageLine_64
      · rw [if_neg hc] at hF
        cases hF
        exact r_return C dX11_messageLine_53
    · rw [if_neg hc] at hF
      refine r_iconst C (v := 1) rfl dX11_messageLine_37 ?_
      refine r_goto C (tgt := 42) rfl dX11_messageLine_38 ?_
      refine r_iconst C (v := 4) rfl dX11_messageLine_42 ?_
      obtain ⟨t21, ht21, hF⟩ := lt_e hF
      refine r_callV C (d' := 0) [.int (b2i true), .int 4] (c_X11_must hW (show (sM Ω t6).2.1 = t6 from rfl) true 4 ht21 rfl) myX11_must wm6_211 ⟨_, _, _, _, (hW.ok k11), rfl, rfl, rfl, rfl⟩ rfl (kR rfl) (by decide) (kR rfl) rfl dX11_messageLine_43 ?_
      refine r_aload_n C (k := 1) rfl rfl dX11_messageLine_46 ?_
      refine og_11_15 C (hW.ok k11) (show (sM Ω t21).2.1 = t21 from rfl) wm7_82 dX11_messageLine_47 ?_
      refine r_if_eq C (tgt := 54) rfl dX11_messageLine_50 (fun hc => ?_) (fun hc => ?_)
      · rw [if_pos hc] at hF
        refine r_aload_n C (k := 1) rfl rfl dX11_messageLine_54 ?_
        obtain ⟨t23, ht23, hF⟩ := lt_e hF
        refine r_callV C (d' := 0) [] (c_X11_goesPast hW (show (sM Ω t21).2.1 = t21 from rfl) ht23 rfl) myX11_goesPast wm6_215 ⟨_, _, _, _, (hW.ok k11), rfl, rfl, rfl, rfl⟩ rfl (kR rfl) (by decide) (kR rfl) rfl dX11_messageLine_55 ?_
        refine r_aload_n C (k := 1) rfl rfl dX11_messageLine_58 ?_
        refine r_iload_n C (k := 0) rfl rfl dX11_messageLine_59 ?_
        obtain ⟨v24, t25, ht25, hF⟩ := ob_e hF
        refine r_callV C (d' := 1) [.int v3] (c_X11_messageNow hW (show (sM Ω t23).2.1 = t23 from rfl) N v3 ht25 rfl) myX11_messageNow wm7_52 ⟨_, _, _, _, (hW.ok k11), rfl, rfl, rfl, rfl⟩ rfl (kR rfl) (by decide) (kR rfl) rfl dX11_messageLine_60 ?_
        refine r_istore_n C (lo' := [(2, .int (b2i v24)), (1, .int v3), (0, .ref (wAd w (11, 12, 0, 0)))]) rfl (by decide) rfl dX11_messageLine_63 ?_
        cases hF
        exact r_return C dX11_messageLine_64
      · rw [if_neg hc] at hF
        cases hF
        exact r_return C dX11_messageLine_53
theorem dX11_wordOf_0 : decode cX11_wordOf 0 = .ok (.aload_n 0, 1) := by decide +kernel
theorem dX11_wordOf_1 : decode cX11_wordOf 1 = .ok (.invokevirtual 287, 3) := by decide +kernel
theorem dX11_wordOf_4 : decode cX11_wordOf 4 = .ok (.aload_n 0, 1) := by decide +kernel
theorem dX11_wordOf_5 : decode cX11_wordOf 5 = .ok (.getfield 244, 3) := by decide +kernel
theorem dX11_wordOf_8 : decode cX11_wordOf 8 = .ok (.ifCond .eq 4, 3) := by decide +kernel
theorem dX11_wordOf_11 : decode cX11_wordOf 11 = .ok (.return_, 1) := by decide +kernel
theorem dX11_wordOf_12 : decode cX11_wordOf 12 = .ok (.aload_n 0, 1) := by decide +kernel
theorem dX11_wordOf_13 : decode cX11_wordOf 13 = .ok (.invokevirtual 261, 3) := by decide +kernel
theorem dX11_wordOf_16 : decode cX11_wordOf 16 = .ok (.iconst 0, 1) := by decide +kernel
theorem dX11_wordOf_17 : decode cX11_wordOf 17 = .ok (.istore_n 2, 1) := by decide +kernel
theorem dX11_wordOf_18 : decode cX11_wordOf 18 = .ok (.iload_n 2, 1) := by decide +kernel
theorem dX11_wordOf_19 : decode cX11_wordOf 19 = .ok (.bipush 13, 2) := by decide +kernel
theorem dX11_wordOf_21 : decode cX11_wordOf 21 = .ok (.if_icmp .ge 23, 3) := by decide +kernel
theorem dX11_wordOf_24 : decode cX11_wordOf 24 = .ok (.aload_n 0, 1) := by decide +kernel
theorem dX11_wordOf_25 : decode cX11_wordOf 25 = .ok (.getfield 35, 3) := by decide +kernel
theorem dX11_wordOf_28 : decode cX11_wordOf 28 = .ok (.iload_n 1, 1) := by decide +kernel
theorem dX11_wordOf_29 : decode cX11_wordOf 29 = .ok (.iload_n 2, 1) := by decide +kernel
theorem dX11_wordOf_30 : decode cX11_wordOf 30 = .ok (.iadd, 1) := by decide +kernel
theorem dX11_wordOf_31 : decode cX11_wordOf 31 = .ok (.aload_n 0, 1) := by decide +kernel
theorem dX11_wordOf_32 : decode cX11_wordOf 32 = .ok (.getfield 25, 3) := by decide +kernel
theorem dX11_wordOf_35 : decode cX11_wordOf 35 = .ok (.iload_n 2, 1) := by decide +kernel
theorem dX11_wordOf_36 : decode cX11_wordOf 36 = .ok (.iaload, 1) := by decide +kernel
theorem dX11_wordOf_37 : decode cX11_wordOf 37 = .ok (.iastore, 1) := by decide +kernel
theorem dX11_wordOf_38 : decode cX11_wordOf 38 = .ok (.iinc 2 1, 3) := by decide +kernel
theorem dX11_wordOf_41 : decode cX11_wordOf 41 = .ok (.goto (-23), 3) := by decide +kernel
theorem dX11_wordOf_44 : decode cX11_wordOf 44 = .ok (.return_, 1) := by decide +kernel
def st_X11_wordOf_18 (N : Nat) (l1 : Int32) (l2 : Int32) (t : HV) : Option ((Int32 × HV) ⊕ (HV)) := (if 13 ≤ l2 then some (.inr t) else (if vpb l2 13 = true then (if vpb (l1 + l2) 480 = true then (lt (aw t 19 (l1 + l2) (ag t 9 l2)) fun t7 => some (.inl ((l2 + 1), t7))) else none) else none))
def F_X11_wordOf (N : Nat) (a1 : Int32) (t : HV) : Option (HV) := (ob1 (F_X11_wordHere N t) fun t2 => (if (t2.1 15) = 0 then (lt (F_X11_goesPast t2) fun t4 => (lpN N (fun z => st_X11_wordOf_18 N a1 z.1 z.2) (0, t4))) else some t2))
theorem lp_X11_wordOf_18 {w : WP} (hW : gWM w) {Ω : OM}   (l1 : Int32) {N : Nat} {X : CX} (C : gC w X cX11_wordOf "HedgeMessagesModel" none 3 3) {t' : HV}  : ∀ (n : Nat) (l2 : Int32) (t : HV), lpN n (fun z : Int32 × HV => st_X11_wordOf_18 N l1 z.1 z.2) (l2, t) = some t' → gV w X (none, cA w (sM Ω t')) (cA w (sM Ω t)) 18 [(0, .ref (wAd w (11, 12, 0, 0))), (1, .int l1), (2, .int l2)] [] := by
  intro n
  induction n with
  | zero => intro l2 t hL; exact lpN_0 hL
  | succ n ih =>
    intro l2 t hL
    obtain ⟨q9, hF, hL⟩ := lpN_e hL
    change st_X11_wordOf_18 N l1 l2 t = some q9 at hF
    unfold st_X11_wordOf_18 at hF
    refine r_iload_n C (k := 2) rfl rfl dX11_wordOf_18 ?_
    refine r_bipush C (v := 13) rfl dX11_wordOf_19 ?_
    refine r_icmp_ge C (tgt := 44) rfl dX11_wordOf_21 (fun hc => ?_) (fun hc => ?_)
    · rw [if_pos hc] at hF
      cases hF
      change some _ = some _ at hL
      cases hL
      exact r_return C dX11_wordOf_44
    · rw [if_neg hc] at hF
      refine r_aload_n C (k := 0) rfl rfl dX11_wordOf_24 ?_
      refine og_11_19 C (hW.ok k11) wm7_86 dX11_wordOf_25 ?_
      refine r_iload_n C (k := 1) rfl rfl dX11_wordOf_28 ?_
      refine r_iload_n C (k := 2) rfl rfl dX11_wordOf_29 ?_
      refine r_iadd C dX11_wordOf_30 ?_
      refine r_aload_n C (k := 0) rfl rfl dX11_wordOf_31 ?_
      refine og_11_9 C (hW.ok k11) wm7_76 dX11_wordOf_32 ?_
      refine r_iload_n C (k := 2) rfl rfl dX11_wordOf_35 ?_
      obtain ⟨b5, hF⟩ := gd_e hF
      refine m_ald C (hW.ok (k12 (a := 9) (by unfold okMa; decide))) (show (sM Ω t).2.1 = t from rfl) rfl b5 dX11_wordOf_36 ?_
      obtain ⟨b6, hF⟩ := gd_e hF
      obtain ⟨t7, et7, hF⟩ := lt_e hF
      refine m_ast C hW.x (hW.fr (k12 (a := 19) (by unfold okMa; decide))) (show (sM Ω t).2.1 = t from rfl) rfl b6 dX11_wordOf_37 (congrArg (sM Ω) et7) ?_
      refine r_iinc C (k := 2) (v := (l2 + 1)) (lo' := [(2, .int (l2 + 1)), (0, .ref (wAd w (11, 12, 0, 0))), (1, .int l1)]) rfl rfl (by decide) rfl dX11_wordOf_38 ?_
      refine r_goto C (tgt := 18) rfl dX11_wordOf_41 ?_
      cases hF
      change lpN n _ _ = some _ at hL
      refine r_lo [1, 2, 0] (lo' := [(0, .ref (wAd w (11, 12, 0, 0))), (1, .int l1), (2, .int (l2 + 1))]) rfl ?_
      exact ih (l2 + 1) t7 hL
theorem c_X11_wordOf {w : WP} (hW : gWM w) {Ω : OM}  {t : HV} (e : Ω.2.1 = t) (N : Nat) (a1 : Int32) {t' : HV} (hF : F_X11_wordOf N a1 t = some t') {Ω' : OM} (e2 : (sM Ω t') = Ω') : gM w 3 yX11_wordOf cX11_wordOf 3 none [.ref (wAd w (11, 12, 0, 0)), .int a1] (cA w Ω) none (cA w Ω') := by
  refine gM_of "HedgeMessagesModel" rfl (by decide) (kR rfl) fun X C => ?_
  unfold F_X11_wordOf at hF
  subst e2
  show gV w X _ _ 0 [(0, .ref (wAd w (11, 12, 0, 0))), (1, .int a1)] []
  refine r_ct (ct' := cA w (sM Ω t)) (congrArg (cA w) (sM_i e).symm) ?_
  refine r_aload_n C (k := 0) rfl rfl dX11_wordOf_0 ?_
  obtain ⟨t2, ht2, hF⟩ := ob1_e hF
  refine r_callV C (d' := 2) [] (c_X11_wordHere hW (show (sM Ω t).2.1 = t from rfl) N ht2 rfl) myX11_wordHere wm7_43 ⟨_, _, _, _, (hW.ok k11), rfl, rfl, rfl, rfl⟩ rfl (kR rfl) (by decide) (kR rfl) rfl dX11_wordOf_1 ?_
  refine r_aload_n C (k := 0) rfl rfl dX11_wordOf_4 ?_
  refine og_11_15 C (hW.ok k11) (show (sM Ω t2).2.1 = t2 from rfl) wm7_82 dX11_wordOf_5 ?_
  refine r_if_eq C (tgt := 12) rfl dX11_wordOf_8 (fun hc => ?_) (fun hc => ?_)
  · rw [if_pos hc] at hF
    refine r_aload_n C (k := 0) rfl rfl dX11_wordOf_12 ?_
    obtain ⟨t4, ht4, hF⟩ := lt_e hF
    refine r_callV C (d' := 0) [] (c_X11_goesPast hW (show (sM Ω t2).2.1 = t2 from rfl) ht4 rfl) myX11_goesPast wm6_215 ⟨_, _, _, _, (hW.ok k11), rfl, rfl, rfl, rfl⟩ rfl (kR rfl) (by decide) (kR rfl) rfl dX11_wordOf_13 ?_
    refine r_iconst C (v := 0) rfl dX11_wordOf_16 ?_
    refine r_istore_n C (lo' := [(2, .int 0), (0, .ref (wAd w (11, 12, 0, 0))), (1, .int a1)]) rfl (by decide) rfl dX11_wordOf_17 ?_
    refine r_lo [1, 2, 0] (lo' := [(0, .ref (wAd w (11, 12, 0, 0))), (1, .int a1), (2, .int 0)]) rfl ?_
    exact lp_X11_wordOf_18 hW a1 C N 0 t4 hF
  · rw [if_neg hc] at hF
    cases hF
    exact r_return C dX11_wordOf_11
theorem dX11_slotParts_0 : decode cX11_slotParts 0 = .ok (.aload_n 0, 1) := by decide +kernel
theorem dX11_slotParts_1 : decode cX11_slotParts 1 = .ok (.getfield 35, 3) := by decide +kernel
theorem dX11_slotParts_4 : decode cX11_slotParts 4 = .ok (.iload_n 2, 1) := by decide +kernel
theorem dX11_slotParts_5 : decode cX11_slotParts 5 = .ok (.aload_n 0, 1) := by decide +kernel
theorem dX11_slotParts_6 : decode cX11_slotParts 6 = .ok (.iconst 0, 1) := by decide +kernel
theorem dX11_slotParts_7 : decode cX11_slotParts 7 = .ok (.bipush 39, 2) := by decide +kernel
theorem dX11_slotParts_9 : decode cX11_slotParts 9 = .ok (.invokevirtual 278, 3) := by decide +kernel
theorem dX11_slotParts_12 : decode cX11_slotParts 12 = .ok (.iastore, 1) := by decide +kernel
theorem dX11_slotParts_13 : decode cX11_slotParts 13 = .ok (.iload_n 1, 1) := by decide +kernel
theorem dX11_slotParts_14 : decode cX11_slotParts 14 = .ok (.tableswitch 75 0 3 #[30, 75, 43, 59], 30) := by decide +kernel
theorem dX11_slotParts_44 : decode cX11_slotParts 44 = .ok (.aload_n 0, 1) := by decide +kernel
theorem dX11_slotParts_45 : decode cX11_slotParts 45 = .ok (.getfield 35, 3) := by decide +kernel
theorem dX11_slotParts_48 : decode cX11_slotParts 48 = .ok (.iload_n 2, 1) := by decide +kernel
theorem dX11_slotParts_49 : decode cX11_slotParts 49 = .ok (.iconst 1, 1) := by decide +kernel
theorem dX11_slotParts_50 : decode cX11_slotParts 50 = .ok (.iadd, 1) := by decide +kernel
theorem dX11_slotParts_51 : decode cX11_slotParts 51 = .ok (.aload_n 0, 1) := by decide +kernel
theorem dX11_slotParts_52 : decode cX11_slotParts 52 = .ok (.invokevirtual 284, 3) := by decide +kernel
theorem dX11_slotParts_55 : decode cX11_slotParts 55 = .ok (.iastore, 1) := by decide +kernel
theorem dX11_slotParts_56 : decode cX11_slotParts 56 = .ok (.return_, 1) := by decide +kernel
theorem dX11_slotParts_57 : decode cX11_slotParts 57 = .ok (.aload_n 0, 1) := by decide +kernel
theorem dX11_slotParts_58 : decode cX11_slotParts 58 = .ok (.getfield 35, 3) := by decide +kernel
theorem dX11_slotParts_61 : decode cX11_slotParts 61 = .ok (.iload_n 2, 1) := by decide +kernel
theorem dX11_slotParts_62 : decode cX11_slotParts 62 = .ok (.iconst 1, 1) := by decide +kernel
theorem dX11_slotParts_63 : decode cX11_slotParts 63 = .ok (.iadd, 1) := by decide +kernel
theorem dX11_slotParts_64 : decode cX11_slotParts 64 = .ok (.aload_n 0, 1) := by decide +kernel
theorem dX11_slotParts_65 : decode cX11_slotParts 65 = .ok (.iconst 1, 1) := by decide +kernel
theorem dX11_slotParts_66 : decode cX11_slotParts 66 = .ok (.bipush 99, 2) := by decide +kernel
theorem dX11_slotParts_68 : decode cX11_slotParts 68 = .ok (.invokevirtual 278, 3) := by decide +kernel
theorem dX11_slotParts_71 : decode cX11_slotParts 71 = .ok (.iastore, 1) := by decide +kernel
theorem dX11_slotParts_72 : decode cX11_slotParts 72 = .ok (.return_, 1) := by decide +kernel
theorem dX11_slotParts_73 : decode cX11_slotParts 73 = .ok (.aload_n 0, 1) := by decide +kernel
theorem dX11_slotParts_74 : decode cX11_slotParts 74 = .ok (.getfield 35, 3) := by decide +kernel
theorem dX11_slotParts_77 : decode cX11_slotParts 77 = .ok (.iload_n 2, 1) := by decide +kernel
theorem dX11_slotParts_78 : decode cX11_slotParts 78 = .ok (.iconst 1, 1) := by decide +kernel
theorem dX11_slotParts_79 : decode cX11_slotParts 79 = .ok (.iadd, 1) := by decide +kernel
theorem dX11_slotParts_80 : decode cX11_slotParts 80 = .ok (.aload_n 0, 1) := by decide +kernel
theorem dX11_slotParts_81 : decode cX11_slotParts 81 = .ok (.iconst 1, 1) := by decide +kernel
theorem dX11_slotParts_82 : decode cX11_slotParts 82 = .ok (.bipush 30, 2) := by decide +kernel
theorem dX11_slotParts_84 : decode cX11_slotParts 84 = .ok (.invokevirtual 278, 3) := by decide +kernel
theorem dX11_slotParts_87 : decode cX11_slotParts 87 = .ok (.iastore, 1) := by decide +kernel
theorem dX11_slotParts_88 : decode cX11_slotParts 88 = .ok (.return_, 1) := by decide +kernel
theorem dX11_slotParts_89 : decode cX11_slotParts 89 = .ok (.return_, 1) := by decide +kernel
def F_X11_slotParts (N : Nat) (a1 : Int32) (a2 : Int32) (t : HV) : Option (HV) := (ob (F_X11_number N 0 39 t) fun v1 t2 => (if vpb a2 480 = true then (lt (aw t2 19 a2 v1) fun t4 => (if a1 = 0 then (ob (F_X11_letterHere N t4) fun v5 t6 => (if vpb (a2 + 1) 480 = true then (lt (aw t6 19 (a2 + 1) v5) fun t8 => some t8) else none)) else (if a1 = 1 then some t4 else (if a1 = 2 then (ob (F_X11_number N 1 99 t4) fun v9 t10 => (if vpb (a2 + 1) 480 = true then (lt (aw t10 19 (a2 + 1) v9) fun t12 => some t12) else none)) else (if a1 = 3 then (ob (F_X11_number N 1 30 t4) fun v13 t14 => (if vpb (a2 + 1) 480 = true then (lt (aw t14 19 (a2 + 1) v13) fun t16 => some t16) else none)) else some t4))))) else none))
theorem c_X11_slotParts {w : WP} (hW : gWM w) {Ω : OM}  {t : HV} (e : Ω.2.1 = t) (N : Nat) (a1 : Int32) (a2 : Int32) {t' : HV} (hF : F_X11_slotParts N a1 a2 t = some t') {Ω' : OM} (e2 : (sM Ω t') = Ω') : gM w 3 yX11_slotParts cX11_slotParts 3 none [.ref (wAd w (11, 12, 0, 0)), .int a1, .int a2] (cA w Ω) none (cA w Ω') := by
  refine gM_of "HedgeMessagesModel" rfl (by decide) (kR rfl) fun X C => ?_
  unfold F_X11_slotParts at hF
  subst e2
  show gV w X _ _ 0 [(0, .ref (wAd w (11, 12, 0, 0))), (1, .int a1), (2, .int a2)] []
  refine r_ct (ct' := cA w (sM Ω t)) (congrArg (cA w) (sM_i e).symm) ?_
  refine r_aload_n C (k := 0) rfl rfl dX11_slotParts_0 ?_
  refine og_11_19 C (hW.ok k11) wm7_86 dX11_slotParts_1 ?_
  refine r_iload_n C (k := 2) rfl rfl dX11_slotParts_4 ?_
  refine r_aload_n C (k := 0) rfl rfl dX11_slotParts_5 ?_
  refine r_iconst C (v := 0) rfl dX11_slotParts_6 ?_
  refine r_bipush C (v := 39) rfl dX11_slotParts_7 ?_
  obtain ⟨v1, t2, ht2, hF⟩ := ob_e hF
  refine r_callV C (d' := 2) [.int 0, .int 39] (c_X11_number hW (show (sM Ω t).2.1 = t from rfl) N 0 39 ht2 rfl) myX11_number wm6_219 ⟨_, _, _, _, (hW.ok k11), rfl, rfl, rfl, rfl⟩ rfl (kR rfl) (by decide) (kR rfl) rfl dX11_slotParts_9 ?_
  obtain ⟨b3, hF⟩ := gd_e hF
  obtain ⟨t4, et4, hF⟩ := lt_e hF
  refine m_ast C hW.x (hW.fr (k12 (a := 19) (by unfold okMa; decide))) (show (sM Ω t2).2.1 = t2 from rfl) rfl b3 dX11_slotParts_12 (congrArg (sM Ω) et4) ?_
  refine r_iload_n C (k := 1) rfl rfl dX11_slotParts_13 ?_
  by_cases z0 : a1 = 0
  · rw [if_pos z0] at hF
    refine r_tabIn C (v := 0) (tgt := 44) z0 dX11_slotParts_14 (by decide) (by decide) rfl rfl ?_
    refine r_aload_n C (k := 0) rfl rfl dX11_slotParts_44 ?_
    refine og_11_19 C (hW.ok k11) wm7_86 dX11_slotParts_45 ?_
    refine r_iload_n C (k := 2) rfl rfl dX11_slotParts_48 ?_
    refine r_iconst C (v := 1) rfl dX11_slotParts_49 ?_
    refine r_iadd C dX11_slotParts_50 ?_
    refine r_aload_n C (k := 0) rfl rfl dX11_slotParts_51 ?_
    obtain ⟨v5, t6, ht6, hF⟩ := ob_e hF
    refine r_callV C (d' := 2) [] (c_X11_letterHere hW (show (sM Ω t4).2.1 = t4 from rfl) N ht6 rfl) myX11_letterHere wm7_6 ⟨_, _, _, _, (hW.ok k11), rfl, rfl, rfl, rfl⟩ rfl (kR rfl) (by decide) (kR rfl) rfl dX11_slotParts_52 ?_
    obtain ⟨b7, hF⟩ := gd_e hF
    obtain ⟨t8, et8, hF⟩ := lt_e hF
    refine m_ast C hW.x (hW.fr (k12 (a := 19) (by unfold okMa; decide))) (show (sM Ω t6).2.1 = t6 from rfl) rfl b7 dX11_slotParts_55 (congrArg (sM Ω) et8) ?_
    cases hF
    exact r_return C dX11_slotParts_56
  rw [if_neg z0] at hF
  by_cases z1 : a1 = 1
  · rw [if_pos z1] at hF
    refine r_tabIn C (v := 1) (tgt := 89) z1 dX11_slotParts_14 (by decide) (by decide) rfl rfl ?_
    cases hF
    exact r_return C dX11_slotParts_89
  rw [if_neg z1] at hF
  by_cases z2 : a1 = 2
  · rw [if_pos z2] at hF
    refine r_tabIn C (v := 2) (tgt := 57) z2 dX11_slotParts_14 (by decide) (by decide) rfl rfl ?_
    refine r_aload_n C (k := 0) rfl rfl dX11_slotParts_57 ?_
    refine og_11_19 C (hW.ok k11) wm7_86 dX11_slotParts_58 ?_
    refine r_iload_n C (k := 2) rfl rfl dX11_slotParts_61 ?_
    refine r_iconst C (v := 1) rfl dX11_slotParts_62 ?_
    refine r_iadd C dX11_slotParts_63 ?_
    refine r_aload_n C (k := 0) rfl rfl dX11_slotParts_64 ?_
    refine r_iconst C (v := 1) rfl dX11_slotParts_65 ?_
    refine r_bipush C (v := 99) rfl dX11_slotParts_66 ?_
    obtain ⟨v9, t10, ht10, hF⟩ := ob_e hF
    refine r_callV C (d' := 2) [.int 1, .int 99] (c_X11_number hW (show (sM Ω t4).2.1 = t4 from rfl) N 1 99 ht10 rfl) myX11_number wm6_219 ⟨_, _, _, _, (hW.ok k11), rfl, rfl, rfl, rfl⟩ rfl (kR rfl) (by decide) (kR rfl) rfl dX11_slotParts_68 ?_
    obtain ⟨b11, hF⟩ := gd_e hF
    obtain ⟨t12, et12, hF⟩ := lt_e hF
    refine m_ast C hW.x (hW.fr (k12 (a := 19) (by unfold okMa; decide))) (show (sM Ω t10).2.1 = t10 from rfl) rfl b11 dX11_slotParts_71 (congrArg (sM Ω) et12) ?_
    cases hF
    exact r_return C dX11_slotParts_72
  rw [if_neg z2] at hF
  by_cases z3 : a1 = 3
  · rw [if_pos z3] at hF
    refine r_tabIn C (v := 3) (tgt := 73) z3 dX11_slotParts_14 (by decide) (by decide) rfl rfl ?_
    refine r_aload_n C (k := 0) rfl rfl dX11_slotParts_73 ?_
    refine og_11_19 C (hW.ok k11) wm7_86 dX11_slotParts_74 ?_
    refine r_iload_n C (k := 2) rfl rfl dX11_slotParts_77 ?_
    refine r_iconst C (v := 1) rfl dX11_slotParts_78 ?_
    refine r_iadd C dX11_slotParts_79 ?_
    refine r_aload_n C (k := 0) rfl rfl dX11_slotParts_80 ?_
    refine r_iconst C (v := 1) rfl dX11_slotParts_81 ?_
    refine r_bipush C (v := 30) rfl dX11_slotParts_82 ?_
    obtain ⟨v13, t14, ht14, hF⟩ := ob_e hF
    refine r_callV C (d' := 2) [.int 1, .int 30] (c_X11_number hW (show (sM Ω t4).2.1 = t4 from rfl) N 1 30 ht14 rfl) myX11_number wm6_219 ⟨_, _, _, _, (hW.ok k11), rfl, rfl, rfl, rfl⟩ rfl (kR rfl) (by decide) (kR rfl) rfl dX11_slotParts_84 ?_
    obtain ⟨b15, hF⟩ := gd_e hF
    obtain ⟨t16, et16, hF⟩ := lt_e hF
    refine m_ast C hW.x (hW.fr (k12 (a := 19) (by unfold okMa; decide))) (show (sM Ω t14).2.1 = t14 from rfl) rfl b15 dX11_slotParts_87 (congrArg (sM Ω) et16) ?_
    cases hF
    exact r_return C dX11_slotParts_88
  rw [if_neg z3] at hF
  refine r_tabOut C (tgt := 89) dX11_slotParts_14 (by have t0 := ne_ti (k := 0) (by decide) z0; have t1 := ne_ti (k := 1) (by decide) z1; have t2 := ne_ti (k := 2) (by decide) z2; have t3 := ne_ti (k := 3) (by decide) z3; omega) rfl ?_
  cases hF
  exact r_return C dX11_slotParts_89
theorem dX11_partsOf_0 : decode cX11_partsOf 0 = .ok (.iload_n 1, 1) := by decide +kernel
theorem dX11_partsOf_1 : decode cX11_partsOf 1 = .ok (.tableswitch 109 4 7 #[31, 53, 81, 95], 31) := by decide +kernel
theorem dX11_partsOf_32 : decode cX11_partsOf 32 = .ok (.aload_n 0, 1) := by decide +kernel
theorem dX11_partsOf_33 : decode cX11_partsOf 33 = .ok (.getfield 35, 3) := by decide +kernel
theorem dX11_partsOf_36 : decode cX11_partsOf 36 = .ok (.iload_n 2, 1) := by decide +kernel
theorem dX11_partsOf_37 : decode cX11_partsOf 37 = .ok (.aload_n 0, 1) := by decide +kernel
theorem dX11_partsOf_38 : decode cX11_partsOf 38 = .ok (.iconst 0, 1) := by decide +kernel
theorem dX11_partsOf_39 : decode cX11_partsOf 39 = .ok (.iconst 1, 1) := by decide +kernel
theorem dX11_partsOf_40 : decode cX11_partsOf 40 = .ok (.invokevirtual 278, 3) := by decide +kernel
theorem dX11_partsOf_43 : decode cX11_partsOf 43 = .ok (.iastore, 1) := by decide +kernel
theorem dX11_partsOf_44 : decode cX11_partsOf 44 = .ok (.aload_n 0, 1) := by decide +kernel
theorem dX11_partsOf_45 : decode cX11_partsOf 45 = .ok (.iload_n 2, 1) := by decide +kernel
theorem dX11_partsOf_46 : decode cX11_partsOf 46 = .ok (.iconst 3, 1) := by decide +kernel
theorem dX11_partsOf_47 : decode cX11_partsOf 47 = .ok (.iadd, 1) := by decide +kernel
theorem dX11_partsOf_48 : decode cX11_partsOf 48 = .ok (.iconst 1, 1) := by decide +kernel
theorem dX11_partsOf_49 : decode cX11_partsOf 49 = .ok (.isub, 1) := by decide +kernel
theorem dX11_partsOf_50 : decode cX11_partsOf 50 = .ok (.invokevirtual 339, 3) := by decide +kernel
theorem dX11_partsOf_53 : decode cX11_partsOf 53 = .ok (.return_, 1) := by decide +kernel
theorem dX11_partsOf_54 : decode cX11_partsOf 54 = .ok (.aload_n 0, 1) := by decide +kernel
theorem dX11_partsOf_55 : decode cX11_partsOf 55 = .ok (.getfield 35, 3) := by decide +kernel
theorem dX11_partsOf_58 : decode cX11_partsOf 58 = .ok (.iload_n 2, 1) := by decide +kernel
theorem dX11_partsOf_59 : decode cX11_partsOf 59 = .ok (.aload_n 0, 1) := by decide +kernel
theorem dX11_partsOf_60 : decode cX11_partsOf 60 = .ok (.iconst 0, 1) := by decide +kernel
theorem dX11_partsOf_61 : decode cX11_partsOf 61 = .ok (.iconst 1, 1) := by decide +kernel
theorem dX11_partsOf_62 : decode cX11_partsOf 62 = .ok (.invokevirtual 278, 3) := by decide +kernel
theorem dX11_partsOf_65 : decode cX11_partsOf 65 = .ok (.iastore, 1) := by decide +kernel
theorem dX11_partsOf_66 : decode cX11_partsOf 66 = .ok (.aload_n 0, 1) := by decide +kernel
theorem dX11_partsOf_67 : decode cX11_partsOf 67 = .ok (.getfield 35, 3) := by decide +kernel
theorem dX11_partsOf_70 : decode cX11_partsOf 70 = .ok (.iload_n 2, 1) := by decide +kernel
theorem dX11_partsOf_71 : decode cX11_partsOf 71 = .ok (.iconst 1, 1) := by decide +kernel
theorem dX11_partsOf_72 : decode cX11_partsOf 72 = .ok (.iadd, 1) := by decide +kernel
theorem dX11_partsOf_73 : decode cX11_partsOf 73 = .ok (.aload_n 0, 1) := by decide +kernel
theorem dX11_partsOf_74 : decode cX11_partsOf 74 = .ok (.iconst 0, 1) := by decide +kernel
theorem dX11_partsOf_75 : decode cX11_partsOf 75 = .ok (.bipush 7, 2) := by decide +kernel
theorem dX11_partsOf_77 : decode cX11_partsOf 77 = .ok (.invokevirtual 278, 3) := by decide +kernel
theorem dX11_partsOf_80 : decode cX11_partsOf 80 = .ok (.iastore, 1) := by decide +kernel
theorem dX11_partsOf_81 : decode cX11_partsOf 81 = .ok (.return_, 1) := by decide +kernel
theorem dX11_partsOf_82 : decode cX11_partsOf 82 = .ok (.aload_n 0, 1) := by decide +kernel
theorem dX11_partsOf_83 : decode cX11_partsOf 83 = .ok (.getfield 35, 3) := by decide +kernel
theorem dX11_partsOf_86 : decode cX11_partsOf 86 = .ok (.iload_n 2, 1) := by decide +kernel
theorem dX11_partsOf_87 : decode cX11_partsOf 87 = .ok (.aload_n 0, 1) := by decide +kernel
theorem dX11_partsOf_88 : decode cX11_partsOf 88 = .ok (.iconst 1, 1) := by decide +kernel
theorem dX11_partsOf_89 : decode cX11_partsOf 89 = .ok (.bipush 12, 2) := by decide +kernel
theorem dX11_partsOf_91 : decode cX11_partsOf 91 = .ok (.invokevirtual 278, 3) := by decide +kernel
theorem dX11_partsOf_94 : decode cX11_partsOf 94 = .ok (.iastore, 1) := by decide +kernel
theorem dX11_partsOf_95 : decode cX11_partsOf 95 = .ok (.return_, 1) := by decide +kernel
theorem dX11_partsOf_96 : decode cX11_partsOf 96 = .ok (.aload_n 0, 1) := by decide +kernel
theorem dX11_partsOf_97 : decode cX11_partsOf 97 = .ok (.getfield 35, 3) := by decide +kernel
theorem dX11_partsOf_100 : decode cX11_partsOf 100 = .ok (.iload_n 2, 1) := by decide +kernel
theorem dX11_partsOf_101 : decode cX11_partsOf 101 = .ok (.aload_n 0, 1) := by decide +kernel
theorem dX11_partsOf_102 : decode cX11_partsOf 102 = .ok (.iconst 1, 1) := by decide +kernel
theorem dX11_partsOf_103 : decode cX11_partsOf 103 = .ok (.bipush 60, 2) := by decide +kernel
theorem dX11_partsOf_105 : decode cX11_partsOf 105 = .ok (.invokevirtual 278, 3) := by decide +kernel
theorem dX11_partsOf_108 : decode cX11_partsOf 108 = .ok (.iastore, 1) := by decide +kernel
theorem dX11_partsOf_109 : decode cX11_partsOf 109 = .ok (.return_, 1) := by decide +kernel
theorem dX11_partsOf_110 : decode cX11_partsOf 110 = .ok (.aload_n 0, 1) := by decide +kernel
theorem dX11_partsOf_111 : decode cX11_partsOf 111 = .ok (.iload_n 1, 1) := by decide +kernel
theorem dX11_partsOf_112 : decode cX11_partsOf 112 = .ok (.iload_n 2, 1) := by decide +kernel
theorem dX11_partsOf_113 : decode cX11_partsOf 113 = .ok (.invokevirtual 342, 3) := by decide +kernel
theorem dX11_partsOf_116 : decode cX11_partsOf 116 = .ok (.return_, 1) := by decide +kernel
def F_X11_partsOf (N : Nat) (a1 : Int32) (a2 : Int32) (t : HV) : Option (HV) := (if a1 = 4 then (ob (F_X11_number N 0 1 t) fun v1 t2 => (if vpb a2 480 = true then (lt (aw t2 19 a2 v1) fun t4 => (ob1 (F_X11_wordOf N ((a2 + 3) - 1) t4) fun t6 => some t6)) else none)) else (if a1 = 5 then (ob (F_X11_number N 0 1 t) fun v7 t8 => (if vpb a2 480 = true then (lt (aw t8 19 a2 v7) fun t10 => (ob (F_X11_number N 0 7 t10) fun v11 t12 => (if vpb (a2 + 1) 480 = true then (lt (aw t12 19 (a2 + 1) v11) fun t14 => some t14) else none))) else none)) else (if a1 = 6 then (ob (F_X11_number N 1 12 t) fun v15 t16 => (if vpb a2 480 = true then (lt (aw t16 19 a2 v15) fun t18 => some t18) else none)) else (if a1 = 7 then (ob (F_X11_number N 1 60 t) fun v19 t20 => (if vpb a2 480 = true then (lt (aw t20 19 a2 v19) fun t22 => some t22) else none)) else (ob1 (F_X11_slotParts N a1 a2 t) fun t24 => some t24)))))
theorem c_X11_partsOf {w : WP} (hW : gWM w) {Ω : OM}  {t : HV} (e : Ω.2.1 = t) (N : Nat) (a1 : Int32) (a2 : Int32) {t' : HV} (hF : F_X11_partsOf N a1 a2 t = some t') {Ω' : OM} (e2 : (sM Ω t') = Ω') : gM w 4 yX11_partsOf cX11_partsOf 3 none [.ref (wAd w (11, 12, 0, 0)), .int a1, .int a2] (cA w Ω) none (cA w Ω') := by
  refine gM_of "HedgeMessagesModel" rfl (by decide) (kR rfl) fun X C => ?_
  unfold F_X11_partsOf at hF
  subst e2
  show gV w X _ _ 0 [(0, .ref (wAd w (11, 12, 0, 0))), (1, .int a1), (2, .int a2)] []
  refine r_ct (ct' := cA w (sM Ω t)) (congrArg (cA w) (sM_i e).symm) ?_
  refine r_iload_n C (k := 1) rfl rfl dX11_partsOf_0 ?_
  by_cases z0 : a1 = 4
  · rw [if_pos z0] at hF
    refine r_tabIn C (v := 4) (tgt := 32) z0 dX11_partsOf_1 (by decide) (by decide) rfl rfl ?_
    refine r_aload_n C (k := 0) rfl rfl dX11_partsOf_32 ?_
    refine og_11_19 C (hW.ok k11) wm7_86 dX11_partsOf_33 ?_
    refine r_iload_n C (k := 2) rfl rfl dX11_partsOf_36 ?_
    refine r_aload_n C (k := 0) rfl rfl dX11_partsOf_37 ?_
    refine r_iconst C (v := 0) rfl dX11_partsOf_38 ?_
    refine r_iconst C (v := 1) rfl dX11_partsOf_39 ?_
    obtain ⟨v1, t2, ht2, hF⟩ := ob_e hF
    refine r_callV C (d' := 2) [.int 0, .int 1] (c_X11_number hW (show (sM Ω t).2.1 = t from rfl) N 0 1 ht2 rfl) myX11_number wm6_219 ⟨_, _, _, _, (hW.ok k11), rfl, rfl, rfl, rfl⟩ rfl (kR rfl) (by decide) (kR rfl) rfl dX11_partsOf_40 ?_
    obtain ⟨b3, hF⟩ := gd_e hF
    obtain ⟨t4, et4, hF⟩ := lt_e hF
    refine m_ast C hW.x (hW.fr (k12 (a := 19) (by unfold okMa; decide))) (show (sM Ω t2).2.1 = t2 from rfl) rfl b3 dX11_partsOf_43 (congrArg (sM Ω) et4) ?_
    refine r_aload_n C (k := 0) rfl rfl dX11_partsOf_44 ?_
    refine r_iload_n C (k := 2) rfl rfl dX11_partsOf_45 ?_
    refine r_iconst C (v := 3) rfl dX11_partsOf_46 ?_
    refine r_iadd C dX11_partsOf_47 ?_
    refine r_iconst C (v := 1) rfl dX11_partsOf_48 ?_
    refine r_isub C dX11_partsOf_49 ?_
    obtain ⟨t6, ht6, hF⟩ := ob1_e hF
    refine r_callV C (d' := 3) [.int ((a2 + 3) - 1)] (c_X11_wordOf hW (show (sM Ω t4).2.1 = t4 from rfl) N ((a2 + 3) - 1) ht6 rfl) myX11_wordOf wm7_188 ⟨_, _, _, _, (hW.ok k11), rfl, rfl, rfl, rfl⟩ rfl (kR rfl) (by decide) (kR rfl) rfl dX11_partsOf_50 ?_
    cases hF
    exact r_return C dX11_partsOf_53
  rw [if_neg z0] at hF
  by_cases z1 : a1 = 5
  · rw [if_pos z1] at hF
    refine r_tabIn C (v := 5) (tgt := 54) z1 dX11_partsOf_1 (by decide) (by decide) rfl rfl ?_
    refine r_aload_n C (k := 0) rfl rfl dX11_partsOf_54 ?_
    refine og_11_19 C (hW.ok k11) wm7_86 dX11_partsOf_55 ?_
    refine r_iload_n C (k := 2) rfl rfl dX11_partsOf_58 ?_
    refine r_aload_n C (k := 0) rfl rfl dX11_partsOf_59 ?_
    refine r_iconst C (v := 0) rfl dX11_partsOf_60 ?_
    refine r_iconst C (v := 1) rfl dX11_partsOf_61 ?_
    obtain ⟨v7, t8, ht8, hF⟩ := ob_e hF
    refine r_callV C (d' := 2) [.int 0, .int 1] (c_X11_number hW (show (sM Ω t).2.1 = t from rfl) N 0 1 ht8 rfl) myX11_number wm6_219 ⟨_, _, _, _, (hW.ok k11), rfl, rfl, rfl, rfl⟩ rfl (kR rfl) (by decide) (kR rfl) rfl dX11_partsOf_62 ?_
    obtain ⟨b9, hF⟩ := gd_e hF
    obtain ⟨t10, et10, hF⟩ := lt_e hF
    refine m_ast C hW.x (hW.fr (k12 (a := 19) (by unfold okMa; decide))) (show (sM Ω t8).2.1 = t8 from rfl) rfl b9 dX11_partsOf_65 (congrArg (sM Ω) et10) ?_
    refine r_aload_n C (k := 0) rfl rfl dX11_partsOf_66 ?_
    refine og_11_19 C (hW.ok k11) wm7_86 dX11_partsOf_67 ?_
    refine r_iload_n C (k := 2) rfl rfl dX11_partsOf_70 ?_
    refine r_iconst C (v := 1) rfl dX11_partsOf_71 ?_
    refine r_iadd C dX11_partsOf_72 ?_
    refine r_aload_n C (k := 0) rfl rfl dX11_partsOf_73 ?_
    refine r_iconst C (v := 0) rfl dX11_partsOf_74 ?_
    refine r_bipush C (v := 7) rfl dX11_partsOf_75 ?_
    obtain ⟨v11, t12, ht12, hF⟩ := ob_e hF
    refine r_callV C (d' := 2) [.int 0, .int 7] (c_X11_number hW (show (sM Ω t10).2.1 = t10 from rfl) N 0 7 ht12 rfl) myX11_number wm6_219 ⟨_, _, _, _, (hW.ok k11), rfl, rfl, rfl, rfl⟩ rfl (kR rfl) (by decide) (kR rfl) rfl dX11_partsOf_77 ?_
    obtain ⟨b13, hF⟩ := gd_e hF
    obtain ⟨t14, et14, hF⟩ := lt_e hF
    refine m_ast C hW.x (hW.fr (k12 (a := 19) (by unfold okMa; decide))) (show (sM Ω t12).2.1 = t12 from rfl) rfl b13 dX11_partsOf_80 (congrArg (sM Ω) et14) ?_
    cases hF
    exact r_return C dX11_partsOf_81
  rw [if_neg z1] at hF
  by_cases z2 : a1 = 6
  · rw [if_pos z2] at hF
    refine r_tabIn C (v := 6) (tgt := 82) z2 dX11_partsOf_1 (by decide) (by decide) rfl rfl ?_
    refine r_aload_n C (k := 0) rfl rfl dX11_partsOf_82 ?_
    refine og_11_19 C (hW.ok k11) wm7_86 dX11_partsOf_83 ?_
    refine r_iload_n C (k := 2) rfl rfl dX11_partsOf_86 ?_
    refine r_aload_n C (k := 0) rfl rfl dX11_partsOf_87 ?_
    refine r_iconst C (v := 1) rfl dX11_partsOf_88 ?_
    refine r_bipush C (v := 12) rfl dX11_partsOf_89 ?_
    obtain ⟨v15, t16, ht16, hF⟩ := ob_e hF
    refine r_callV C (d' := 2) [.int 1, .int 12] (c_X11_number hW (show (sM Ω t).2.1 = t from rfl) N 1 12 ht16 rfl) myX11_number wm6_219 ⟨_, _, _, _, (hW.ok k11), rfl, rfl, rfl, rfl⟩ rfl (kR rfl) (by decide) (kR rfl) rfl dX11_partsOf_91 ?_
    obtain ⟨b17, hF⟩ := gd_e hF
    obtain ⟨t18, et18, hF⟩ := lt_e hF
    refine m_ast C hW.x (hW.fr (k12 (a := 19) (by unfold okMa; decide))) (show (sM Ω t16).2.1 = t16 from rfl) rfl b17 dX11_partsOf_94 (congrArg (sM Ω) et18) ?_
    cases hF
    exact r_return C dX11_partsOf_95
  rw [if_neg z2] at hF
  by_cases z3 : a1 = 7
  · rw [if_pos z3] at hF
    refine r_tabIn C (v := 7) (tgt := 96) z3 dX11_partsOf_1 (by decide) (by decide) rfl rfl ?_
    refine r_aload_n C (k := 0) rfl rfl dX11_partsOf_96 ?_
    refine og_11_19 C (hW.ok k11) wm7_86 dX11_partsOf_97 ?_
    refine r_iload_n C (k := 2) rfl rfl dX11_partsOf_100 ?_
    refine r_aload_n C (k := 0) rfl rfl dX11_partsOf_101 ?_
    refine r_iconst C (v := 1) rfl dX11_partsOf_102 ?_
    refine r_bipush C (v := 60) rfl dX11_partsOf_103 ?_
    obtain ⟨v19, t20, ht20, hF⟩ := ob_e hF
    refine r_callV C (d' := 2) [.int 1, .int 60] (c_X11_number hW (show (sM Ω t).2.1 = t from rfl) N 1 60 ht20 rfl) myX11_number wm6_219 ⟨_, _, _, _, (hW.ok k11), rfl, rfl, rfl, rfl⟩ rfl (kR rfl) (by decide) (kR rfl) rfl dX11_partsOf_105 ?_
    obtain ⟨b21, hF⟩ := gd_e hF
    obtain ⟨t22, et22, hF⟩ := lt_e hF
    refine m_ast C hW.x (hW.fr (k12 (a := 19) (by unfold okMa; decide))) (show (sM Ω t20).2.1 = t20 from rfl) rfl b21 dX11_partsOf_108 (congrArg (sM Ω) et22) ?_
    cases hF
    exact r_return C dX11_partsOf_109
  rw [if_neg z3] at hF
  refine r_tabOut C (tgt := 110) dX11_partsOf_1 (by have t0 := ne_ti (k := 4) (by decide) z0; have t1 := ne_ti (k := 5) (by decide) z1; have t2 := ne_ti (k := 6) (by decide) z2; have t3 := ne_ti (k := 7) (by decide) z3; omega) rfl ?_
  refine r_aload_n C (k := 0) rfl rfl dX11_partsOf_110 ?_
  refine r_iload_n C (k := 1) rfl rfl dX11_partsOf_111 ?_
  refine r_iload_n C (k := 2) rfl rfl dX11_partsOf_112 ?_
  obtain ⟨t24, ht24, hF⟩ := ob1_e hF
  refine r_callV C (d' := 3) [.int a1, .int a2] (c_X11_slotParts hW (show (sM Ω t).2.1 = t from rfl) N a1 a2 ht24 rfl) myX11_slotParts wm7_192 ⟨_, _, _, _, (hW.ok k11), rfl, rfl, rfl, rfl⟩ rfl (kR rfl) (by decide) (kR rfl) rfl dX11_partsOf_113 ?_
  cases hF
  exact r_return C dX11_partsOf_116
theorem dX11_doesOne_0 : decode cX11_doesOne 0 = .ok (.aload_n 0, 1) := by decide +kernel
theorem dX11_doesOne_1 : decode cX11_doesOne 1 = .ok (.getfield 35, 3) := by decide +kernel
theorem dX11_doesOne_4 : decode cX11_doesOne 4 = .ok (.iload_n 1, 1) := by decide +kernel
theorem dX11_doesOne_5 : decode cX11_doesOne 5 = .ok (.iconst 1, 1) := by decide +kernel
theorem dX11_doesOne_6 : decode cX11_doesOne 6 = .ok (.iadd, 1) := by decide +kernel
theorem dX11_doesOne_7 : decode cX11_doesOne 7 = .ok (.iaload, 1) := by decide +kernel
theorem dX11_doesOne_8 : decode cX11_doesOne 8 = .ok (.istore_n 2, 1) := by decide +kernel
theorem dX11_doesOne_9 : decode cX11_doesOne 9 = .ok (.aload_n 0, 1) := by decide +kernel
theorem dX11_doesOne_10 : decode cX11_doesOne 10 = .ok (.getfield 35, 3) := by decide +kernel
theorem dX11_doesOne_13 : decode cX11_doesOne 13 = .ok (.iload_n 1, 1) := by decide +kernel
theorem dX11_doesOne_14 : decode cX11_doesOne 14 = .ok (.iconst 2, 1) := by decide +kernel
theorem dX11_doesOne_15 : decode cX11_doesOne 15 = .ok (.iadd, 1) := by decide +kernel
theorem dX11_doesOne_16 : decode cX11_doesOne 16 = .ok (.iaload, 1) := by decide +kernel
theorem dX11_doesOne_17 : decode cX11_doesOne 17 = .ok (.istore_n 3, 1) := by decide +kernel
theorem dX11_doesOne_18 : decode cX11_doesOne 18 = .ok (.iconst 0, 1) := by decide +kernel
theorem dX11_doesOne_19 : decode cX11_doesOne 19 = .ok (.istore 4, 2) := by decide +kernel
theorem dX11_doesOne_21 : decode cX11_doesOne 21 = .ok (.iload 4, 2) := by decide +kernel
theorem dX11_doesOne_23 : decode cX11_doesOne 23 = .ok (.bipush 13, 2) := by decide +kernel
theorem dX11_doesOne_25 : decode cX11_doesOne 25 = .ok (.if_icmp .ge 27, 3) := by decide +kernel
theorem dX11_doesOne_28 : decode cX11_doesOne 28 = .ok (.aload_n 0, 1) := by decide +kernel
theorem dX11_doesOne_29 : decode cX11_doesOne 29 = .ok (.getfield 25, 3) := by decide +kernel
theorem dX11_doesOne_32 : decode cX11_doesOne 32 = .ok (.iload 4, 2) := by decide +kernel
theorem dX11_doesOne_34 : decode cX11_doesOne 34 = .ok (.aload_n 0, 1) := by decide +kernel
theorem dX11_doesOne_35 : decode cX11_doesOne 35 = .ok (.getfield 35, 3) := by decide +kernel
theorem dX11_doesOne_38 : decode cX11_doesOne 38 = .ok (.iload_n 1, 1) := by decide +kernel
theorem dX11_doesOne_39 : decode cX11_doesOne 39 = .ok (.iconst 3, 1) := by decide +kernel
theorem dX11_doesOne_40 : decode cX11_doesOne 40 = .ok (.iadd, 1) := by decide +kernel
theorem dX11_doesOne_41 : decode cX11_doesOne 41 = .ok (.iload 4, 2) := by decide +kernel
theorem dX11_doesOne_43 : decode cX11_doesOne 43 = .ok (.iadd, 1) := by decide +kernel
theorem dX11_doesOne_44 : decode cX11_doesOne 44 = .ok (.iaload, 1) := by decide +kernel
theorem dX11_doesOne_45 : decode cX11_doesOne 45 = .ok (.iastore, 1) := by decide +kernel
theorem dX11_doesOne_46 : decode cX11_doesOne 46 = .ok (.iinc 4 1, 3) := by decide +kernel
theorem dX11_doesOne_49 : decode cX11_doesOne 49 = .ok (.goto (-28), 3) := by decide +kernel
theorem dX11_doesOne_52 : decode cX11_doesOne 52 = .ok (.aload_n 0, 1) := by decide +kernel
theorem dX11_doesOne_53 : decode cX11_doesOne 53 = .ok (.getfield 35, 3) := by decide +kernel
theorem dX11_doesOne_56 : decode cX11_doesOne 56 = .ok (.iload_n 1, 1) := by decide +kernel
theorem dX11_doesOne_57 : decode cX11_doesOne 57 = .ok (.iaload, 1) := by decide +kernel
theorem dX11_doesOne_58 : decode cX11_doesOne 58 = .ok (.tableswitch 88 0 6 #[42, 49, 55, 62, 69, 75, 82], 42) := by decide +kernel
theorem dX11_doesOne_100 : decode cX11_doesOne 100 = .ok (.aload_n 0, 1) := by decide +kernel
theorem dX11_doesOne_101 : decode cX11_doesOne 101 = .ok (.iload_n 2, 1) := by decide +kernel
theorem dX11_doesOne_102 : decode cX11_doesOne 102 = .ok (.iload_n 3, 1) := by decide +kernel
theorem dX11_doesOne_103 : decode cX11_doesOne 103 = .ok (.invokevirtual 354, 3) := by decide +kernel
theorem dX11_doesOne_106 : decode cX11_doesOne 106 = .ok (.ireturn, 1) := by decide +kernel
theorem dX11_doesOne_107 : decode cX11_doesOne 107 = .ok (.aload_n 0, 1) := by decide +kernel
theorem dX11_doesOne_108 : decode cX11_doesOne 108 = .ok (.iload_n 2, 1) := by decide +kernel
theorem dX11_doesOne_109 : decode cX11_doesOne 109 = .ok (.invokevirtual 357, 3) := by decide +kernel
theorem dX11_doesOne_112 : decode cX11_doesOne 112 = .ok (.ireturn, 1) := by decide +kernel
theorem dX11_doesOne_113 : decode cX11_doesOne 113 = .ok (.aload_n 0, 1) := by decide +kernel
theorem dX11_doesOne_114 : decode cX11_doesOne 114 = .ok (.iload_n 2, 1) := by decide +kernel
theorem dX11_doesOne_115 : decode cX11_doesOne 115 = .ok (.iload_n 3, 1) := by decide +kernel
theorem dX11_doesOne_116 : decode cX11_doesOne 116 = .ok (.invokevirtual 360, 3) := by decide +kernel
theorem dX11_doesOne_119 : decode cX11_doesOne 119 = .ok (.ireturn, 1) := by decide +kernel
theorem dX11_doesOne_120 : decode cX11_doesOne 120 = .ok (.aload_n 0, 1) := by decide +kernel
theorem dX11_doesOne_121 : decode cX11_doesOne 121 = .ok (.iload_n 2, 1) := by decide +kernel
theorem dX11_doesOne_122 : decode cX11_doesOne 122 = .ok (.iload_n 3, 1) := by decide +kernel
theorem dX11_doesOne_123 : decode cX11_doesOne 123 = .ok (.invokevirtual 363, 3) := by decide +kernel
theorem dX11_doesOne_126 : decode cX11_doesOne 126 = .ok (.ireturn, 1) := by decide +kernel
theorem dX11_doesOne_127 : decode cX11_doesOne 127 = .ok (.aload_n 0, 1) := by decide +kernel
theorem dX11_doesOne_128 : decode cX11_doesOne 128 = .ok (.iload_n 2, 1) := by decide +kernel
theorem dX11_doesOne_129 : decode cX11_doesOne 129 = .ok (.invokevirtual 290, 3) := by decide +kernel
theorem dX11_doesOne_132 : decode cX11_doesOne 132 = .ok (.ireturn, 1) := by decide +kernel
theorem dX11_doesOne_133 : decode cX11_doesOne 133 = .ok (.aload_n 0, 1) := by decide +kernel
theorem dX11_doesOne_134 : decode cX11_doesOne 134 = .ok (.iload_n 2, 1) := by decide +kernel
theorem dX11_doesOne_135 : decode cX11_doesOne 135 = .ok (.iload_n 3, 1) := by decide +kernel
theorem dX11_doesOne_136 : decode cX11_doesOne 136 = .ok (.invokevirtual 366, 3) := by decide +kernel
theorem dX11_doesOne_139 : decode cX11_doesOne 139 = .ok (.ireturn, 1) := by decide +kernel
theorem dX11_doesOne_140 : decode cX11_doesOne 140 = .ok (.aload_n 0, 1) := by decide +kernel
theorem dX11_doesOne_141 : decode cX11_doesOne 141 = .ok (.iload_n 2, 1) := by decide +kernel
theorem dX11_doesOne_142 : decode cX11_doesOne 142 = .ok (.invokevirtual 369, 3) := by decide +kernel
theorem dX11_doesOne_145 : decode cX11_doesOne 145 = .ok (.ireturn, 1) := by decide +kernel
theorem dX11_doesOne_146 : decode cX11_doesOne 146 = .ok (.aload_n 0, 1) := by decide +kernel
theorem dX11_doesOne_147 : decode cX11_doesOne 147 = .ok (.iload_n 2, 1) := by decide +kernel
theorem dX11_doesOne_148 : decode cX11_doesOne 148 = .ok (.invokevirtual 372, 3) := by decide +kernel
theorem dX11_doesOne_151 : decode cX11_doesOne 151 = .ok (.ireturn, 1) := by decide +kernel
def st_X11_doesOne_21 (N : Nat) (l1 : Int32) (l2 : Int32) (l3 : Int32) (l4 : Int32) (t : HV) : Option ((Int32 × HV) ⊕ (Bool × (HV))) := (if 13 ≤ l4 then (if vpb l1 480 = true then (if (ag t 19 l1) = 0 then (ob (F_X11_plantNow N l2 l3 t) fun v4 t5 => some (.inr (v4, t5))) else (if (ag t 19 l1) = 1 then (ob (F_X11_removeNow N l2 t) fun v6 t7 => some (.inr (v6, t7))) else (if (ag t 19 l1) = 2 then (ob (F_X11_trimNow l2 l3 t) fun v8 t9 => some (.inr (v8, t9))) else (if (ag t 19 l1) = 3 then (ob (F_X11_nestNow N l2 l3 t) fun v10 t11 => some (.inr (v10, t11))) else (if (ag t 19 l1) = 4 then (ob (F_X11_messageNow N l2 t) fun v12 t13 => some (.inr (v12, t13))) else (if (ag t 19 l1) = 5 then (ob (F_X11_cancelNow N l2 l3 t) fun v14 t15 => some (.inr (v14, t15))) else (if (ag t 19 l1) = 6 then (ob (F_X11_workNow l2 t) fun v16 t17 => some (.inr (v16, t17))) else (ob (F_X11_endNow N l2 t) fun v18 t19 => some (.inr (v18, t19)))))))))) else none) else (if vpb ((l1 + 3) + l4) 480 = true then (if vpb l4 13 = true then (lt (aw t 9 l4 (ag t 19 ((l1 + 3) + l4))) fun t22 => some (.inl ((l4 + 1), t22))) else none) else none))
def F_X11_doesOne (N : Nat) (a1 : Int32) (t : HV) : Option (Bool × (HV)) := (if vpb (a1 + 1) 480 = true then (if vpb (a1 + 2) 480 = true then (lpN N (fun z => st_X11_doesOne_21 N a1 (ag t 19 (a1 + 1)) (ag t 19 (a1 + 2)) z.1 z.2) (0, t)) else none) else none)
theorem lp_X11_doesOne_21 {w : WP} (hW : gWM w) {Ω : OM}   (l1 : Int32) (l2 : Int32) (l3 : Int32) {N : Nat} {X : CX} (C : gC w X cX11_doesOne "HedgeMessagesModel" (some .boolean) 12 5) {v : Bool} {t' : HV}  : ∀ (n : Nat) (l4 : Int32) (t : HV), lpN n (fun z : Int32 × HV => st_X11_doesOne_21 N l1 l2 l3 z.1 z.2) (l4, t) = some (v, t') → gV w X (some (.int (b2i v)), cA w (sM Ω t')) (cA w (sM Ω t)) 21 [(0, .ref (wAd w (11, 12, 0, 0))), (1, .int l1), (2, .int l2), (3, .int l3), (4, .int l4)] [] := by
  intro n
  induction n with
  | zero => intro l4 t hL; exact lpN_0 hL
  | succ n ih =>
    intro l4 t hL
    obtain ⟨q9, hF, hL⟩ := lpN_e hL
    change st_X11_doesOne_21 N l1 l2 l3 l4 t = some q9 at hF
    unfold st_X11_doesOne_21 at hF
    refine r_iload C (k := 4) rfl dX11_doesOne_21 ?_
    refine r_bipush C (v := 13) rfl dX11_doesOne_23 ?_
    refine r_icmp_ge C (tgt := 52) rfl dX11_doesOne_25 (fun hc => ?_) (fun hc => ?_)
    · rw [if_pos hc] at hF
      refine r_aload_n C (k := 0) rfl rfl dX11_doesOne_52 ?_
      refine og_11_19 C (hW.ok k11) wm7_86 dX11_doesOne_53 ?_
      refine r_iload_n C (k := 1) rfl rfl dX11_doesOne_56 ?_
      obtain ⟨b3, hF⟩ := gd_e hF
      refine m_ald C (hW.ok (k12 (a := 19) (by unfold okMa; decide))) (show (sM Ω t).2.1 = t from rfl) rfl b3 dX11_doesOne_57 ?_
      by_cases z0 : (ag t 19 l1) = 0
      · rw [if_pos z0] at hF
        refine r_tabIn C (v := 0) (tgt := 100) z0 dX11_doesOne_58 (by decide) (by decide) rfl rfl ?_
        refine r_aload_n C (k := 0) rfl rfl dX11_doesOne_100 ?_
        refine r_iload_n C (k := 2) rfl rfl dX11_doesOne_101 ?_
        refine r_iload_n C (k := 3) rfl rfl dX11_doesOne_102 ?_
        obtain ⟨v4, t5, ht5, hF⟩ := ob_e hF
        refine r_callV C (d' := 4) [.int l2, .int l3] (c_X11_plantNow hW (show (sM Ω t).2.1 = t from rfl) N l2 l3 ht5 rfl) myX11_plantNow wm7_204 ⟨_, _, _, _, (hW.ok k11), rfl, rfl, rfl, rfl⟩ rfl (kR rfl) (by decide) (kR rfl) rfl dX11_doesOne_103 ?_
        cases hF
        change some _ = some _ at hL
        cases hL
        exact r_zreturn C _ rfl dX11_doesOne_106
      rw [if_neg z0] at hF
      by_cases z1 : (ag t 19 l1) = 1
      · rw [if_pos z1] at hF
        refine r_tabIn C (v := 1) (tgt := 107) z1 dX11_doesOne_58 (by decide) (by decide) rfl rfl ?_
        refine r_aload_n C (k := 0) rfl rfl dX11_doesOne_107 ?_
        refine r_iload_n C (k := 2) rfl rfl dX11_doesOne_108 ?_
        obtain ⟨v6, t7, ht7, hF⟩ := ob_e hF
        refine r_callV C (d' := 5) [.int l2] (c_X11_removeNow hW (show (sM Ω t).2.1 = t from rfl) N l2 ht7 rfl) myX11_removeNow wm7_234 ⟨_, _, _, _, (hW.ok k11), rfl, rfl, rfl, rfl⟩ rfl (kR rfl) (by decide) (kR rfl) rfl dX11_doesOne_109 ?_
        cases hF
        change some _ = some _ at hL
        cases hL
        exact r_zreturn C _ rfl dX11_doesOne_112
      rw [if_neg z1] at hF
      by_cases z2 : (ag t 19 l1) = 2
      · rw [if_pos z2] at hF
        refine r_tabIn C (v := 2) (tgt := 113) z2 dX11_doesOne_58 (by decide) (by decide) rfl rfl ?_
        refine r_aload_n C (k := 0) rfl rfl dX11_doesOne_113 ?_
        refine r_iload_n C (k := 2) rfl rfl dX11_doesOne_114 ?_
        refine r_iload_n C (k := 3) rfl rfl dX11_doesOne_115 ?_
        obtain ⟨v8, t9, ht9, hF⟩ := ob_e hF
        refine r_callV C (d' := 5) [.int l2, .int l3] (c_X11_trimNow hW (show (sM Ω t).2.1 = t from rfl) l2 l3 ht9 rfl) myX11_trimNow wm8_14 ⟨_, _, _, _, (hW.ok k11), rfl, rfl, rfl, rfl⟩ rfl (kR rfl) (by decide) (kR rfl) rfl dX11_doesOne_116 ?_
        cases hF
        change some _ = some _ at hL
        cases hL
        exact r_zreturn C _ rfl dX11_doesOne_119
      rw [if_neg z2] at hF
      by_cases z3 : (ag t 19 l1) = 3
      · rw [if_pos z3] at hF
        refine r_tabIn C (v := 3) (tgt := 120) z3 dX11_doesOne_58 (by decide) (by decide) rfl rfl ?_
        refine r_aload_n C (k := 0) rfl rfl dX11_doesOne_120 ?_
        refine r_iload_n C (k := 2) rfl rfl dX11_doesOne_121 ?_
        refine r_iload_n C (k := 3) rfl rfl dX11_doesOne_122 ?_
        obtain ⟨v10, t11, ht11, hF⟩ := ob_e hF
        refine r_callV C (d' := 4) [.int l2, .int l3] (c_X11_nestNow hW (show (sM Ω t).2.1 = t from rfl) N l2 l3 ht11 rfl) myX11_nestNow wm8_25 ⟨_, _, _, _, (hW.ok k11), rfl, rfl, rfl, rfl⟩ rfl (kR rfl) (by decide) (kR rfl) rfl dX11_doesOne_123 ?_
        cases hF
        change some _ = some _ at hL
        cases hL
        exact r_zreturn C _ rfl dX11_doesOne_126
      rw [if_neg z3] at hF
      by_cases z4 : (ag t 19 l1) = 4
      · rw [if_pos z4] at hF
        refine r_tabIn C (v := 4) (tgt := 127) z4 dX11_doesOne_58 (by decide) (by decide) rfl rfl ?_
        refine r_aload_n C (k := 0) rfl rfl dX11_doesOne_127 ?_
        refine r_iload_n C (k := 2) rfl rfl dX11_doesOne_128 ?_
        obtain ⟨v12, t13, ht13, hF⟩ := ob_e hF
        refine r_callV C (d' := 1) [.int l2] (c_X11_messageNow hW (show (sM Ω t).2.1 = t from rfl) N l2 ht13 rfl) myX11_messageNow wm7_52 ⟨_, _, _, _, (hW.ok k11), rfl, rfl, rfl, rfl⟩ rfl (kR rfl) (by decide) (kR rfl) rfl dX11_doesOne_129 ?_
        cases hF
        change some _ = some _ at hL
        cases hL
        exact r_zreturn C _ rfl dX11_doesOne_132
      rw [if_neg z4] at hF
      by_cases z5 : (ag t 19 l1) = 5
      · rw [if_pos z5] at hF
        refine r_tabIn C (v := 5) (tgt := 133) z5 dX11_doesOne_58 (by decide) (by decide) rfl rfl ?_
        refine r_aload_n C (k := 0) rfl rfl dX11_doesOne_133 ?_
        refine r_iload_n C (k := 2) rfl rfl dX11_doesOne_134 ?_
        refine r_iload_n C (k := 3) rfl rfl dX11_doesOne_135 ?_
        obtain ⟨v14, t15, ht15, hF⟩ := ob_e hF
        refine r_callV C (d' := 2) [.int l2, .int l3] (c_X11_cancelNow hW (show (sM Ω t).2.1 = t from rfl) N l2 l3 ht15 rfl) myX11_cancelNow wm8_33 ⟨_, _, _, _, (hW.ok k11), rfl, rfl, rfl, rfl⟩ rfl (kR rfl) (by decide) (kR rfl) rfl dX11_doesOne_136 ?_
        cases hF
        change some _ = some _ at hL
        cases hL
        exact r_zreturn C _ rfl dX11_doesOne_139
      rw [if_neg z5] at hF
      by_cases z6 : (ag t 19 l1) = 6
      · rw [if_pos z6] at hF
        refine r_tabIn C (v := 6) (tgt := 140) z6 dX11_doesOne_58 (by decide) (by decide) rfl rfl ?_
        refine r_aload_n C (k := 0) rfl rfl dX11_doesOne_140 ?_
        refine r_iload_n C (k := 2) rfl rfl dX11_doesOne_141 ?_
        obtain ⟨v16, t17, ht17, hF⟩ := ob_e hF
        refine r_callV C (d' := 0) [.int l2] (c_X11_workNow hW (show (sM Ω t).2.1 = t from rfl) l2 ht17 rfl) myX11_workNow wm8_41 ⟨_, _, _, _, (hW.ok k11), rfl, rfl, rfl, rfl⟩ rfl (kR rfl) (by decide) (kR rfl) rfl dX11_doesOne_142 ?_
        cases hF
        change some _ = some _ at hL
        cases hL
        exact r_zreturn C _ rfl dX11_doesOne_145
      rw [if_neg z6] at hF
      refine r_tabOut C (tgt := 146) dX11_doesOne_58 (by have t0 := ne_ti (k := 0) (by decide) z0; have t1 := ne_ti (k := 1) (by decide) z1; have t2 := ne_ti (k := 2) (by decide) z2; have t3 := ne_ti (k := 3) (by decide) z3; have t4 := ne_ti (k := 4) (by decide) z4; have t5 := ne_ti (k := 5) (by decide) z5; have t6 := ne_ti (k := 6) (by decide) z6; omega) rfl ?_
      refine r_aload_n C (k := 0) rfl rfl dX11_doesOne_146 ?_
      refine r_iload_n C (k := 2) rfl rfl dX11_doesOne_147 ?_
      obtain ⟨v18, t19, ht19, hF⟩ := ob_e hF
      refine r_callV C (d' := 11) [.int l2] (c_X11_endNow hW (show (sM Ω t).2.1 = t from rfl) N l2 ht19 rfl) myX11_endNow wm8_45 ⟨_, _, _, _, (hW.ok k11), rfl, rfl, rfl, rfl⟩ rfl (kR rfl) (by decide) (kR rfl) rfl dX11_doesOne_148 ?_
      cases hF
      change some _ = some _ at hL
      cases hL
      exact r_zreturn C _ rfl dX11_doesOne_151
    · rw [if_neg hc] at hF
      refine r_aload_n C (k := 0) rfl rfl dX11_doesOne_28 ?_
      refine og_11_9 C (hW.ok k11) wm7_76 dX11_doesOne_29 ?_
      refine r_iload C (k := 4) rfl dX11_doesOne_32 ?_
      refine r_aload_n C (k := 0) rfl rfl dX11_doesOne_34 ?_
      refine og_11_19 C (hW.ok k11) wm7_86 dX11_doesOne_35 ?_
      refine r_iload_n C (k := 1) rfl rfl dX11_doesOne_38 ?_
      refine r_iconst C (v := 3) rfl dX11_doesOne_39 ?_
      refine r_iadd C dX11_doesOne_40 ?_
      refine r_iload C (k := 4) rfl dX11_doesOne_41 ?_
      refine r_iadd C dX11_doesOne_43 ?_
      obtain ⟨b20, hF⟩ := gd_e hF
      refine m_ald C (hW.ok (k12 (a := 19) (by unfold okMa; decide))) (show (sM Ω t).2.1 = t from rfl) rfl b20 dX11_doesOne_44 ?_
      obtain ⟨b21, hF⟩ := gd_e hF
      obtain ⟨t22, et22, hF⟩ := lt_e hF
      refine m_ast C hW.x (hW.fr (k12 (a := 9) (by unfold okMa; decide))) (show (sM Ω t).2.1 = t from rfl) rfl b21 dX11_doesOne_45 (congrArg (sM Ω) et22) ?_
      refine r_iinc C (k := 4) (v := (l4 + 1)) (lo' := [(4, .int (l4 + 1)), (0, .ref (wAd w (11, 12, 0, 0))), (1, .int l1), (2, .int l2), (3, .int l3)]) rfl rfl (by decide) rfl dX11_doesOne_46 ?_
      refine r_goto C (tgt := 21) rfl dX11_doesOne_49 ?_
      cases hF
      change lpN n _ _ = some _ at hL
      refine r_lo [1, 2, 3, 4, 0] (lo' := [(0, .ref (wAd w (11, 12, 0, 0))), (1, .int l1), (2, .int l2), (3, .int l3), (4, .int (l4 + 1))]) rfl ?_
      exact ih (l4 + 1) t22 hL
theorem c_X11_doesOne {w : WP} (hW : gWM w) {Ω : OM}  {t : HV} (e : Ω.2.1 = t) (N : Nat) (a1 : Int32) {v : Bool} {t' : HV} (hF : F_X11_doesOne N a1 t = some (v, t')) {Ω' : OM} (e2 : (sM Ω t') = Ω') : gM w 12 yX11_doesOne cX11_doesOne 5 (some .boolean) [.ref (wAd w (11, 12, 0, 0)), .int a1] (cA w Ω) (some (.int (b2i v))) (cA w Ω') := by
  refine gM_of "HedgeMessagesModel" rfl (by decide) (kR rfl) fun X C => ?_
  unfold F_X11_doesOne at hF
  subst e2
  show gV w X _ _ 0 [(0, .ref (wAd w (11, 12, 0, 0))), (1, .int a1)] []
  refine r_ct (ct' := cA w (sM Ω t)) (congrArg (cA w) (sM_i e).symm) ?_
  refine r_aload_n C (k := 0) rfl rfl dX11_doesOne_0 ?_
  refine og_11_19 C (hW.ok k11) wm7_86 dX11_doesOne_1 ?_
  refine r_iload_n C (k := 1) rfl rfl dX11_doesOne_4 ?_
  refine r_iconst C (v := 1) rfl dX11_doesOne_5 ?_
  refine r_iadd C dX11_doesOne_6 ?_
  obtain ⟨b1, hF⟩ := gd_e hF
  refine m_ald C (hW.ok (k12 (a := 19) (by unfold okMa; decide))) (show (sM Ω t).2.1 = t from rfl) rfl b1 dX11_doesOne_7 ?_
  refine r_istore_n C (lo' := [(2, .int (ag t 19 (a1 + 1))), (0, .ref (wAd w (11, 12, 0, 0))), (1, .int a1)]) rfl (by decide) rfl dX11_doesOne_8 ?_
  refine r_aload_n C (k := 1) rfl rfl dX11_doesOne_9 ?_
  refine og_11_19 C (hW.ok k11) wm7_86 dX11_doesOne_10 ?_
  refine r_iload_n C (k := 2) rfl rfl dX11_doesOne_13 ?_
  refine r_iconst C (v := 2) rfl dX11_doesOne_14 ?_
  refine r_iadd C dX11_doesOne_15 ?_
  obtain ⟨b2, hF⟩ := gd_e hF
  refine m_ald C (hW.ok (k12 (a := 19) (by unfold okMa; decide))) (show (sM Ω t).2.1 = t from rfl) rfl b2 dX11_doesOne_16 ?_
  refine r_istore_n C (lo' := [(3, .int (ag t 19 (a1 + 2))), (2, .int (ag t 19 (a1 + 1))), (0, .ref (wAd w (11, 12, 0, 0))), (1, .int a1)]) rfl (by decide) rfl dX11_doesOne_17 ?_
  refine r_iconst C (v := 0) rfl dX11_doesOne_18 ?_
  refine r_istore C (lo' := [(4, .int 0), (3, .int (ag t 19 (a1 + 2))), (2, .int (ag t 19 (a1 + 1))), (0, .ref (wAd w (11, 12, 0, 0))), (1, .int a1)]) (by decide) rfl dX11_doesOne_19 ?_
  refine r_lo [3, 4, 2, 1, 0] (lo' := [(0, .ref (wAd w (11, 12, 0, 0))), (1, .int a1), (2, .int (ag t 19 (a1 + 1))), (3, .int (ag t 19 (a1 + 2))), (4, .int 0)]) rfl ?_
  exact lp_X11_doesOne_21 hW a1 (ag t 19 (a1 + 1)) (ag t 19 (a1 + 2)) C N 0 t hF
theorem dX11_keeps_0 : decode cX11_keeps 0 = .ok (.aload_n 0, 1) := by decide +kernel
theorem dX11_keeps_1 : decode cX11_keeps 1 = .ok (.getfield 321, 3) := by decide +kernel
theorem dX11_keeps_4 : decode cX11_keeps 4 = .ok (.bipush 8, 2) := by decide +kernel
theorem dX11_keeps_6 : decode cX11_keeps 6 = .ok (.if_icmp .ne 44, 3) := by decide +kernel
theorem dX11_keeps_9 : decode cX11_keeps 9 = .ok (.iconst 0, 1) := by decide +kernel
theorem dX11_keeps_10 : decode cX11_keeps 10 = .ok (.istore_n 2, 1) := by decide +kernel
theorem dX11_keeps_11 : decode cX11_keeps 11 = .ok (.iload_n 2, 1) := by decide +kernel
theorem dX11_keeps_12 : decode cX11_keeps 12 = .ok (.sipush 5320, 3) := by decide +kernel
theorem dX11_keeps_15 : decode cX11_keeps 15 = .ok (.if_icmp .ge 25, 3) := by decide +kernel
theorem dX11_keeps_18 : decode cX11_keeps 18 = .ok (.aload_n 0, 1) := by decide +kernel
theorem dX11_keeps_19 : decode cX11_keeps 19 = .ok (.getfield 22, 3) := by decide +kernel
theorem dX11_keeps_22 : decode cX11_keeps 22 = .ok (.iload_n 2, 1) := by decide +kernel
theorem dX11_keeps_23 : decode cX11_keeps 23 = .ok (.aload_n 0, 1) := by decide +kernel
theorem dX11_keeps_24 : decode cX11_keeps 24 = .ok (.getfield 22, 3) := by decide +kernel
theorem dX11_keeps_27 : decode cX11_keeps 27 = .ok (.iload_n 2, 1) := by decide +kernel
theorem dX11_keeps_28 : decode cX11_keeps 28 = .ok (.sipush 760, 3) := by decide +kernel
theorem dX11_keeps_31 : decode cX11_keeps 31 = .ok (.iadd, 1) := by decide +kernel
theorem dX11_keeps_32 : decode cX11_keeps 32 = .ok (.iaload, 1) := by decide +kernel
theorem dX11_keeps_33 : decode cX11_keeps 33 = .ok (.iastore, 1) := by decide +kernel
theorem dX11_keeps_34 : decode cX11_keeps 34 = .ok (.iinc 2 1, 3) := by decide +kernel
theorem dX11_keeps_37 : decode cX11_keeps 37 = .ok (.goto (-26), 3) := by decide +kernel
theorem dX11_keeps_40 : decode cX11_keeps 40 = .ok (.aload_n 0, 1) := by decide +kernel
theorem dX11_keeps_41 : decode cX11_keeps 41 = .ok (.dup, 1) := by decide +kernel
theorem dX11_keeps_42 : decode cX11_keeps 42 = .ok (.getfield 321, 3) := by decide +kernel
theorem dX11_keeps_45 : decode cX11_keeps 45 = .ok (.iconst 1, 1) := by decide +kernel
theorem dX11_keeps_46 : decode cX11_keeps 46 = .ok (.isub, 1) := by decide +kernel
theorem dX11_keeps_47 : decode cX11_keeps 47 = .ok (.putfield 321, 3) := by decide +kernel
theorem dX11_keeps_50 : decode cX11_keeps 50 = .ok (.aload_n 1, 1) := by decide +kernel
theorem dX11_keeps_51 : decode cX11_keeps 51 = .ok (.iconst 0, 1) := by decide +kernel
theorem dX11_keeps_52 : decode cX11_keeps 52 = .ok (.aload_n 0, 1) := by decide +kernel
theorem dX11_keeps_53 : decode cX11_keeps 53 = .ok (.getfield 22, 3) := by decide +kernel
theorem dX11_keeps_56 : decode cX11_keeps 56 = .ok (.sipush 760, 3) := by decide +kernel
theorem dX11_keeps_59 : decode cX11_keeps 59 = .ok (.aload_n 0, 1) := by decide +kernel
theorem dX11_keeps_60 : decode cX11_keeps 60 = .ok (.getfield 321, 3) := by decide +kernel
theorem dX11_keeps_63 : decode cX11_keeps 63 = .ok (.imul, 1) := by decide +kernel
theorem dX11_keeps_64 : decode cX11_keeps 64 = .ok (.invokestatic 61, 3) := by decide +kernel
theorem dX11_keeps_67 : decode cX11_keeps 67 = .ok (.aload_n 0, 1) := by decide +kernel
theorem dX11_keeps_68 : decode cX11_keeps 68 = .ok (.dup, 1) := by decide +kernel
theorem dX11_keeps_69 : decode cX11_keeps 69 = .ok (.getfield 321, 3) := by decide +kernel
theorem dX11_keeps_72 : decode cX11_keeps 72 = .ok (.iconst 1, 1) := by decide +kernel
theorem dX11_keeps_73 : decode cX11_keeps 73 = .ok (.iadd, 1) := by decide +kernel
theorem dX11_keeps_74 : decode cX11_keeps 74 = .ok (.putfield 321, 3) := by decide +kernel
theorem dX11_keeps_77 : decode cX11_keeps 77 = .ok (.return_, 1) := by decide +kernel
def st_X11_keeps_11 (N : Nat) (a1 : Nat) (l2 : Int32) (t : HV) : Option ((Int32 × HV) ⊕ (HV)) := (if 5320 ≤ l2 then (lt (sS t 5 ((t.1 5) - 1)) fun t4 => (ob1 (F_X11_copies N a1 0 4 (760 * (t4.1 5)) t4) fun t6 => (lt (sS t6 5 ((t6.1 5) + 1)) fun t7 => some (.inr t7)))) else (if vpb (l2 + 760) 6080 = true then (if vpb l2 6080 = true then (lt (aw t 4 l2 (ag t 4 (l2 + 760))) fun t10 => some (.inl ((l2 + 1), t10))) else none) else none))
def F_X11_keeps (N : Nat) (a1 : Nat) (t : HV) : Option (HV) := (if (t.1 5) = 8 then (lpN N (fun z => st_X11_keeps_11 N a1 z.1 z.2) (0, t)) else (ob1 (F_X11_copies N a1 0 4 (760 * (t.1 5)) t) fun t2 => (lt (sS t2 5 ((t2.1 5) + 1)) fun t3 => some t3)))
theorem lp_X11_keeps_11 {w : WP} (hW : gWM w) {Ω : OM}  (a1 : Nat) (ha1 : okMa a1)  {N : Nat} {X : CX} (C : gC w X cX11_keeps "HedgeMessagesModel" none 1 3) {t' : HV}  : ∀ (n : Nat) (l2 : Int32) (t : HV), lpN n (fun z : Int32 × HV => st_X11_keeps_11 N a1 z.1 z.2) (l2, t) = some t' → gV w X (none, cA w (sM Ω t')) (cA w (sM Ω t)) 11 [(0, .ref (wAd w (11, 12, 0, 0))), (1, .ref (wAd w (12, 12, 0, a1))), (2, .int l2)] [] := by
  intro n
  induction n with
  | zero => intro l2 t hL; exact lpN_0 hL
  | succ n ih =>
    intro l2 t hL
    obtain ⟨q9, hF, hL⟩ := lpN_e hL
    change st_X11_keeps_11 N a1 l2 t = some q9 at hF
    unfold st_X11_keeps_11 at hF
    refine r_iload_n C (k := 2) rfl rfl dX11_keeps_11 ?_
    refine r_sipush C (v := 5320) rfl dX11_keeps_12 ?_
    refine r_icmp_ge C (tgt := 40) rfl dX11_keeps_15 (fun hc => ?_) (fun hc => ?_)
    · rw [if_pos hc] at hF
      refine r_aload_n C (k := 0) rfl rfl dX11_keeps_40 ?_
      refine r_dup C rfl dX11_keeps_41 ?_
      refine og_11_5 C (hW.ok k11) (show (sM Ω t).2.1 = t from rfl) wm7_72 dX11_keeps_42 ?_
      refine r_iconst C (v := 1) rfl dX11_keeps_45 ?_
      refine r_isub C dX11_keeps_46 ?_
      obtain ⟨t4, et4, hF⟩ := lt_e hF
      refine op_11_5 C hW.x (hW.fr k11) (show (sM Ω t).2.1 = t from rfl) wm7_72 dX11_keeps_47 (congrArg (sM Ω) et4) ?_
      refine r_aload_n C (k := 1) rfl rfl dX11_keeps_50 ?_
      refine r_iconst C (v := 0) rfl dX11_keeps_51 ?_
      refine r_aload_n C (k := 0) rfl rfl dX11_keeps_52 ?_
      refine og_11_4 C (hW.ok k11) wm7_71 dX11_keeps_53 ?_
      refine r_sipush C (v := 760) rfl dX11_keeps_56 ?_
      refine r_aload_n C (k := 0) rfl rfl dX11_keeps_59 ?_
      refine og_11_5 C (hW.ok k11) (show (sM Ω t4).2.1 = t4 from rfl) wm7_72 dX11_keeps_60 ?_
      refine r_imul C dX11_keeps_63 ?_
      obtain ⟨t6, ht6, hF⟩ := ob1_e hF
      refine r_callS C (d' := 0) [.ref (wAd w (12, 12, 0, a1)), .int 0, .ref (wAd w (12, 12, 0, 4)), .int (760 * (t4.1 5))] (c_X11_copies hW (show (sM Ω t4).2.1 = t4 from rfl) N a1 ha1 0 4 (by unfold okMa; decide) (760 * (t4.1 5)) ht6 rfl) myX11_copies wm6_182 rfl (kR rfl) (by decide) (kR rfl) rfl dX11_keeps_64 ?_
      refine r_aload_n C (k := 0) rfl rfl dX11_keeps_67 ?_
      refine r_dup C rfl dX11_keeps_68 ?_
      refine og_11_5 C (hW.ok k11) (show (sM Ω t6).2.1 = t6 from rfl) wm7_72 dX11_keeps_69 ?_
      refine r_iconst C (v := 1) rfl dX11_keeps_72 ?_
      refine r_iadd C dX11_keeps_73 ?_
      obtain ⟨t7, et7, hF⟩ := lt_e hF
      refine op_11_5 C hW.x (hW.fr k11) (show (sM Ω t6).2.1 = t6 from rfl) wm7_72 dX11_keeps_74 (congrArg (sM Ω) et7) ?_
      cases hF
      change some _ = some _ at hL
      cases hL
      exact r_return C dX11_keeps_77
    · rw [if_neg hc] at hF
      refine r_aload_n C (k := 0) rfl rfl dX11_keeps_18 ?_
      refine og_11_4 C (hW.ok k11) wm7_71 dX11_keeps_19 ?_
      refine r_iload_n C (k := 2) rfl rfl dX11_keeps_22 ?_
      refine r_aload_n C (k := 0) rfl rfl dX11_keeps_23 ?_
      refine og_11_4 C (hW.ok k11) wm7_71 dX11_keeps_24 ?_
      refine r_iload_n C (k := 2) rfl rfl dX11_keeps_27 ?_
      refine r_sipush C (v := 760) rfl dX11_keeps_28 ?_
      refine r_iadd C dX11_keeps_31 ?_
      obtain ⟨b8, hF⟩ := gd_e hF
      refine m_ald C (hW.ok (k12 (a := 4) (by unfold okMa; decide))) (show (sM Ω t).2.1 = t from rfl) rfl b8 dX11_keeps_32 ?_
      obtain ⟨b9, hF⟩ := gd_e hF
      obtain ⟨t10, et10, hF⟩ := lt_e hF
      refine m_ast C hW.x (hW.fr (k12 (a := 4) (by unfold okMa; decide))) (show (sM Ω t).2.1 = t from rfl) rfl b9 dX11_keeps_33 (congrArg (sM Ω) et10) ?_
      refine r_iinc C (k := 2) (v := (l2 + 1)) (lo' := [(2, .int (l2 + 1)), (0, .ref (wAd w (11, 12, 0, 0))), (1, .ref (wAd w (12, 12, 0, a1)))]) rfl rfl (by decide) rfl dX11_keeps_34 ?_
      refine r_goto C (tgt := 11) rfl dX11_keeps_37 ?_
      cases hF
      change lpN n _ _ = some _ at hL
      refine r_lo [1, 2, 0] (lo' := [(0, .ref (wAd w (11, 12, 0, 0))), (1, .ref (wAd w (12, 12, 0, a1))), (2, .int (l2 + 1))]) rfl ?_
      exact ih (l2 + 1) t10 hL
theorem c_X11_keeps {w : WP} (hW : gWM w) {Ω : OM}  {t : HV} (e : Ω.2.1 = t) (N : Nat) (a1 : Nat) (ha1 : okMa a1) {t' : HV} (hF : F_X11_keeps N a1 t = some t') {Ω' : OM} (e2 : (sM Ω t') = Ω') : gM w 1 yX11_keeps cX11_keeps 3 none [.ref (wAd w (11, 12, 0, 0)), .ref (wAd w (12, 12, 0, a1))] (cA w Ω) none (cA w Ω') := by
  refine gM_of "HedgeMessagesModel" rfl (by decide) (kR rfl) fun X C => ?_
  unfold F_X11_keeps at hF
  subst e2
  show gV w X _ _ 0 [(0, .ref (wAd w (11, 12, 0, 0))), (1, .ref (wAd w (12, 12, 0, a1)))] []
  refine r_ct (ct' := cA w (sM Ω t)) (congrArg (cA w) (sM_i e).symm) ?_
  refine r_aload_n C (k := 0) rfl rfl dX11_keeps_0 ?_
  refine og_11_5 C (hW.ok k11) (show (sM Ω t).2.1 = t from rfl) wm7_72 dX11_keeps_1 ?_
  refine r_bipush C (v := 8) rfl dX11_keeps_4 ?_
  refine r_icmp_ne C (tgt := 50) rfl dX11_keeps_6 (fun hc => ?_) (fun hc => ?_)
  · rw [if_neg hc] at hF
    refine r_aload_n C (k := 1) rfl rfl dX11_keeps_50 ?_
    refine r_iconst C (v := 0) rfl dX11_keeps_51 ?_
    refine r_aload_n C (k := 0) rfl rfl dX11_keeps_52 ?_
    refine og_11_4 C (hW.ok k11) wm7_71 dX11_keeps_53 ?_
    refine r_sipush C (v := 760) rfl dX11_keeps_56 ?_
    refine r_aload_n C (k := 0) rfl rfl dX11_keeps_59 ?_
    refine og_11_5 C (hW.ok k11) (show (sM Ω t).2.1 = t from rfl) wm7_72 dX11_keeps_60 ?_
    refine r_imul C dX11_keeps_63 ?_
    obtain ⟨t2, ht2, hF⟩ := ob1_e hF
    refine r_callS C (d' := 0) [.ref (wAd w (12, 12, 0, a1)), .int 0, .ref (wAd w (12, 12, 0, 4)), .int (760 * (t.1 5))] (c_X11_copies hW (show (sM Ω t).2.1 = t from rfl) N a1 ha1 0 4 (by unfold okMa; decide) (760 * (t.1 5)) ht2 rfl) myX11_copies wm6_182 rfl (kR rfl) (by decide) (kR rfl) rfl dX11_keeps_64 ?_
    refine r_aload_n C (k := 0) rfl rfl dX11_keeps_67 ?_
    refine r_dup C rfl dX11_keeps_68 ?_
    refine og_11_5 C (hW.ok k11) (show (sM Ω t2).2.1 = t2 from rfl) wm7_72 dX11_keeps_69 ?_
    refine r_iconst C (v := 1) rfl dX11_keeps_72 ?_
    refine r_iadd C dX11_keeps_73 ?_
    obtain ⟨t3, et3, hF⟩ := lt_e hF
    refine op_11_5 C hW.x (hW.fr k11) (show (sM Ω t2).2.1 = t2 from rfl) wm7_72 dX11_keeps_74 (congrArg (sM Ω) et3) ?_
    cases hF
    exact r_return C dX11_keeps_77
  · rw [if_pos hc] at hF
    refine r_iconst C (v := 0) rfl dX11_keeps_9 ?_
    refine r_istore_n C (lo' := [(2, .int 0), (0, .ref (wAd w (11, 12, 0, 0))), (1, .ref (wAd w (12, 12, 0, a1)))]) rfl (by decide) rfl dX11_keeps_10 ?_
    refine r_lo [1, 2, 0] (lo' := [(0, .ref (wAd w (11, 12, 0, 0))), (1, .ref (wAd w (12, 12, 0, a1))), (2, .int 0)]) rfl ?_
    exact lp_X11_keeps_11 hW a1 ha1 C N 0 t hF
theorem dX11_slotCount_0 : decode cX11_slotCount 0 = .ok (.aload_n 0, 1) := by decide +kernel
theorem dX11_slotCount_1 : decode cX11_slotCount 1 = .ok (.iconst 0, 1) := by decide +kernel
theorem dX11_slotCount_2 : decode cX11_slotCount 2 = .ok (.putfield 58, 3) := by decide +kernel
theorem dX11_slotCount_5 : decode cX11_slotCount 5 = .ok (.aload_n 0, 1) := by decide +kernel
theorem dX11_slotCount_6 : decode cX11_slotCount 6 = .ok (.getfield 7, 3) := by decide +kernel
theorem dX11_slotCount_9 : decode cX11_slotCount 9 = .ok (.iconst 0, 1) := by decide +kernel
theorem dX11_slotCount_10 : decode cX11_slotCount 10 = .ok (.iaload, 1) := by decide +kernel
theorem dX11_slotCount_11 : decode cX11_slotCount 11 = .ok (.ireturn, 1) := by decide +kernel
def F_X11_slotCount (t : HV) : Option (Int32 × (HV)) := (lt (sS t 6 0) fun t1 => (if vpb 0 760 = true then some ((ag t1 0 0), t1) else none))
theorem c_X11_slotCount {w : WP} (hW : gWM w) {Ω : OM}  {t : HV} (e : Ω.2.1 = t)  {v : Int32} {t' : HV} (hF : F_X11_slotCount t = some (v, t')) {Ω' : OM} (e2 : (sM Ω t') = Ω') : gM w 0 yX11_slotCount cX11_slotCount 1 (some .int) [.ref (wAd w (11, 12, 0, 0))] (cA w Ω) (some (.int v)) (cA w Ω') := by
  refine gM_of "HedgeMessagesModel" rfl (by decide) (kR rfl) fun X C => ?_
  unfold F_X11_slotCount at hF
  subst e2
  show gV w X _ _ 0 [(0, .ref (wAd w (11, 12, 0, 0)))] []
  refine r_ct (ct' := cA w (sM Ω t)) (congrArg (cA w) (sM_i e).symm) ?_
  refine r_aload_n C (k := 0) rfl rfl dX11_slotCount_0 ?_
  refine r_iconst C (v := 0) rfl dX11_slotCount_1 ?_
  obtain ⟨t1, et1, hF⟩ := lt_e hF
  refine op_11_6 C hW.x (hW.fr k11) (show (sM Ω t).2.1 = t from rfl) wm7_73 dX11_slotCount_2 (congrArg (sM Ω) et1) ?_
  refine r_aload_n C (k := 0) rfl rfl dX11_slotCount_5 ?_
  refine og_11_0 C (hW.ok k11) wm7_67 dX11_slotCount_6 ?_
  refine r_iconst C (v := 0) rfl dX11_slotCount_9 ?_
  obtain ⟨b2, hF⟩ := gd_e hF
  refine m_ald C (hW.ok (k12 (a := 0) (by unfold okMa; decide))) (show (sM Ω t1).2.1 = t1 from rfl) rfl b2 dX11_slotCount_10 ?_
  cases hF
  exact r_ireturn C dX11_slotCount_11
theorem dX11_day_0 : decode cX11_day 0 = .ok (.aload_n 0, 1) := by decide +kernel
theorem dX11_day_1 : decode cX11_day 1 = .ok (.iconst 0, 1) := by decide +kernel
theorem dX11_day_2 : decode cX11_day 2 = .ok (.putfield 58, 3) := by decide +kernel
theorem dX11_day_5 : decode cX11_day 5 = .ok (.aload_n 0, 1) := by decide +kernel
theorem dX11_day_6 : decode cX11_day 6 = .ok (.getfield 7, 3) := by decide +kernel
theorem dX11_day_9 : decode cX11_day 9 = .ok (.bipush 6, 2) := by decide +kernel
theorem dX11_day_11 : decode cX11_day 11 = .ok (.iaload, 1) := by decide +kernel
theorem dX11_day_12 : decode cX11_day 12 = .ok (.ireturn, 1) := by decide +kernel
def F_X11_day (t : HV) : Option (Int32 × (HV)) := (lt (sS t 6 0) fun t1 => (if vpb 6 760 = true then some ((ag t1 0 6), t1) else none))
theorem c_X11_day {w : WP} (hW : gWM w) {Ω : OM}  {t : HV} (e : Ω.2.1 = t)  {v : Int32} {t' : HV} (hF : F_X11_day t = some (v, t')) {Ω' : OM} (e2 : (sM Ω t') = Ω') : gM w 0 yX11_day cX11_day 1 (some .int) [.ref (wAd w (11, 12, 0, 0))] (cA w Ω) (some (.int v)) (cA w Ω') := by
  refine gM_of "HedgeMessagesModel" rfl (by decide) (kR rfl) fun X C => ?_
  unfold F_X11_day at hF
  subst e2
  show gV w X _ _ 0 [(0, .ref (wAd w (11, 12, 0, 0)))] []
  refine r_ct (ct' := cA w (sM Ω t)) (congrArg (cA w) (sM_i e).symm) ?_
  refine r_aload_n C (k := 0) rfl rfl dX11_day_0 ?_
  refine r_iconst C (v := 0) rfl dX11_day_1 ?_
  obtain ⟨t1, et1, hF⟩ := lt_e hF
  refine op_11_6 C hW.x (hW.fr k11) (show (sM Ω t).2.1 = t from rfl) wm7_73 dX11_day_2 (congrArg (sM Ω) et1) ?_
  refine r_aload_n C (k := 0) rfl rfl dX11_day_5 ?_
  refine og_11_0 C (hW.ok k11) wm7_67 dX11_day_6 ?_
  refine r_bipush C (v := 6) rfl dX11_day_9 ?_
  obtain ⟨b2, hF⟩ := gd_e hF
  refine m_ald C (hW.ok (k12 (a := 0) (by unfold okMa; decide))) (show (sM Ω t1).2.1 = t1 from rfl) rfl b2 dX11_day_11 ?_
  cases hF
  exact r_ireturn C dX11_day_12
theorem dX11_activeGardener_0 : decode cX11_activeGardener 0 = .ok (.aload_n 0, 1) := by decide +kernel
theorem dX11_activeGardener_1 : decode cX11_activeGardener 1 = .ok (.iconst 0, 1) := by decide +kernel
theorem dX11_activeGardener_2 : decode cX11_activeGardener 2 = .ok (.putfield 58, 3) := by decide +kernel
theorem dX11_activeGardener_5 : decode cX11_activeGardener 5 = .ok (.aload_n 0, 1) := by decide +kernel
theorem dX11_activeGardener_6 : decode cX11_activeGardener 6 = .ok (.invokevirtual 173, 3) := by decide +kernel
theorem dX11_activeGardener_9 : decode cX11_activeGardener 9 = .ok (.ireturn, 1) := by decide +kernel
def F_X11_activeGardener (t : HV) : Option (Int32 × (HV)) := (lt (sS t 6 0) fun t1 => (ob1 (F_X11_activeNow t1) fun v2 => some (v2, t1)))
theorem c_X11_activeGardener {w : WP} (hW : gWM w) {Ω : OM}  {t : HV} (e : Ω.2.1 = t)  {v : Int32} {t' : HV} (hF : F_X11_activeGardener t = some (v, t')) {Ω' : OM} (e2 : (sM Ω t') = Ω') : gM w 1 yX11_activeGardener cX11_activeGardener 1 (some .int) [.ref (wAd w (11, 12, 0, 0))] (cA w Ω) (some (.int v)) (cA w Ω') := by
  refine gM_of "HedgeMessagesModel" rfl (by decide) (kR rfl) fun X C => ?_
  unfold F_X11_activeGardener at hF
  subst e2
  show gV w X _ _ 0 [(0, .ref (wAd w (11, 12, 0, 0)))] []
  refine r_ct (ct' := cA w (sM Ω t)) (congrArg (cA w) (sM_i e).symm) ?_
  refine r_aload_n C (k := 0) rfl rfl dX11_activeGardener_0 ?_
  refine r_iconst C (v := 0) rfl dX11_activeGardener_1 ?_
  obtain ⟨t1, et1, hF⟩ := lt_e hF
  refine op_11_6 C hW.x (hW.fr k11) (show (sM Ω t).2.1 = t from rfl) wm7_73 dX11_activeGardener_2 (congrArg (sM Ω) et1) ?_
  refine r_aload_n C (k := 0) rfl rfl dX11_activeGardener_5 ?_
  obtain ⟨v2, hv2, hF⟩ := ob1_e hF
  refine r_callV C (d' := 0) [] (c_X11_activeNow hW (show (sM Ω t1).2.1 = t1 from rfl) hv2) myX11_activeNow wm7_226 ⟨_, _, _, _, (hW.ok k11), rfl, rfl, rfl, rfl⟩ rfl (kR rfl) (by decide) (kR rfl) rfl dX11_activeGardener_6 ?_
  cases hF
  exact r_ireturn C dX11_activeGardener_9
theorem dX11_workLimit_0 : decode cX11_workLimit 0 = .ok (.aload_n 0, 1) := by decide +kernel
theorem dX11_workLimit_1 : decode cX11_workLimit 1 = .ok (.iconst 0, 1) := by decide +kernel
theorem dX11_workLimit_2 : decode cX11_workLimit 2 = .ok (.putfield 58, 3) := by decide +kernel
theorem dX11_workLimit_5 : decode cX11_workLimit 5 = .ok (.aload_n 0, 1) := by decide +kernel
theorem dX11_workLimit_6 : decode cX11_workLimit 6 = .ok (.getfield 7, 3) := by decide +kernel
theorem dX11_workLimit_9 : decode cX11_workLimit 9 = .ok (.iconst 1, 1) := by decide +kernel
theorem dX11_workLimit_10 : decode cX11_workLimit 10 = .ok (.iaload, 1) := by decide +kernel
theorem dX11_workLimit_11 : decode cX11_workLimit 11 = .ok (.ireturn, 1) := by decide +kernel
def F_X11_workLimit (t : HV) : Option (Int32 × (HV)) := (lt (sS t 6 0) fun t1 => (if vpb 1 760 = true then some ((ag t1 0 1), t1) else none))
theorem c_X11_workLimit {w : WP} (hW : gWM w) {Ω : OM}  {t : HV} (e : Ω.2.1 = t)  {v : Int32} {t' : HV} (hF : F_X11_workLimit t = some (v, t')) {Ω' : OM} (e2 : (sM Ω t') = Ω') : gM w 0 yX11_workLimit cX11_workLimit 1 (some .int) [.ref (wAd w (11, 12, 0, 0))] (cA w Ω) (some (.int v)) (cA w Ω') := by
  refine gM_of "HedgeMessagesModel" rfl (by decide) (kR rfl) fun X C => ?_
  unfold F_X11_workLimit at hF
  subst e2
  show gV w X _ _ 0 [(0, .ref (wAd w (11, 12, 0, 0)))] []
  refine r_ct (ct' := cA w (sM Ω t)) (congrArg (cA w) (sM_i e).symm) ?_
  refine r_aload_n C (k := 0) rfl rfl dX11_workLimit_0 ?_
  refine r_iconst C (v := 0) rfl dX11_workLimit_1 ?_
  obtain ⟨t1, et1, hF⟩ := lt_e hF
  refine op_11_6 C hW.x (hW.fr k11) (show (sM Ω t).2.1 = t from rfl) wm7_73 dX11_workLimit_2 (congrArg (sM Ω) et1) ?_
  refine r_aload_n C (k := 0) rfl rfl dX11_workLimit_5 ?_
  refine og_11_0 C (hW.ok k11) wm7_67 dX11_workLimit_6 ?_
  refine r_iconst C (v := 1) rfl dX11_workLimit_9 ?_
  obtain ⟨b2, hF⟩ := gd_e hF
  refine m_ald C (hW.ok (k12 (a := 0) (by unfold okMa; decide))) (show (sM Ω t1).2.1 = t1 from rfl) rfl b2 dX11_workLimit_10 ?_
  cases hF
  exact r_ireturn C dX11_workLimit_11
theorem dX11_actionsLeft_0 : decode cX11_actionsLeft 0 = .ok (.aload_n 0, 1) := by decide +kernel
theorem dX11_actionsLeft_1 : decode cX11_actionsLeft 1 = .ok (.iconst 0, 1) := by decide +kernel
theorem dX11_actionsLeft_2 : decode cX11_actionsLeft 2 = .ok (.putfield 58, 3) := by decide +kernel
theorem dX11_actionsLeft_5 : decode cX11_actionsLeft 5 = .ok (.aload_n 0, 1) := by decide +kernel
theorem dX11_actionsLeft_6 : decode cX11_actionsLeft 6 = .ok (.getfield 7, 3) := by decide +kernel
theorem dX11_actionsLeft_9 : decode cX11_actionsLeft 9 = .ok (.bipush 7, 2) := by decide +kernel
theorem dX11_actionsLeft_11 : decode cX11_actionsLeft 11 = .ok (.iaload, 1) := by decide +kernel
theorem dX11_actionsLeft_12 : decode cX11_actionsLeft 12 = .ok (.ireturn, 1) := by decide +kernel
def F_X11_actionsLeft (t : HV) : Option (Int32 × (HV)) := (lt (sS t 6 0) fun t1 => (if vpb 7 760 = true then some ((ag t1 0 7), t1) else none))
theorem c_X11_actionsLeft {w : WP} (hW : gWM w) {Ω : OM}  {t : HV} (e : Ω.2.1 = t)  {v : Int32} {t' : HV} (hF : F_X11_actionsLeft t = some (v, t')) {Ω' : OM} (e2 : (sM Ω t') = Ω') : gM w 0 yX11_actionsLeft cX11_actionsLeft 1 (some .int) [.ref (wAd w (11, 12, 0, 0))] (cA w Ω) (some (.int v)) (cA w Ω') := by
  refine gM_of "HedgeMessagesModel" rfl (by decide) (kR rfl) fun X C => ?_
  unfold F_X11_actionsLeft at hF
  subst e2
  show gV w X _ _ 0 [(0, .ref (wAd w (11, 12, 0, 0)))] []
  refine r_ct (ct' := cA w (sM Ω t)) (congrArg (cA w) (sM_i e).symm) ?_
  refine r_aload_n C (k := 0) rfl rfl dX11_actionsLeft_0 ?_
  refine r_iconst C (v := 0) rfl dX11_actionsLeft_1 ?_
  obtain ⟨t1, et1, hF⟩ := lt_e hF
  refine op_11_6 C hW.x (hW.fr k11) (show (sM Ω t).2.1 = t from rfl) wm7_73 dX11_actionsLeft_2 (congrArg (sM Ω) et1) ?_
  refine r_aload_n C (k := 0) rfl rfl dX11_actionsLeft_5 ?_
  refine og_11_0 C (hW.ok k11) wm7_67 dX11_actionsLeft_6 ?_
  refine r_bipush C (v := 7) rfl dX11_actionsLeft_9 ?_
  obtain ⟨b2, hF⟩ := gd_e hF
  refine m_ald C (hW.ok (k12 (a := 0) (by unfold okMa; decide))) (show (sM Ω t1).2.1 = t1 from rfl) rfl b2 dX11_actionsLeft_11 ?_
  cases hF
  exact r_ireturn C dX11_actionsLeft_12
theorem dX11_twigCount_0 : decode cX11_twigCount 0 = .ok (.aload_n 0, 1) := by decide +kernel
theorem dX11_twigCount_1 : decode cX11_twigCount 1 = .ok (.iconst 0, 1) := by decide +kernel
theorem dX11_twigCount_2 : decode cX11_twigCount 2 = .ok (.putfield 58, 3) := by decide +kernel
theorem dX11_twigCount_5 : decode cX11_twigCount 5 = .ok (.aload_n 0, 1) := by decide +kernel
theorem dX11_twigCount_6 : decode cX11_twigCount 6 = .ok (.invokevirtual 197, 3) := by decide +kernel
theorem dX11_twigCount_9 : decode cX11_twigCount 9 = .ok (.ireturn, 1) := by decide +kernel
def F_X11_twigCount (N : Nat) (t : HV) : Option (Int32 × (HV)) := (lt (sS t 6 0) fun t1 => (ob1 (F_X11_twigs N t1) fun v2 => some (v2, t1)))
theorem c_X11_twigCount {w : WP} (hW : gWM w) {Ω : OM}  {t : HV} (e : Ω.2.1 = t) (N : Nat)  {v : Int32} {t' : HV} (hF : F_X11_twigCount N t = some (v, t')) {Ω' : OM} (e2 : (sM Ω t') = Ω') : gM w 3 yX11_twigCount cX11_twigCount 1 (some .int) [.ref (wAd w (11, 12, 0, 0))] (cA w Ω) (some (.int v)) (cA w Ω') := by
  refine gM_of "HedgeMessagesModel" rfl (by decide) (kR rfl) fun X C => ?_
  unfold F_X11_twigCount at hF
  subst e2
  show gV w X _ _ 0 [(0, .ref (wAd w (11, 12, 0, 0)))] []
  refine r_ct (ct' := cA w (sM Ω t)) (congrArg (cA w) (sM_i e).symm) ?_
  refine r_aload_n C (k := 0) rfl rfl dX11_twigCount_0 ?_
  refine r_iconst C (v := 0) rfl dX11_twigCount_1 ?_
  obtain ⟨t1, et1, hF⟩ := lt_e hF
  refine op_11_6 C hW.x (hW.fr k11) (show (sM Ω t).2.1 = t from rfl) wm7_73 dX11_twigCount_2 (congrArg (sM Ω) et1) ?_
  refine r_aload_n C (k := 0) rfl rfl dX11_twigCount_5 ?_
  obtain ⟨v2, hv2, hF⟩ := ob1_e hF
  refine r_callV C (d' := 2) [] (c_X11_twigs hW (show (sM Ω t1).2.1 = t1 from rfl) N hv2) myX11_twigs wm7_230 ⟨_, _, _, _, (hW.ok k11), rfl, rfl, rfl, rfl⟩ rfl (kR rfl) (by decide) (kR rfl) rfl dX11_twigCount_6 ?_
  cases hF
  exact r_ireturn C dX11_twigCount_9
theorem dX11_letterAt_0 : decode cX11_letterAt 0 = .ok (.aload_n 0, 1) := by decide +kernel
theorem dX11_letterAt_1 : decode cX11_letterAt 1 = .ok (.aload_n 0, 1) := by decide +kernel
theorem dX11_letterAt_2 : decode cX11_letterAt 2 = .ok (.iload_n 1, 1) := by decide +kernel
theorem dX11_letterAt_3 : decode cX11_letterAt 3 = .ok (.invokevirtual 73, 3) := by decide +kernel
theorem dX11_letterAt_6 : decode cX11_letterAt 6 = .ok (.invokevirtual 221, 3) := by decide +kernel
theorem dX11_letterAt_9 : decode cX11_letterAt 9 = .ok (.ifCond .ne 5, 3) := by decide +kernel
theorem dX11_letterAt_12 : decode cX11_letterAt 12 = .ok (.iconst 0, 1) := by decide +kernel
theorem dX11_letterAt_13 : decode cX11_letterAt 13 = .ok (.ireturn, 1) := by decide +kernel
theorem dX11_letterAt_14 : decode cX11_letterAt 14 = .ok (.aload_n 0, 1) := by decide +kernel
theorem dX11_letterAt_15 : decode cX11_letterAt 15 = .ok (.iload_n 1, 1) := by decide +kernel
theorem dX11_letterAt_16 : decode cX11_letterAt 16 = .ok (.invokevirtual 84, 3) := by decide +kernel
theorem dX11_letterAt_19 : decode cX11_letterAt 19 = .ok (.ifCond .eq 12, 3) := by decide +kernel
theorem dX11_letterAt_22 : decode cX11_letterAt 22 = .ok (.aload_n 0, 1) := by decide +kernel
theorem dX11_letterAt_23 : decode cX11_letterAt 23 = .ok (.iload_n 1, 1) := by decide +kernel
theorem dX11_letterAt_24 : decode cX11_letterAt 24 = .ok (.iconst 0, 1) := by decide +kernel
theorem dX11_letterAt_25 : decode cX11_letterAt 25 = .ok (.invokevirtual 69, 3) := by decide +kernel
theorem dX11_letterAt_28 : decode cX11_letterAt 28 = .ok (.goto 4, 3) := by decide +kernel
theorem dX11_letterAt_31 : decode cX11_letterAt 31 = .ok (.iconst (-1), 1) := by decide +kernel
theorem dX11_letterAt_32 : decode cX11_letterAt 32 = .ok (.ireturn, 1) := by decide +kernel
def F_X11_letterAt (a1 : Int32) (t : HV) : Option (Int32 × (HV)) := (ob1 (F_X11_isSlot a1 t) fun v1 => (lt2 (F_X11_passes v1 t) fun v2 t3 => (if v2 = true then (ob1 (F_X11_hasTwig a1 t3) fun v4 => (if v4 = true then (ob1 (F_X11_of a1 0 t3) fun v5 => some (v5, t3)) else some ((-1), t3))) else some (0, t3))))
theorem c_X11_letterAt {w : WP} (hW : gWM w) {Ω : OM}  {t : HV} (e : Ω.2.1 = t) (a1 : Int32) {v : Int32} {t' : HV} (hF : F_X11_letterAt a1 t = some (v, t')) {Ω' : OM} (e2 : (sM Ω t') = Ω') : gM w 2 yX11_letterAt cX11_letterAt 2 (some .int) [.ref (wAd w (11, 12, 0, 0)), .int a1] (cA w Ω) (some (.int v)) (cA w Ω') := by
  refine gM_of "HedgeMessagesModel" rfl (by decide) (kR rfl) fun X C => ?_
  unfold F_X11_letterAt at hF
  subst e2
  show gV w X _ _ 0 [(0, .ref (wAd w (11, 12, 0, 0))), (1, .int a1)] []
  refine r_ct (ct' := cA w (sM Ω t)) (congrArg (cA w) (sM_i e).symm) ?_
  refine r_aload_n C (k := 0) rfl rfl dX11_letterAt_0 ?_
  refine r_aload_n C (k := 0) rfl rfl dX11_letterAt_1 ?_
  refine r_iload_n C (k := 1) rfl rfl dX11_letterAt_2 ?_
  obtain ⟨v1, hv1, hF⟩ := ob1_e hF
  refine r_callV C (d' := 1) [.int a1] (c_X11_isSlot hW (show (sM Ω t).2.1 = t from rfl) a1 hv1) myX11_isSlot wm7_27 ⟨_, _, _, _, (hW.ok k11), rfl, rfl, rfl, rfl⟩ rfl (kR rfl) (by decide) (kR rfl) rfl dX11_letterAt_3 ?_
  obtain ⟨v2, t3, ht3, hF⟩ := lt2_e hF
  refine r_callV C (d' := 0) [.int (b2i v1)] (c_X11_passes hW (show (sM Ω t).2.1 = t from rfl) v1 ht3 rfl) myX11_passes wm7_63 ⟨_, _, _, _, (hW.ok k11), rfl, rfl, rfl, rfl⟩ rfl (kR rfl) (by decide) (kR rfl) rfl dX11_letterAt_6 ?_
  refine r_if_ne C (tgt := 14) rfl dX11_letterAt_9 (fun hc => ?_) (fun hc => ?_)
  · rw [if_pos (b2i_t hc)] at hF
    refine r_aload_n C (k := 0) rfl rfl dX11_letterAt_14 ?_
    refine r_iload_n C (k := 1) rfl rfl dX11_letterAt_15 ?_
    obtain ⟨v4, hv4, hF⟩ := ob1_e hF
    refine r_callV C (d' := 1) [.int a1] (c_X11_hasTwig hW (show (sM Ω t3).2.1 = t3 from rfl) a1 hv4) myX11_hasTwig wm6_238 ⟨_, _, _, _, (hW.ok k11), rfl, rfl, rfl, rfl⟩ rfl (kR rfl) (by decide) (kR rfl) rfl dX11_letterAt_16 ?_
    refine r_if_eq C (tgt := 31) rfl dX11_letterAt_19 (fun hc => ?_) (fun hc => ?_)
    · rw [if_neg (b2i_f hc)] at hF
      refine r_iconst C (v := (-1)) (by decide) dX11_letterAt_31 ?_
      cases hF
      exact r_ireturn C dX11_letterAt_32
    · rw [if_pos (b2i_t hc)] at hF
      refine r_aload_n C (k := 0) rfl rfl dX11_letterAt_22 ?_
      refine r_iload_n C (k := 1) rfl rfl dX11_letterAt_23 ?_
      refine r_iconst C (v := 0) rfl dX11_letterAt_24 ?_
      obtain ⟨v5, hv5, hF⟩ := ob1_e hF
      refine r_callV C (d' := 0) [.int a1, .int 0] (c_X11_of hW (show (sM Ω t3).2.1 = t3 from rfl) a1 0 hv5) myX11_of wm7_2 ⟨_, _, _, _, (hW.ok k11), rfl, rfl, rfl, rfl⟩ rfl (kR rfl) (by decide) (kR rfl) rfl dX11_letterAt_25 ?_
      refine r_goto C (tgt := 32) rfl dX11_letterAt_28 ?_
      cases hF
      exact r_ireturn C dX11_letterAt_32
  · rw [if_neg (b2i_f hc)] at hF
    refine r_iconst C (v := 0) rfl dX11_letterAt_12 ?_
    cases hF
    exact r_ireturn C dX11_letterAt_13
