/-! ===== 21.model: printed by wip/whole/genmodel.py ===== -/
theorem dX11_posts_0 : decode cX11_posts 0 = .ok (.iload_n 1, 1) := by decide +kernel
theorem dX11_posts_1 : decode cX11_posts 1 = .ok (.invokestatic 91, 3) := by decide +kernel
theorem dX11_posts_4 : decode cX11_posts 4 = .ok (.istore_n 2, 1) := by decide +kernel
theorem dX11_posts_5 : decode cX11_posts 5 = .ok (.aload_n 0, 1) := by decide +kernel
theorem dX11_posts_6 : decode cX11_posts 6 = .ok (.getfield 7, 3) := by decide +kernel
theorem dX11_posts_9 : decode cX11_posts 9 = .ok (.bipush 11, 2) := by decide +kernel
theorem dX11_posts_11 : decode cX11_posts 11 = .ok (.iaload, 1) := by decide +kernel
theorem dX11_posts_12 : decode cX11_posts 12 = .ok (.invokestatic 95, 3) := by decide +kernel
theorem dX11_posts_15 : decode cX11_posts 15 = .ok (.istore_n 3, 1) := by decide +kernel
theorem dX11_posts_16 : decode cX11_posts 16 = .ok (.iconst 0, 1) := by decide +kernel
theorem dX11_posts_17 : decode cX11_posts 17 = .ok (.istore 4, 2) := by decide +kernel
theorem dX11_posts_19 : decode cX11_posts 19 = .ok (.iload 4, 2) := by decide +kernel
theorem dX11_posts_21 : decode cX11_posts 21 = .ok (.bipush 15, 2) := by decide +kernel
theorem dX11_posts_23 : decode cX11_posts 23 = .ok (.if_icmp .ge 27, 3) := by decide +kernel
theorem dX11_posts_26 : decode cX11_posts 26 = .ok (.aload_n 0, 1) := by decide +kernel
theorem dX11_posts_27 : decode cX11_posts 27 = .ok (.getfield 7, 3) := by decide +kernel
theorem dX11_posts_30 : decode cX11_posts 30 = .ok (.iload_n 3, 1) := by decide +kernel
theorem dX11_posts_31 : decode cX11_posts 31 = .ok (.iload 4, 2) := by decide +kernel
theorem dX11_posts_33 : decode cX11_posts 33 = .ok (.iadd, 1) := by decide +kernel
theorem dX11_posts_34 : decode cX11_posts 34 = .ok (.aload_n 0, 1) := by decide +kernel
theorem dX11_posts_35 : decode cX11_posts 35 = .ok (.getfield 7, 3) := by decide +kernel
theorem dX11_posts_38 : decode cX11_posts 38 = .ok (.iload_n 2, 1) := by decide +kernel
theorem dX11_posts_39 : decode cX11_posts 39 = .ok (.iload 4, 2) := by decide +kernel
theorem dX11_posts_41 : decode cX11_posts 41 = .ok (.iadd, 1) := by decide +kernel
theorem dX11_posts_42 : decode cX11_posts 42 = .ok (.iaload, 1) := by decide +kernel
theorem dX11_posts_43 : decode cX11_posts 43 = .ok (.iastore, 1) := by decide +kernel
theorem dX11_posts_44 : decode cX11_posts 44 = .ok (.iinc 4 1, 3) := by decide +kernel
theorem dX11_posts_47 : decode cX11_posts 47 = .ok (.goto (-28), 3) := by decide +kernel
theorem dX11_posts_50 : decode cX11_posts 50 = .ok (.aload_n 0, 1) := by decide +kernel
theorem dX11_posts_51 : decode cX11_posts 51 = .ok (.getfield 7, 3) := by decide +kernel
theorem dX11_posts_54 : decode cX11_posts 54 = .ok (.iload_n 3, 1) := by decide +kernel
theorem dX11_posts_55 : decode cX11_posts 55 = .ok (.bipush 14, 2) := by decide +kernel
theorem dX11_posts_57 : decode cX11_posts 57 = .ok (.iadd, 1) := by decide +kernel
theorem dX11_posts_58 : decode cX11_posts 58 = .ok (.iload_n 1, 1) := by decide +kernel
theorem dX11_posts_59 : decode cX11_posts 59 = .ok (.iastore, 1) := by decide +kernel
theorem dX11_posts_60 : decode cX11_posts 60 = .ok (.aload_n 0, 1) := by decide +kernel
theorem dX11_posts_61 : decode cX11_posts 61 = .ok (.getfield 7, 3) := by decide +kernel
theorem dX11_posts_64 : decode cX11_posts 64 = .ok (.iload_n 2, 1) := by decide +kernel
theorem dX11_posts_65 : decode cX11_posts 65 = .ok (.iconst 0, 1) := by decide +kernel
theorem dX11_posts_66 : decode cX11_posts 66 = .ok (.iastore, 1) := by decide +kernel
theorem dX11_posts_67 : decode cX11_posts 67 = .ok (.aload_n 0, 1) := by decide +kernel
theorem dX11_posts_68 : decode cX11_posts 68 = .ok (.getfield 7, 3) := by decide +kernel
theorem dX11_posts_71 : decode cX11_posts 71 = .ok (.bipush 11, 2) := by decide +kernel
theorem dX11_posts_73 : decode cX11_posts 73 = .ok (.dup2, 1) := by decide +kernel
theorem dX11_posts_74 : decode cX11_posts 74 = .ok (.iaload, 1) := by decide +kernel
theorem dX11_posts_75 : decode cX11_posts 75 = .ok (.iconst 1, 1) := by decide +kernel
theorem dX11_posts_76 : decode cX11_posts 76 = .ok (.iadd, 1) := by decide +kernel
theorem dX11_posts_77 : decode cX11_posts 77 = .ok (.iastore, 1) := by decide +kernel
theorem dX11_posts_78 : decode cX11_posts 78 = .ok (.return_, 1) := by decide +kernel
def st_X11_posts_19 (N : Nat) (l1 : Int32) (l2 : Int32) (l3 : Int32) (l4 : Int32) (t : HV) : Option ((Int32 × HV) ⊕ (HV)) := (if 15 ≤ l4 then (if vpb (l3 + 14) 760 = true then (lt (aw t 0 (l3 + 14) l1) fun t3 => (if vpb l2 760 = true then (lt (aw t3 0 l2 0) fun t5 => (if vpb 11 760 = true then (if vpb 11 760 = true then (lt (aw t5 0 11 ((ag t5 0 11) + 1)) fun t8 => some (.inr t8)) else none) else none)) else none)) else none) else (if vpb (l2 + l4) 760 = true then (if vpb (l3 + l4) 760 = true then (lt (aw t 0 (l3 + l4) (ag t 0 (l2 + l4))) fun t11 => some (.inl ((l4 + 1), t11))) else none) else none))
def F_X11_posts (N : Nat) (a1 : Int32) (t : HV) : Option (HV) := (if vpb 11 760 = true then (lpN N (fun z => st_X11_posts_19 N a1 (F_X11_progressOf a1) (F_X11_postAt (ag t 0 11)) z.1 z.2) (0, t)) else none)
theorem lp_X11_posts_19 {w : WP} (hW : gWM w) {Ω : OM}   (l1 : Int32) (l2 : Int32) (l3 : Int32) {N : Nat} {X : CX} (C : gC w X cX11_posts "HedgeMessagesModel" none 1 5) {t' : HV}  : ∀ (n : Nat) (l4 : Int32) (t : HV), lpN n (fun z : Int32 × HV => st_X11_posts_19 N l1 l2 l3 z.1 z.2) (l4, t) = some t' → gV w X (none, cA w (sM Ω t')) (cA w (sM Ω t)) 19 [(0, .ref (wAd w (11, 12, 0, 0))), (1, .int l1), (2, .int l2), (3, .int l3), (4, .int l4)] [] := by
  intro n
  induction n with
  | zero => intro l4 t hL; exact lpN_0 hL
  | succ n ih =>
    intro l4 t hL
    obtain ⟨q9, hF, hL⟩ := lpN_e hL
    change st_X11_posts_19 N l1 l2 l3 l4 t = some q9 at hF
    unfold st_X11_posts_19 at hF
    refine r_iload C (k := 4) rfl dX11_posts_19 ?_
    refine r_bipush C (v := 15) rfl dX11_posts_21 ?_
    refine r_icmp_ge C (tgt := 50) rfl dX11_posts_23 (fun hc => ?_) (fun hc => ?_)
    · rw [if_pos hc] at hF
      refine r_aload_n C (k := 0) rfl rfl dX11_posts_50 ?_
      refine og_11_0 C (hW.ok k11) wm7_67 dX11_posts_51 ?_
      refine r_iload_n C (k := 3) rfl rfl dX11_posts_54 ?_
      refine r_bipush C (v := 14) rfl dX11_posts_55 ?_
      refine r_iadd C dX11_posts_57 ?_
      refine r_iload_n C (k := 1) rfl rfl dX11_posts_58 ?_
      obtain ⟨b2, hF⟩ := gd_e hF
      obtain ⟨t3, et3, hF⟩ := lt_e hF
      refine m_ast C hW.x (hW.fr (k12 (a := 0) (by unfold okMa; decide))) (show (sM Ω t).2.1 = t from rfl) rfl b2 dX11_posts_59 (congrArg (sM Ω) et3) ?_
      refine r_aload_n C (k := 0) rfl rfl dX11_posts_60 ?_
      refine og_11_0 C (hW.ok k11) wm7_67 dX11_posts_61 ?_
      refine r_iload_n C (k := 2) rfl rfl dX11_posts_64 ?_
      refine r_iconst C (v := 0) rfl dX11_posts_65 ?_
      obtain ⟨b4, hF⟩ := gd_e hF
      obtain ⟨t5, et5, hF⟩ := lt_e hF
      refine m_ast C hW.x (hW.fr (k12 (a := 0) (by unfold okMa; decide))) (show (sM Ω t3).2.1 = t3 from rfl) rfl b4 dX11_posts_66 (congrArg (sM Ω) et5) ?_
      refine r_aload_n C (k := 0) rfl rfl dX11_posts_67 ?_
      refine og_11_0 C (hW.ok k11) wm7_67 dX11_posts_68 ?_
      refine r_bipush C (v := 11) rfl dX11_posts_71 ?_
      refine r_dup2_11 C rfl rfl dX11_posts_73 ?_
      obtain ⟨b6, hF⟩ := gd_e hF
      refine m_ald C (hW.ok (k12 (a := 0) (by unfold okMa; decide))) (show (sM Ω t5).2.1 = t5 from rfl) rfl b6 dX11_posts_74 ?_
      refine r_iconst C (v := 1) rfl dX11_posts_75 ?_
      refine r_iadd C dX11_posts_76 ?_
      obtain ⟨b7, hF⟩ := gd_e hF
      obtain ⟨t8, et8, hF⟩ := lt_e hF
      refine m_ast C hW.x (hW.fr (k12 (a := 0) (by unfold okMa; decide))) (show (sM Ω t5).2.1 = t5 from rfl) rfl b7 dX11_posts_77 (congrArg (sM Ω) et8) ?_
      cases hF
      change some _ = some _ at hL
      cases hL
      exact r_return C dX11_posts_78
    · rw [if_neg hc] at hF
      refine r_aload_n C (k := 0) rfl rfl dX11_posts_26 ?_
      refine og_11_0 C (hW.ok k11) wm7_67 dX11_posts_27 ?_
      refine r_iload_n C (k := 3) rfl rfl dX11_posts_30 ?_
      refine r_iload C (k := 4) rfl dX11_posts_31 ?_
      refine r_iadd C dX11_posts_33 ?_
      refine r_aload_n C (k := 0) rfl rfl dX11_posts_34 ?_
      refine og_11_0 C (hW.ok k11) wm7_67 dX11_posts_35 ?_
      refine r_iload_n C (k := 2) rfl rfl dX11_posts_38 ?_
      refine r_iload C (k := 4) rfl dX11_posts_39 ?_
      refine r_iadd C dX11_posts_41 ?_
      obtain ⟨b9, hF⟩ := gd_e hF
      refine m_ald C (hW.ok (k12 (a := 0) (by unfold okMa; decide))) (show (sM Ω t).2.1 = t from rfl) rfl b9 dX11_posts_42 ?_
      obtain ⟨b10, hF⟩ := gd_e hF
      obtain ⟨t11, et11, hF⟩ := lt_e hF
      refine m_ast C hW.x (hW.fr (k12 (a := 0) (by unfold okMa; decide))) (show (sM Ω t).2.1 = t from rfl) rfl b10 dX11_posts_43 (congrArg (sM Ω) et11) ?_
      refine r_iinc C (k := 4) (v := (l4 + 1)) (lo' := [(4, .int (l4 + 1)), (0, .ref (wAd w (11, 12, 0, 0))), (1, .int l1), (2, .int l2), (3, .int l3)]) rfl rfl (by decide) rfl dX11_posts_44 ?_
      refine r_goto C (tgt := 19) rfl dX11_posts_47 ?_
      cases hF
      change lpN n _ _ = some _ at hL
      refine r_lo [1, 2, 3, 4, 0] (lo' := [(0, .ref (wAd w (11, 12, 0, 0))), (1, .int l1), (2, .int l2), (3, .int l3), (4, .int (l4 + 1))]) rfl ?_
      exact ih (l4 + 1) t11 hL
theorem c_X11_posts {w : WP} (hW : gWM w) {Ω : OM}  {t : HV} (e : Ω.2.1 = t) (N : Nat) (a1 : Int32) {t' : HV} (hF : F_X11_posts N a1 t = some t') {Ω' : OM} (e2 : (sM Ω t') = Ω') : gM w 1 yX11_posts cX11_posts 5 none [.ref (wAd w (11, 12, 0, 0)), .int a1] (cA w Ω) none (cA w Ω') := by
  refine gM_of "HedgeMessagesModel" rfl (by decide) (kR rfl) fun X C => ?_
  unfold F_X11_posts at hF
  subst e2
  show gV w X _ _ 0 [(0, .ref (wAd w (11, 12, 0, 0))), (1, .int a1)] []
  refine r_ct (ct' := cA w (sM Ω t)) (congrArg (cA w) (sM_i e).symm) ?_
  refine r_iload_n C (k := 1) rfl rfl dX11_posts_0 ?_
  refine r_callS C (d' := 0) [.int a1] (c_X11_progressOf a1 rfl) myX11_progressOf wm7_223 rfl (kR rfl) (by decide) (kR rfl) rfl dX11_posts_1 ?_
  refine r_istore_n C (lo' := [(2, .int (F_X11_progressOf a1)), (0, .ref (wAd w (11, 12, 0, 0))), (1, .int a1)]) rfl (by decide) rfl dX11_posts_4 ?_
  refine r_aload_n C (k := 1) rfl rfl dX11_posts_5 ?_
  refine og_11_0 C (hW.ok k11) wm7_67 dX11_posts_6 ?_
  refine r_bipush C (v := 11) rfl dX11_posts_9 ?_
  obtain ⟨b1, hF⟩ := gd_e hF
  refine m_ald C (hW.ok (k12 (a := 0) (by unfold okMa; decide))) (show (sM Ω t).2.1 = t from rfl) rfl b1 dX11_posts_11 ?_
  refine r_callS C (d' := 0) [.int (ag t 0 11)] (c_X11_postAt (ag t 0 11) rfl) myX11_postAt wm7_216 rfl (kR rfl) (by decide) (kR rfl) rfl dX11_posts_12 ?_
  refine r_istore_n C (lo' := [(3, .int (F_X11_postAt (ag t 0 11))), (2, .int (F_X11_progressOf a1)), (0, .ref (wAd w (11, 12, 0, 0))), (1, .int a1)]) rfl (by decide) rfl dX11_posts_15 ?_
  refine r_iconst C (v := 0) rfl dX11_posts_16 ?_
  refine r_istore C (lo' := [(4, .int 0), (3, .int (F_X11_postAt (ag t 0 11))), (2, .int (F_X11_progressOf a1)), (0, .ref (wAd w (11, 12, 0, 0))), (1, .int a1)]) (by decide) rfl dX11_posts_17 ?_
  refine r_lo [3, 4, 2, 1, 0] (lo' := [(0, .ref (wAd w (11, 12, 0, 0))), (1, .int a1), (2, .int (F_X11_progressOf a1)), (3, .int (F_X11_postAt (ag t 0 11))), (4, .int 0)]) rfl ?_
  exact lp_X11_posts_19 hW a1 (F_X11_progressOf a1) (F_X11_postAt (ag t 0 11)) C N 0 t hF
theorem dX11_postGoes_0 : decode cX11_postGoes 0 = .ok (.aload_n 0, 1) := by decide +kernel
theorem dX11_postGoes_1 : decode cX11_postGoes 1 = .ok (.getfield 7, 3) := by decide +kernel
theorem dX11_postGoes_4 : decode cX11_postGoes 4 = .ok (.bipush 11, 2) := by decide +kernel
theorem dX11_postGoes_6 : decode cX11_postGoes 6 = .ok (.dup2, 1) := by decide +kernel
theorem dX11_postGoes_7 : decode cX11_postGoes 7 = .ok (.iaload, 1) := by decide +kernel
theorem dX11_postGoes_8 : decode cX11_postGoes 8 = .ok (.iconst 1, 1) := by decide +kernel
theorem dX11_postGoes_9 : decode cX11_postGoes 9 = .ok (.isub, 1) := by decide +kernel
theorem dX11_postGoes_10 : decode cX11_postGoes 10 = .ok (.iastore, 1) := by decide +kernel
theorem dX11_postGoes_11 : decode cX11_postGoes 11 = .ok (.iload_n 1, 1) := by decide +kernel
theorem dX11_postGoes_12 : decode cX11_postGoes 12 = .ok (.invokestatic 95, 3) := by decide +kernel
theorem dX11_postGoes_15 : decode cX11_postGoes 15 = .ok (.istore_n 2, 1) := by decide +kernel
theorem dX11_postGoes_16 : decode cX11_postGoes 16 = .ok (.iload_n 2, 1) := by decide +kernel
theorem dX11_postGoes_17 : decode cX11_postGoes 17 = .ok (.aload_n 0, 1) := by decide +kernel
theorem dX11_postGoes_18 : decode cX11_postGoes 18 = .ok (.getfield 7, 3) := by decide +kernel
theorem dX11_postGoes_21 : decode cX11_postGoes 21 = .ok (.bipush 11, 2) := by decide +kernel
theorem dX11_postGoes_23 : decode cX11_postGoes 23 = .ok (.iaload, 1) := by decide +kernel
theorem dX11_postGoes_24 : decode cX11_postGoes 24 = .ok (.invokestatic 95, 3) := by decide +kernel
theorem dX11_postGoes_27 : decode cX11_postGoes 27 = .ok (.if_icmp .ge 24, 3) := by decide +kernel
theorem dX11_postGoes_30 : decode cX11_postGoes 30 = .ok (.aload_n 0, 1) := by decide +kernel
theorem dX11_postGoes_31 : decode cX11_postGoes 31 = .ok (.getfield 7, 3) := by decide +kernel
theorem dX11_postGoes_34 : decode cX11_postGoes 34 = .ok (.iload_n 2, 1) := by decide +kernel
theorem dX11_postGoes_35 : decode cX11_postGoes 35 = .ok (.aload_n 0, 1) := by decide +kernel
theorem dX11_postGoes_36 : decode cX11_postGoes 36 = .ok (.getfield 7, 3) := by decide +kernel
theorem dX11_postGoes_39 : decode cX11_postGoes 39 = .ok (.iload_n 2, 1) := by decide +kernel
theorem dX11_postGoes_40 : decode cX11_postGoes 40 = .ok (.bipush 15, 2) := by decide +kernel
theorem dX11_postGoes_42 : decode cX11_postGoes 42 = .ok (.iadd, 1) := by decide +kernel
theorem dX11_postGoes_43 : decode cX11_postGoes 43 = .ok (.iaload, 1) := by decide +kernel
theorem dX11_postGoes_44 : decode cX11_postGoes 44 = .ok (.iastore, 1) := by decide +kernel
theorem dX11_postGoes_45 : decode cX11_postGoes 45 = .ok (.iinc 2 1, 3) := by decide +kernel
theorem dX11_postGoes_48 : decode cX11_postGoes 48 = .ok (.goto (-32), 3) := by decide +kernel
theorem dX11_postGoes_51 : decode cX11_postGoes 51 = .ok (.return_, 1) := by decide +kernel
def st_X11_postGoes_16 (N : Nat) (l2 : Int32) (t : HV) : Option ((Int32 × HV) ⊕ (HV)) := (if vpb 11 760 = true then (if (F_X11_postAt (ag t 0 11)) ≤ l2 then some (.inr t) else (if vpb (l2 + 15) 760 = true then (if vpb l2 760 = true then (lt (aw t 0 l2 (ag t 0 (l2 + 15))) fun t7 => some (.inl ((l2 + 1), t7))) else none) else none)) else none)
def F_X11_postGoes (N : Nat) (a1 : Int32) (t : HV) : Option (HV) := (if vpb 11 760 = true then (if vpb 11 760 = true then (lt (aw t 0 11 ((ag t 0 11) - 1)) fun t3 => (lpN N (fun z => st_X11_postGoes_16 N z.1 z.2) ((F_X11_postAt a1), t3))) else none) else none)
theorem lp_X11_postGoes_16 {w : WP} (hW : gWM w) {Ω : OM}    {N : Nat} {X : CX} (C : gC w X cX11_postGoes "HedgeMessagesModel" none 1 3) {t' : HV}  : ∀ (n : Nat) (l2 : Int32) (t : HV), lpN n (fun z : Int32 × HV => st_X11_postGoes_16 N z.1 z.2) (l2, t) = some t' → gV w X (none, cA w (sM Ω t')) (cA w (sM Ω t)) 16 [(0, .ref (wAd w (11, 12, 0, 0))), (2, .int l2)] [] := by
  intro n
  induction n with
  | zero => intro l2 t hL; exact lpN_0 hL
  | succ n ih =>
    intro l2 t hL
    obtain ⟨q9, hF, hL⟩ := lpN_e hL
    change st_X11_postGoes_16 N l2 t = some q9 at hF
    unfold st_X11_postGoes_16 at hF
    refine r_iload_n C (k := 1) rfl rfl dX11_postGoes_16 ?_
    refine r_aload_n C (k := 0) rfl rfl dX11_postGoes_17 ?_
    refine og_11_0 C (hW.ok k11) wm7_67 dX11_postGoes_18 ?_
    refine r_bipush C (v := 11) rfl dX11_postGoes_21 ?_
    obtain ⟨b4, hF⟩ := gd_e hF
    refine m_ald C (hW.ok (k12 (a := 0) (by unfold okMa; decide))) (show (sM Ω t).2.1 = t from rfl) rfl b4 dX11_postGoes_23 ?_
    refine r_callS C (d' := 0) [.int (ag t 0 11)] (c_X11_postAt (ag t 0 11) rfl) myX11_postAt wm7_216 rfl (kR rfl) (by decide) (kR rfl) rfl dX11_postGoes_24 ?_
    refine r_icmp_ge C (tgt := 51) rfl dX11_postGoes_27 (fun hc => ?_) (fun hc => ?_)
    · rw [if_pos hc] at hF
      cases hF
      change some _ = some _ at hL
      cases hL
      exact r_return C dX11_postGoes_51
    · rw [if_neg hc] at hF
      refine r_aload_n C (k := 0) rfl rfl dX11_postGoes_30 ?_
      refine og_11_0 C (hW.ok k11) wm7_67 dX11_postGoes_31 ?_
      refine r_iload_n C (k := 1) rfl rfl dX11_postGoes_34 ?_
      refine r_aload_n C (k := 0) rfl rfl dX11_postGoes_35 ?_
      refine og_11_0 C (hW.ok k11) wm7_67 dX11_postGoes_36 ?_
      refine r_iload_n C (k := 1) rfl rfl dX11_postGoes_39 ?_
      refine r_bipush C (v := 15) rfl dX11_postGoes_40 ?_
      refine r_iadd C dX11_postGoes_42 ?_
      obtain ⟨b5, hF⟩ := gd_e hF
      refine m_ald C (hW.ok (k12 (a := 0) (by unfold okMa; decide))) (show (sM Ω t).2.1 = t from rfl) rfl b5 dX11_postGoes_43 ?_
      obtain ⟨b6, hF⟩ := gd_e hF
      obtain ⟨t7, et7, hF⟩ := lt_e hF
      refine m_ast C hW.x (hW.fr (k12 (a := 0) (by unfold okMa; decide))) (show (sM Ω t).2.1 = t from rfl) rfl b6 dX11_postGoes_44 (congrArg (sM Ω) et7) ?_
      refine r_iinc C (k := 1) (v := (l2 + 1)) (lo' := [(2, .int (l2 + 1)), (0, .ref (wAd w (11, 12, 0, 0)))]) rfl rfl (by decide) rfl dX11_postGoes_45 ?_
      refine r_goto C (tgt := 16) rfl dX11_postGoes_48 ?_
      cases hF
      change lpN n _ _ = some _ at hL
      refine r_lo [1, 0] (lo' := [(0, .ref (wAd w (11, 12, 0, 0))), (2, .int (l2 + 1))]) rfl ?_
      exact ih (l2 + 1) t7 hL
theorem c_X11_postGoes {w : WP} (hW : gWM w) {Ω : OM}  {t : HV} (e : Ω.2.1 = t) (N : Nat) (a1 : Int32) {t' : HV} (hF : F_X11_postGoes N a1 t = some t') {Ω' : OM} (e2 : (sM Ω t') = Ω') : gM w 1 yX11_postGoes cX11_postGoes 3 none [.ref (wAd w (11, 12, 0, 0)), .int a1] (cA w Ω) none (cA w Ω') := by
  refine gM_of "HedgeMessagesModel" rfl (by decide) (kR rfl) fun X C => ?_
  unfold F_X11_postGoes at hF
  subst e2
  show gV w X _ _ 0 [(0, .ref (wAd w (11, 12, 0, 0))), (1, .int a1)] []
  refine r_ct (ct' := cA w (sM Ω t)) (congrArg (cA w) (sM_i e).symm) ?_
  refine r_aload_n C (k := 0) rfl rfl dX11_postGoes_0 ?_
  refine og_11_0 C (hW.ok k11) wm7_67 dX11_postGoes_1 ?_
  refine r_bipush C (v := 11) rfl dX11_postGoes_4 ?_
  refine r_dup2_11 C rfl rfl dX11_postGoes_6 ?_
  obtain ⟨b1, hF⟩ := gd_e hF
  refine m_ald C (hW.ok (k12 (a := 0) (by unfold okMa; decide))) (show (sM Ω t).2.1 = t from rfl) rfl b1 dX11_postGoes_7 ?_
  refine r_iconst C (v := 1) rfl dX11_postGoes_8 ?_
  refine r_isub C dX11_postGoes_9 ?_
  obtain ⟨b2, hF⟩ := gd_e hF
  obtain ⟨t3, et3, hF⟩ := lt_e hF
  refine m_ast C hW.x (hW.fr (k12 (a := 0) (by unfold okMa; decide))) (show (sM Ω t).2.1 = t from rfl) rfl b2 dX11_postGoes_10 (congrArg (sM Ω) et3) ?_
  refine r_iload_n C (k := 1) rfl rfl dX11_postGoes_11 ?_
  refine r_callS C (d' := 0) [.int a1] (c_X11_postAt a1 rfl) myX11_postAt wm7_216 rfl (kR rfl) (by decide) (kR rfl) rfl dX11_postGoes_12 ?_
  refine r_istore_n C (lo' := [(2, .int (F_X11_postAt a1)), (0, .ref (wAd w (11, 12, 0, 0))), (1, .int a1)]) rfl (by decide) rfl dX11_postGoes_15 ?_
  refine r_lo [1, 0] (lo' := [(0, .ref (wAd w (11, 12, 0, 0))), (2, .int (F_X11_postAt a1))]) rfl ?_
  exact lp_X11_postGoes_16 hW C N (F_X11_postAt a1) t3 hF
theorem dX11_clearsTwigs_0 : decode cX11_clearsTwigs 0 = .ok (.iconst 0, 1) := by decide +kernel
theorem dX11_clearsTwigs_1 : decode cX11_clearsTwigs 1 = .ok (.istore_n 3, 1) := by decide +kernel
theorem dX11_clearsTwigs_2 : decode cX11_clearsTwigs 2 = .ok (.iload_n 3, 1) := by decide +kernel
theorem dX11_clearsTwigs_3 : decode cX11_clearsTwigs 3 = .ok (.iload_n 2, 1) := by decide +kernel
theorem dX11_clearsTwigs_4 : decode cX11_clearsTwigs 4 = .ok (.if_icmp .ge 48, 3) := by decide +kernel
theorem dX11_clearsTwigs_7 : decode cX11_clearsTwigs 7 = .ok (.aload_n 0, 1) := by decide +kernel
theorem dX11_clearsTwigs_8 : decode cX11_clearsTwigs 8 = .ok (.getfield 7, 3) := by decide +kernel
theorem dX11_clearsTwigs_11 : decode cX11_clearsTwigs 11 = .ok (.iload_n 1, 1) := by decide +kernel
theorem dX11_clearsTwigs_12 : decode cX11_clearsTwigs 12 = .ok (.bipush 13, 2) := by decide +kernel
theorem dX11_clearsTwigs_14 : decode cX11_clearsTwigs 14 = .ok (.iadd, 1) := by decide +kernel
theorem dX11_clearsTwigs_15 : decode cX11_clearsTwigs 15 = .ok (.iaload, 1) := by decide +kernel
theorem dX11_clearsTwigs_16 : decode cX11_clearsTwigs 16 = .ok (.iload_n 3, 1) := by decide +kernel
theorem dX11_clearsTwigs_17 : decode cX11_clearsTwigs 17 = .ok (.iadd, 1) := by decide +kernel
theorem dX11_clearsTwigs_18 : decode cX11_clearsTwigs 18 = .ok (.istore 4, 2) := by decide +kernel
theorem dX11_clearsTwigs_20 : decode cX11_clearsTwigs 20 = .ok (.aload_n 0, 1) := by decide +kernel
theorem dX11_clearsTwigs_21 : decode cX11_clearsTwigs 21 = .ok (.iload 4, 2) := by decide +kernel
theorem dX11_clearsTwigs_23 : decode cX11_clearsTwigs 23 = .ok (.invokevirtual 84, 3) := by decide +kernel
theorem dX11_clearsTwigs_26 : decode cX11_clearsTwigs 26 = .ok (.ifCond .eq 20, 3) := by decide +kernel
theorem dX11_clearsTwigs_29 : decode cX11_clearsTwigs 29 = .ok (.aload_n 0, 1) := by decide +kernel
theorem dX11_clearsTwigs_30 : decode cX11_clearsTwigs 30 = .ok (.iload 4, 2) := by decide +kernel
theorem dX11_clearsTwigs_32 : decode cX11_clearsTwigs 32 = .ok (.invokevirtual 124, 3) := by decide +kernel
theorem dX11_clearsTwigs_35 : decode cX11_clearsTwigs 35 = .ok (.aload_n 0, 1) := by decide +kernel
theorem dX11_clearsTwigs_36 : decode cX11_clearsTwigs 36 = .ok (.getfield 7, 3) := by decide +kernel
theorem dX11_clearsTwigs_39 : decode cX11_clearsTwigs 39 = .ok (.bipush 10, 2) := by decide +kernel
theorem dX11_clearsTwigs_41 : decode cX11_clearsTwigs 41 = .ok (.dup2, 1) := by decide +kernel
theorem dX11_clearsTwigs_42 : decode cX11_clearsTwigs 42 = .ok (.iaload, 1) := by decide +kernel
theorem dX11_clearsTwigs_43 : decode cX11_clearsTwigs 43 = .ok (.iconst 1, 1) := by decide +kernel
theorem dX11_clearsTwigs_44 : decode cX11_clearsTwigs 44 = .ok (.iadd, 1) := by decide +kernel
theorem dX11_clearsTwigs_45 : decode cX11_clearsTwigs 45 = .ok (.iastore, 1) := by decide +kernel
theorem dX11_clearsTwigs_46 : decode cX11_clearsTwigs 46 = .ok (.iinc 3 1, 3) := by decide +kernel
theorem dX11_clearsTwigs_49 : decode cX11_clearsTwigs 49 = .ok (.goto (-47), 3) := by decide +kernel
theorem dX11_clearsTwigs_52 : decode cX11_clearsTwigs 52 = .ok (.return_, 1) := by decide +kernel
def st_X11_clearsTwigs_2 (N : Nat) (l1 : Int32) (l2 : Int32) (l3 : Int32) (t : HV) : Option ((Int32 × HV) ⊕ (HV)) := (if l2 ≤ l3 then some (.inr t) else (if vpb (l1 + 13) 760 = true then (ob1 (F_X11_hasTwig ((ag t 0 (l1 + 13)) + l3) t) fun v2 => (if v2 = true then (ob1 (F_X11_twigGoes N ((ag t 0 (l1 + 13)) + l3) t) fun t4 => (if vpb 10 760 = true then (if vpb 10 760 = true then (lt (aw t4 0 10 ((ag t4 0 10) + 1)) fun t7 => some (.inl ((l3 + 1), t7))) else none) else none)) else some (.inl ((l3 + 1), t)))) else none))
def F_X11_clearsTwigs (N : Nat) (a1 : Int32) (a2 : Int32) (t : HV) : Option (HV) := (lpN N (fun z => st_X11_clearsTwigs_2 N a1 a2 z.1 z.2) (0, t))
theorem lp_X11_clearsTwigs_2 {w : WP} (hW : gWM w) {Ω : OM}   (l1 : Int32) (l2 : Int32) {N : Nat} {X : CX} (C : gC w X cX11_clearsTwigs "HedgeMessagesModel" none 2 5) {t' : HV}  : ∀ (n : Nat) (l3 : Int32) (t : HV), lpN n (fun z : Int32 × HV => st_X11_clearsTwigs_2 N l1 l2 z.1 z.2) (l3, t) = some t' → gV w X (none, cA w (sM Ω t')) (cA w (sM Ω t)) 2 [(0, .ref (wAd w (11, 12, 0, 0))), (1, .int l1), (2, .int l2), (3, .int l3)] [] := by
  intro n
  induction n with
  | zero => intro l3 t hL; exact lpN_0 hL
  | succ n ih =>
    intro l3 t hL
    obtain ⟨q9, hF, hL⟩ := lpN_e hL
    change st_X11_clearsTwigs_2 N l1 l2 l3 t = some q9 at hF
    unfold st_X11_clearsTwigs_2 at hF
    refine r_iload_n C (k := 3) rfl rfl dX11_clearsTwigs_2 ?_
    refine r_iload_n C (k := 2) rfl rfl dX11_clearsTwigs_3 ?_
    refine r_icmp_ge C (tgt := 52) rfl dX11_clearsTwigs_4 (fun hc => ?_) (fun hc => ?_)
    · rw [if_pos hc] at hF
      cases hF
      change some _ = some _ at hL
      cases hL
      exact r_return C dX11_clearsTwigs_52
    · rw [if_neg hc] at hF
      refine r_aload_n C (k := 0) rfl rfl dX11_clearsTwigs_7 ?_
      refine og_11_0 C (hW.ok k11) wm7_67 dX11_clearsTwigs_8 ?_
      refine r_iload_n C (k := 1) rfl rfl dX11_clearsTwigs_11 ?_
      refine r_bipush C (v := 13) rfl dX11_clearsTwigs_12 ?_
      refine r_iadd C dX11_clearsTwigs_14 ?_
      obtain ⟨b1, hF⟩ := gd_e hF
      refine m_ald C (hW.ok (k12 (a := 0) (by unfold okMa; decide))) (show (sM Ω t).2.1 = t from rfl) rfl b1 dX11_clearsTwigs_15 ?_
      refine r_iload_n C (k := 3) rfl rfl dX11_clearsTwigs_16 ?_
      refine r_iadd C dX11_clearsTwigs_17 ?_
      refine r_istore C (lo' := [(4, .int ((ag t 0 (l1 + 13)) + l3)), (0, .ref (wAd w (11, 12, 0, 0))), (1, .int l1), (2, .int l2), (3, .int l3)]) (by decide) rfl dX11_clearsTwigs_18 ?_
      refine r_aload_n C (k := 1) rfl rfl dX11_clearsTwigs_20 ?_
      refine r_iload C (k := 0) rfl dX11_clearsTwigs_21 ?_
      obtain ⟨v2, hv2, hF⟩ := ob1_e hF
      refine r_callV C (d' := 1) [.int ((ag t 0 (l1 + 13)) + l3)] (c_X11_hasTwig hW (show (sM Ω t).2.1 = t from rfl) ((ag t 0 (l1 + 13)) + l3) hv2) myX11_hasTwig wm6_238 ⟨_, _, _, _, (hW.ok k11), rfl, rfl, rfl, rfl⟩ rfl (kR rfl) (by decide) (kR rfl) rfl dX11_clearsTwigs_23 ?_
      refine r_if_eq C (tgt := 46) rfl dX11_clearsTwigs_26 (fun hc => ?_) (fun hc => ?_)
      · rw [if_neg (b2i_f hc)] at hF
        refine r_iinc C (k := 4) (v := (l3 + 1)) (lo' := [(3, .int (l3 + 1)), (4, .int ((ag t 0 (l1 + 13)) + l3)), (0, .ref (wAd w (11, 12, 0, 0))), (1, .int l1), (2, .int l2)]) rfl rfl (by decide) rfl dX11_clearsTwigs_46 ?_
        refine r_goto C (tgt := 2) rfl dX11_clearsTwigs_49 ?_
        cases hF
        change lpN n _ _ = some _ at hL
        refine r_lo [2, 3, 4, 0] (lo' := [(0, .ref (wAd w (11, 12, 0, 0))), (1, .int l1), (2, .int l2), (3, .int (l3 + 1))]) rfl ?_
        exact ih (l3 + 1) t hL
      · rw [if_pos (b2i_t hc)] at hF
        refine r_aload_n C (k := 1) rfl rfl dX11_clearsTwigs_29 ?_
        refine r_iload C (k := 0) rfl dX11_clearsTwigs_30 ?_
        obtain ⟨t4, ht4, hF⟩ := ob1_e hF
        refine r_callV C (d' := 1) [.int ((ag t 0 (l1 + 13)) + l3)] (c_X11_twigGoes hW (show (sM Ω t).2.1 = t from rfl) N ((ag t 0 (l1 + 13)) + l3) ht4 rfl) myX11_twigGoes wm8_10 ⟨_, _, _, _, (hW.ok k11), rfl, rfl, rfl, rfl⟩ rfl (kR rfl) (by decide) (kR rfl) rfl dX11_clearsTwigs_32 ?_
        refine r_aload_n C (k := 1) rfl rfl dX11_clearsTwigs_35 ?_
        refine og_11_0 C (hW.ok k11) wm7_67 dX11_clearsTwigs_36 ?_
        refine r_bipush C (v := 10) rfl dX11_clearsTwigs_39 ?_
        refine r_dup2_11 C rfl rfl dX11_clearsTwigs_41 ?_
        obtain ⟨b5, hF⟩ := gd_e hF
        refine m_ald C (hW.ok (k12 (a := 0) (by unfold okMa; decide))) (show (sM Ω t4).2.1 = t4 from rfl) rfl b5 dX11_clearsTwigs_42 ?_
        refine r_iconst C (v := 1) rfl dX11_clearsTwigs_43 ?_
        refine r_iadd C dX11_clearsTwigs_44 ?_
        obtain ⟨b6, hF⟩ := gd_e hF
        obtain ⟨t7, et7, hF⟩ := lt_e hF
        refine m_ast C hW.x (hW.fr (k12 (a := 0) (by unfold okMa; decide))) (show (sM Ω t4).2.1 = t4 from rfl) rfl b6 dX11_clearsTwigs_45 (congrArg (sM Ω) et7) ?_
        refine r_iinc C (k := 4) (v := (l3 + 1)) (lo' := [(3, .int (l3 + 1)), (4, .int ((ag t 0 (l1 + 13)) + l3)), (0, .ref (wAd w (11, 12, 0, 0))), (1, .int l1), (2, .int l2)]) rfl rfl (by decide) rfl dX11_clearsTwigs_46 ?_
        refine r_goto C (tgt := 2) rfl dX11_clearsTwigs_49 ?_
        cases hF
        change lpN n _ _ = some _ at hL
        refine r_lo [2, 3, 4, 0] (lo' := [(0, .ref (wAd w (11, 12, 0, 0))), (1, .int l1), (2, .int l2), (3, .int (l3 + 1))]) rfl ?_
        exact ih (l3 + 1) t7 hL
theorem c_X11_clearsTwigs {w : WP} (hW : gWM w) {Ω : OM}  {t : HV} (e : Ω.2.1 = t) (N : Nat) (a1 : Int32) (a2 : Int32) {t' : HV} (hF : F_X11_clearsTwigs N a1 a2 t = some t') {Ω' : OM} (e2 : (sM Ω t') = Ω') : gM w 2 yX11_clearsTwigs cX11_clearsTwigs 5 none [.ref (wAd w (11, 12, 0, 0)), .int a1, .int a2] (cA w Ω) none (cA w Ω') := by
  refine gM_of "HedgeMessagesModel" rfl (by decide) (kR rfl) fun X C => ?_
  unfold F_X11_clearsTwigs at hF
  subst e2
  show gV w X _ _ 0 [(0, .ref (wAd w (11, 12, 0, 0))), (1, .int a1), (2, .int a2)] []
  refine r_ct (ct' := cA w (sM Ω t)) (congrArg (cA w) (sM_i e).symm) ?_
  refine r_iconst C (v := 0) rfl dX11_clearsTwigs_0 ?_
  refine r_istore_n C (lo' := [(3, .int 0), (0, .ref (wAd w (11, 12, 0, 0))), (1, .int a1), (2, .int a2)]) rfl (by decide) rfl dX11_clearsTwigs_1 ?_
  refine r_lo [1, 2, 3, 0] (lo' := [(0, .ref (wAd w (11, 12, 0, 0))), (1, .int a1), (2, .int a2), (3, .int 0)]) rfl ?_
  exact lp_X11_clearsTwigs_2 hW a1 a2 C N 0 t hF
theorem dX11_delivers_0 : decode cX11_delivers 0 = .ok (.iconst 0, 1) := by decide +kernel
theorem dX11_delivers_1 : decode cX11_delivers 1 = .ok (.istore_n 2, 1) := by decide +kernel
theorem dX11_delivers_2 : decode cX11_delivers 2 = .ok (.iload_n 2, 1) := by decide +kernel
theorem dX11_delivers_3 : decode cX11_delivers 3 = .ok (.aload_n 0, 1) := by decide +kernel
theorem dX11_delivers_4 : decode cX11_delivers 4 = .ok (.getfield 7, 3) := by decide +kernel
theorem dX11_delivers_7 : decode cX11_delivers 7 = .ok (.bipush 11, 2) := by decide +kernel
theorem dX11_delivers_9 : decode cX11_delivers 9 = .ok (.iaload, 1) := by decide +kernel
theorem dX11_delivers_10 : decode cX11_delivers 10 = .ok (.if_icmp .ge 59, 3) := by decide +kernel
theorem dX11_delivers_13 : decode cX11_delivers 13 = .ok (.iload_n 2, 1) := by decide +kernel
theorem dX11_delivers_14 : decode cX11_delivers 14 = .ok (.invokestatic 95, 3) := by decide +kernel
theorem dX11_delivers_17 : decode cX11_delivers 17 = .ok (.istore_n 3, 1) := by decide +kernel
theorem dX11_delivers_18 : decode cX11_delivers 18 = .ok (.aload_n 0, 1) := by decide +kernel
theorem dX11_delivers_19 : decode cX11_delivers 19 = .ok (.getfield 7, 3) := by decide +kernel
theorem dX11_delivers_22 : decode cX11_delivers 22 = .ok (.iload_n 3, 1) := by decide +kernel
theorem dX11_delivers_23 : decode cX11_delivers 23 = .ok (.bipush 14, 2) := by decide +kernel
theorem dX11_delivers_25 : decode cX11_delivers 25 = .ok (.iadd, 1) := by decide +kernel
theorem dX11_delivers_26 : decode cX11_delivers 26 = .ok (.iaload, 1) := by decide +kernel
theorem dX11_delivers_27 : decode cX11_delivers 27 = .ok (.iload_n 1, 1) := by decide +kernel
theorem dX11_delivers_28 : decode cX11_delivers 28 = .ok (.if_icmp .eq 9, 3) := by decide +kernel
theorem dX11_delivers_31 : decode cX11_delivers 31 = .ok (.iinc 2 1, 3) := by decide +kernel
theorem dX11_delivers_34 : decode cX11_delivers 34 = .ok (.goto (-32), 3) := by decide +kernel
theorem dX11_delivers_37 : decode cX11_delivers 37 = .ok (.aload_n 0, 1) := by decide +kernel
theorem dX11_delivers_38 : decode cX11_delivers 38 = .ok (.iload_n 3, 1) := by decide +kernel
theorem dX11_delivers_39 : decode cX11_delivers 39 = .ok (.aload_n 0, 1) := by decide +kernel
theorem dX11_delivers_40 : decode cX11_delivers 40 = .ok (.getfield 7, 3) := by decide +kernel
theorem dX11_delivers_43 : decode cX11_delivers 43 = .ok (.iload_n 3, 1) := by decide +kernel
theorem dX11_delivers_44 : decode cX11_delivers 44 = .ok (.iaload, 1) := by decide +kernel
theorem dX11_delivers_45 : decode cX11_delivers 45 = .ok (.invokevirtual 128, 3) := by decide +kernel
theorem dX11_delivers_48 : decode cX11_delivers 48 = .ok (.aload_n 0, 1) := by decide +kernel
theorem dX11_delivers_49 : decode cX11_delivers 49 = .ok (.iload_n 2, 1) := by decide +kernel
theorem dX11_delivers_50 : decode cX11_delivers 50 = .ok (.invokevirtual 131, 3) := by decide +kernel
theorem dX11_delivers_53 : decode cX11_delivers 53 = .ok (.aload_n 0, 1) := by decide +kernel
theorem dX11_delivers_54 : decode cX11_delivers 54 = .ok (.getfield 7, 3) := by decide +kernel
theorem dX11_delivers_57 : decode cX11_delivers 57 = .ok (.bipush 16, 2) := by decide +kernel
theorem dX11_delivers_59 : decode cX11_delivers 59 = .ok (.iload_n 1, 1) := by decide +kernel
theorem dX11_delivers_60 : decode cX11_delivers 60 = .ok (.iadd, 1) := by decide +kernel
theorem dX11_delivers_61 : decode cX11_delivers 61 = .ok (.dup2, 1) := by decide +kernel
theorem dX11_delivers_62 : decode cX11_delivers 62 = .ok (.iaload, 1) := by decide +kernel
theorem dX11_delivers_63 : decode cX11_delivers 63 = .ok (.iconst 1, 1) := by decide +kernel
theorem dX11_delivers_64 : decode cX11_delivers 64 = .ok (.iadd, 1) := by decide +kernel
theorem dX11_delivers_65 : decode cX11_delivers 65 = .ok (.iastore, 1) := by decide +kernel
theorem dX11_delivers_66 : decode cX11_delivers 66 = .ok (.goto (-64), 3) := by decide +kernel
theorem dX11_delivers_69 : decode cX11_delivers 69 = .ok (.return_, 1) := by decide +kernel
def st_X11_delivers_2 (N : Nat) (l1 : Int32) (l2 : Int32) (t : HV) : Option ((Int32 × HV) ⊕ (HV)) := (if vpb 11 760 = true then (if (ag t 0 11) ≤ l2 then some (.inr t) else (if vpb ((F_X11_postAt l2) + 14) 760 = true then (if (ag t 0 ((F_X11_postAt l2) + 14)) = l1 then (if vpb (F_X11_postAt l2) 760 = true then (ob1 (F_X11_clearsTwigs N (F_X11_postAt l2) (ag t 0 (F_X11_postAt l2)) t) fun t5 => (ob1 (F_X11_postGoes N l2 t5) fun t7 => (if vpb (16 + l1) 760 = true then (if vpb (16 + l1) 760 = true then (lt (aw t7 0 (16 + l1) ((ag t7 0 (16 + l1)) + 1)) fun t10 => some (.inl (l2, t10))) else none) else none))) else none) else some (.inl ((l2 + 1), t))) else none)) else none)
def F_X11_delivers (N : Nat) (a1 : Int32) (t : HV) : Option (HV) := (lpN N (fun z => st_X11_delivers_2 N a1 z.1 z.2) (0, t))
theorem lp_X11_delivers_2 {w : WP} (hW : gWM w) {Ω : OM}   (l1 : Int32) {N : Nat} {X : CX} (C : gC w X cX11_delivers "HedgeMessagesModel" none 3 4) {t' : HV}  : ∀ (n : Nat) (l2 : Int32) (t : HV), lpN n (fun z : Int32 × HV => st_X11_delivers_2 N l1 z.1 z.2) (l2, t) = some t' → gV w X (none, cA w (sM Ω t')) (cA w (sM Ω t)) 2 [(0, .ref (wAd w (11, 12, 0, 0))), (1, .int l1), (2, .int l2)] [] := by
  intro n
  induction n with
  | zero => intro l2 t hL; exact lpN_0 hL
  | succ n ih =>
    intro l2 t hL
    obtain ⟨q9, hF, hL⟩ := lpN_e hL
    change st_X11_delivers_2 N l1 l2 t = some q9 at hF
    unfold st_X11_delivers_2 at hF
    refine r_iload_n C (k := 2) rfl rfl dX11_delivers_2 ?_
    refine r_aload_n C (k := 0) rfl rfl dX11_delivers_3 ?_
    refine og_11_0 C (hW.ok k11) wm7_67 dX11_delivers_4 ?_
    refine r_bipush C (v := 11) rfl dX11_delivers_7 ?_
    obtain ⟨b1, hF⟩ := gd_e hF
    refine m_ald C (hW.ok (k12 (a := 0) (by unfold okMa; decide))) (show (sM Ω t).2.1 = t from rfl) rfl b1 dX11_delivers_9 ?_
    refine r_icmp_ge C (tgt := 69) rfl dX11_delivers_10 (fun hc => ?_) (fun hc => ?_)
    · rw [if_pos hc] at hF
      cases hF
      change some _ = some _ at hL
      cases hL
      exact r_return C dX11_delivers_69
    · rw [if_neg hc] at hF
      refine r_iload_n C (k := 2) rfl rfl dX11_delivers_13 ?_
      refine r_callS C (d' := 0) [.int l2] (c_X11_postAt l2 rfl) myX11_postAt wm7_216 rfl (kR rfl) (by decide) (kR rfl) rfl dX11_delivers_14 ?_
      refine r_istore_n C (lo' := [(3, .int (F_X11_postAt l2)), (0, .ref (wAd w (11, 12, 0, 0))), (1, .int l1), (2, .int l2)]) rfl (by decide) rfl dX11_delivers_17 ?_
      refine r_aload_n C (k := 1) rfl rfl dX11_delivers_18 ?_
      refine og_11_0 C (hW.ok k11) wm7_67 dX11_delivers_19 ?_
      refine r_iload_n C (k := 0) rfl rfl dX11_delivers_22 ?_
      refine r_bipush C (v := 14) rfl dX11_delivers_23 ?_
      refine r_iadd C dX11_delivers_25 ?_
      obtain ⟨b2, hF⟩ := gd_e hF
      refine m_ald C (hW.ok (k12 (a := 0) (by unfold okMa; decide))) (show (sM Ω t).2.1 = t from rfl) rfl b2 dX11_delivers_26 ?_
      refine r_iload_n C (k := 2) rfl rfl dX11_delivers_27 ?_
      refine r_icmp_eq C (tgt := 37) rfl dX11_delivers_28 (fun hc => ?_) (fun hc => ?_)
      · rw [if_pos hc] at hF
        refine r_aload_n C (k := 1) rfl rfl dX11_delivers_37 ?_
        refine r_iload_n C (k := 0) rfl rfl dX11_delivers_38 ?_
        refine r_aload_n C (k := 1) rfl rfl dX11_delivers_39 ?_
        refine og_11_0 C (hW.ok k11) wm7_67 dX11_delivers_40 ?_
        refine r_iload_n C (k := 0) rfl rfl dX11_delivers_43 ?_
        obtain ⟨b3, hF⟩ := gd_e hF
        refine m_ald C (hW.ok (k12 (a := 0) (by unfold okMa; decide))) (show (sM Ω t).2.1 = t from rfl) rfl b3 dX11_delivers_44 ?_
        obtain ⟨t5, ht5, hF⟩ := ob1_e hF
        refine r_callV C (d' := 2) [.int (F_X11_postAt l2), .int (ag t 0 (F_X11_postAt l2))] (c_X11_clearsTwigs hW (show (sM Ω t).2.1 = t from rfl) N (F_X11_postAt l2) (ag t 0 (F_X11_postAt l2)) ht5 rfl) myX11_clearsTwigs wm8_65 ⟨_, _, _, _, (hW.ok k11), rfl, rfl, rfl, rfl⟩ rfl (kR rfl) (by decide) (kR rfl) rfl dX11_delivers_45 ?_
        refine r_aload_n C (k := 1) rfl rfl dX11_delivers_48 ?_
        refine r_iload_n C (k := 3) rfl rfl dX11_delivers_49 ?_
        obtain ⟨t7, ht7, hF⟩ := ob1_e hF
        refine r_callV C (d' := 1) [.int l2] (c_X11_postGoes hW (show (sM Ω t5).2.1 = t5 from rfl) N l2 ht7 rfl) myX11_postGoes wm8_69 ⟨_, _, _, _, (hW.ok k11), rfl, rfl, rfl, rfl⟩ rfl (kR rfl) (by decide) (kR rfl) rfl dX11_delivers_50 ?_
        refine r_aload_n C (k := 1) rfl rfl dX11_delivers_53 ?_
        refine og_11_0 C (hW.ok k11) wm7_67 dX11_delivers_54 ?_
        refine r_bipush C (v := 16) rfl dX11_delivers_57 ?_
        refine r_iload_n C (k := 2) rfl rfl dX11_delivers_59 ?_
        refine r_iadd C dX11_delivers_60 ?_
        refine r_dup2_11 C rfl rfl dX11_delivers_61 ?_
        obtain ⟨b8, hF⟩ := gd_e hF
        refine m_ald C (hW.ok (k12 (a := 0) (by unfold okMa; decide))) (show (sM Ω t7).2.1 = t7 from rfl) rfl b8 dX11_delivers_62 ?_
        refine r_iconst C (v := 1) rfl dX11_delivers_63 ?_
        refine r_iadd C dX11_delivers_64 ?_
        obtain ⟨b9, hF⟩ := gd_e hF
        obtain ⟨t10, et10, hF⟩ := lt_e hF
        refine m_ast C hW.x (hW.fr (k12 (a := 0) (by unfold okMa; decide))) (show (sM Ω t7).2.1 = t7 from rfl) rfl b9 dX11_delivers_65 (congrArg (sM Ω) et10) ?_
        refine r_goto C (tgt := 2) rfl dX11_delivers_66 ?_
        cases hF
        change lpN n _ _ = some _ at hL
        refine r_lo [1, 2, 3] (lo' := [(0, .ref (wAd w (11, 12, 0, 0))), (1, .int l1), (2, .int l2)]) rfl ?_
        exact ih l2 t10 hL
      · rw [if_neg hc] at hF
        refine r_iinc C (k := 3) (v := (l2 + 1)) (lo' := [(2, .int (l2 + 1)), (3, .int (F_X11_postAt l2)), (0, .ref (wAd w (11, 12, 0, 0))), (1, .int l1)]) rfl rfl (by decide) rfl dX11_delivers_31 ?_
        refine r_goto C (tgt := 2) rfl dX11_delivers_34 ?_
        cases hF
        change lpN n _ _ = some _ at hL
        refine r_lo [2, 3, 0] (lo' := [(0, .ref (wAd w (11, 12, 0, 0))), (1, .int l1), (2, .int (l2 + 1))]) rfl ?_
        exact ih (l2 + 1) t hL
theorem c_X11_delivers {w : WP} (hW : gWM w) {Ω : OM}  {t : HV} (e : Ω.2.1 = t) (N : Nat) (a1 : Int32) {t' : HV} (hF : F_X11_delivers N a1 t = some t') {Ω' : OM} (e2 : (sM Ω t') = Ω') : gM w 3 yX11_delivers cX11_delivers 4 none [.ref (wAd w (11, 12, 0, 0)), .int a1] (cA w Ω) none (cA w Ω') := by
  refine gM_of "HedgeMessagesModel" rfl (by decide) (kR rfl) fun X C => ?_
  unfold F_X11_delivers at hF
  subst e2
  show gV w X _ _ 0 [(0, .ref (wAd w (11, 12, 0, 0))), (1, .int a1)] []
  refine r_ct (ct' := cA w (sM Ω t)) (congrArg (cA w) (sM_i e).symm) ?_
  refine r_iconst C (v := 0) rfl dX11_delivers_0 ?_
  refine r_istore_n C (lo' := [(2, .int 0), (0, .ref (wAd w (11, 12, 0, 0))), (1, .int a1)]) rfl (by decide) rfl dX11_delivers_1 ?_
  refine r_lo [1, 2, 0] (lo' := [(0, .ref (wAd w (11, 12, 0, 0))), (1, .int a1), (2, .int 0)]) rfl ?_
  exact lp_X11_delivers_2 hW a1 C N 0 t hF
theorem dX11_writes_0 : decode cX11_writes 0 = .ok (.iload_n 1, 1) := by decide +kernel
theorem dX11_writes_1 : decode cX11_writes 1 = .ok (.invokestatic 91, 3) := by decide +kernel
theorem dX11_writes_4 : decode cX11_writes 4 = .ok (.istore_n 2, 1) := by decide +kernel
theorem dX11_writes_5 : decode cX11_writes 5 = .ok (.aload_n 0, 1) := by decide +kernel
theorem dX11_writes_6 : decode cX11_writes 6 = .ok (.iload_n 1, 1) := by decide +kernel
theorem dX11_writes_7 : decode cX11_writes 7 = .ok (.invokevirtual 134, 3) := by decide +kernel
theorem dX11_writes_10 : decode cX11_writes 10 = .ok (.ifCond .ne 22, 3) := by decide +kernel
theorem dX11_writes_13 : decode cX11_writes 13 = .ok (.aload_n 0, 1) := by decide +kernel
theorem dX11_writes_14 : decode cX11_writes 14 = .ok (.iload_n 1, 1) := by decide +kernel
theorem dX11_writes_15 : decode cX11_writes 15 = .ok (.invokevirtual 137, 3) := by decide +kernel
theorem dX11_writes_18 : decode cX11_writes 18 = .ok (.istore_n 3, 1) := by decide +kernel
theorem dX11_writes_19 : decode cX11_writes 19 = .ok (.iload_n 3, 1) := by decide +kernel
theorem dX11_writes_20 : decode cX11_writes 20 = .ok (.iconst (-1), 1) := by decide +kernel
theorem dX11_writes_21 : decode cX11_writes 21 = .ok (.if_icmp .ne 5, 3) := by decide +kernel
theorem dX11_writes_24 : decode cX11_writes 24 = .ok (.iconst 0, 1) := by decide +kernel
theorem dX11_writes_25 : decode cX11_writes 25 = .ok (.ireturn, 1) := by decide +kernel
theorem dX11_writes_26 : decode cX11_writes 26 = .ok (.aload_n 0, 1) := by decide +kernel
theorem dX11_writes_27 : decode cX11_writes 27 = .ok (.iload_n 1, 1) := by decide +kernel
theorem dX11_writes_28 : decode cX11_writes 28 = .ok (.iload_n 3, 1) := by decide +kernel
theorem dX11_writes_29 : decode cX11_writes 29 = .ok (.invokevirtual 140, 3) := by decide +kernel
theorem dX11_writes_32 : decode cX11_writes 32 = .ok (.aload_n 0, 1) := by decide +kernel
theorem dX11_writes_33 : decode cX11_writes 33 = .ok (.getfield 7, 3) := by decide +kernel
theorem dX11_writes_36 : decode cX11_writes 36 = .ok (.iload_n 2, 1) := by decide +kernel
theorem dX11_writes_37 : decode cX11_writes 37 = .ok (.bipush 14, 2) := by decide +kernel
theorem dX11_writes_39 : decode cX11_writes 39 = .ok (.iadd, 1) := by decide +kernel
theorem dX11_writes_40 : decode cX11_writes 40 = .ok (.iaload, 1) := by decide +kernel
theorem dX11_writes_41 : decode cX11_writes 41 = .ok (.istore_n 3, 1) := by decide +kernel
theorem dX11_writes_42 : decode cX11_writes 42 = .ok (.aload_n 0, 1) := by decide +kernel
theorem dX11_writes_43 : decode cX11_writes 43 = .ok (.aload_n 0, 1) := by decide +kernel
theorem dX11_writes_44 : decode cX11_writes 44 = .ok (.getfield 7, 3) := by decide +kernel
theorem dX11_writes_47 : decode cX11_writes 47 = .ok (.iload_n 2, 1) := by decide +kernel
theorem dX11_writes_48 : decode cX11_writes 48 = .ok (.bipush 13, 2) := by decide +kernel
theorem dX11_writes_50 : decode cX11_writes 50 = .ok (.iadd, 1) := by decide +kernel
theorem dX11_writes_51 : decode cX11_writes 51 = .ok (.iaload, 1) := by decide +kernel
theorem dX11_writes_52 : decode cX11_writes 52 = .ok (.iload_n 3, 1) := by decide +kernel
theorem dX11_writes_53 : decode cX11_writes 53 = .ok (.iadd, 1) := by decide +kernel
theorem dX11_writes_54 : decode cX11_writes 54 = .ok (.aload_n 0, 1) := by decide +kernel
theorem dX11_writes_55 : decode cX11_writes 55 = .ok (.getfield 7, 3) := by decide +kernel
theorem dX11_writes_58 : decode cX11_writes 58 = .ok (.iload_n 2, 1) := by decide +kernel
theorem dX11_writes_59 : decode cX11_writes 59 = .ok (.iconst 1, 1) := by decide +kernel
theorem dX11_writes_60 : decode cX11_writes 60 = .ok (.iadd, 1) := by decide +kernel
theorem dX11_writes_61 : decode cX11_writes 61 = .ok (.iload_n 3, 1) := by decide +kernel
theorem dX11_writes_62 : decode cX11_writes 62 = .ok (.iadd, 1) := by decide +kernel
theorem dX11_writes_63 : decode cX11_writes 63 = .ok (.iaload, 1) := by decide +kernel
theorem dX11_writes_64 : decode cX11_writes 64 = .ok (.iload_n 1, 1) := by decide +kernel
theorem dX11_writes_65 : decode cX11_writes 65 = .ok (.iconst 1, 1) := by decide +kernel
theorem dX11_writes_66 : decode cX11_writes 66 = .ok (.iconst 1, 1) := by decide +kernel
theorem dX11_writes_67 : decode cX11_writes 67 = .ok (.invokevirtual 143, 3) := by decide +kernel
theorem dX11_writes_70 : decode cX11_writes 70 = .ok (.aload_n 0, 1) := by decide +kernel
theorem dX11_writes_71 : decode cX11_writes 71 = .ok (.getfield 7, 3) := by decide +kernel
theorem dX11_writes_74 : decode cX11_writes 74 = .ok (.iload_n 2, 1) := by decide +kernel
theorem dX11_writes_75 : decode cX11_writes 75 = .ok (.bipush 14, 2) := by decide +kernel
theorem dX11_writes_77 : decode cX11_writes 77 = .ok (.iadd, 1) := by decide +kernel
theorem dX11_writes_78 : decode cX11_writes 78 = .ok (.dup2, 1) := by decide +kernel
theorem dX11_writes_79 : decode cX11_writes 79 = .ok (.iaload, 1) := by decide +kernel
theorem dX11_writes_80 : decode cX11_writes 80 = .ok (.iconst 1, 1) := by decide +kernel
theorem dX11_writes_81 : decode cX11_writes 81 = .ok (.iadd, 1) := by decide +kernel
theorem dX11_writes_82 : decode cX11_writes 82 = .ok (.iastore, 1) := by decide +kernel
theorem dX11_writes_83 : decode cX11_writes 83 = .ok (.aload_n 0, 1) := by decide +kernel
theorem dX11_writes_84 : decode cX11_writes 84 = .ok (.getfield 7, 3) := by decide +kernel
theorem dX11_writes_87 : decode cX11_writes 87 = .ok (.iload_n 2, 1) := by decide +kernel
theorem dX11_writes_88 : decode cX11_writes 88 = .ok (.bipush 14, 2) := by decide +kernel
theorem dX11_writes_90 : decode cX11_writes 90 = .ok (.iadd, 1) := by decide +kernel
theorem dX11_writes_91 : decode cX11_writes 91 = .ok (.iaload, 1) := by decide +kernel
theorem dX11_writes_92 : decode cX11_writes 92 = .ok (.aload_n 0, 1) := by decide +kernel
theorem dX11_writes_93 : decode cX11_writes 93 = .ok (.getfield 7, 3) := by decide +kernel
theorem dX11_writes_96 : decode cX11_writes 96 = .ok (.iload_n 2, 1) := by decide +kernel
theorem dX11_writes_97 : decode cX11_writes 97 = .ok (.iaload, 1) := by decide +kernel
theorem dX11_writes_98 : decode cX11_writes 98 = .ok (.if_icmp .ne 8, 3) := by decide +kernel
theorem dX11_writes_101 : decode cX11_writes 101 = .ok (.aload_n 0, 1) := by decide +kernel
theorem dX11_writes_102 : decode cX11_writes 102 = .ok (.iload_n 1, 1) := by decide +kernel
theorem dX11_writes_103 : decode cX11_writes 103 = .ok (.invokevirtual 147, 3) := by decide +kernel
theorem dX11_writes_106 : decode cX11_writes 106 = .ok (.iconst 1, 1) := by decide +kernel
theorem dX11_writes_107 : decode cX11_writes 107 = .ok (.ireturn, 1) := by decide +kernel
def F_X11_writes (N : Nat) (a1 : Int32) (t : HV) : Option (Bool × (HV)) := (ob1 (F_X11_isInProgress a1 t) fun v1 => (if v1 = true then (if vpb ((F_X11_progressOf a1) + 14) 760 = true then (if vpb ((F_X11_progressOf a1) + 13) 760 = true then (if vpb (((F_X11_progressOf a1) + 1) + (ag t 0 ((F_X11_progressOf a1) + 14))) 760 = true then (ob1 (F_X11_twigComes ((ag t 0 ((F_X11_progressOf a1) + 13)) + (ag t 0 ((F_X11_progressOf a1) + 14))) (ag t 0 (((F_X11_progressOf a1) + 1) + (ag t 0 ((F_X11_progressOf a1) + 14)))) a1 1 1 t) fun t6 => (if vpb ((F_X11_progressOf a1) + 14) 760 = true then (if vpb ((F_X11_progressOf a1) + 14) 760 = true then (lt (aw t6 0 ((F_X11_progressOf a1) + 14) ((ag t6 0 ((F_X11_progressOf a1) + 14)) + 1)) fun t9 => (if vpb ((F_X11_progressOf a1) + 14) 760 = true then (if vpb (F_X11_progressOf a1) 760 = true then (if (ag t9 0 ((F_X11_progressOf a1) + 14)) = (ag t9 0 (F_X11_progressOf a1)) then (ob1 (F_X11_posts N a1 t9) fun t13 => some (true, t13)) else some (true, t9)) else none) else none)) else none) else none)) else none) else none) else none) else (ob1 (F_X11_startOfNext N a1 t) fun v14 => (if v14 = (-1) then some (false, t) else (ob1 (F_X11_begins N a1 v14 t) fun t16 => (if vpb ((F_X11_progressOf a1) + 14) 760 = true then (if vpb ((F_X11_progressOf a1) + 13) 760 = true then (if vpb (((F_X11_progressOf a1) + 1) + (ag t16 0 ((F_X11_progressOf a1) + 14))) 760 = true then (ob1 (F_X11_twigComes ((ag t16 0 ((F_X11_progressOf a1) + 13)) + (ag t16 0 ((F_X11_progressOf a1) + 14))) (ag t16 0 (((F_X11_progressOf a1) + 1) + (ag t16 0 ((F_X11_progressOf a1) + 14)))) a1 1 1 t16) fun t21 => (if vpb ((F_X11_progressOf a1) + 14) 760 = true then (if vpb ((F_X11_progressOf a1) + 14) 760 = true then (lt (aw t21 0 ((F_X11_progressOf a1) + 14) ((ag t21 0 ((F_X11_progressOf a1) + 14)) + 1)) fun t24 => (if vpb ((F_X11_progressOf a1) + 14) 760 = true then (if vpb (F_X11_progressOf a1) 760 = true then (if (ag t24 0 ((F_X11_progressOf a1) + 14)) = (ag t24 0 (F_X11_progressOf a1)) then (ob1 (F_X11_posts N a1 t24) fun t28 => some (true, t28)) else some (true, t24)) else none) else none)) else none) else none)) else none) else none) else none))))))
theorem c_X11_writes {w : WP} (hW : gWM w) {Ω : OM}  {t : HV} (e : Ω.2.1 = t) (N : Nat) (a1 : Int32) {v : Bool} {t' : HV} (hF : F_X11_writes N a1 t = some (v, t')) {Ω' : OM} (e2 : (sM Ω t') = Ω') : gM w 7 yX11_writes cX11_writes 4 (some .boolean) [.ref (wAd w (11, 12, 0, 0)), .int a1] (cA w Ω) (some (.int (b2i v))) (cA w Ω') := by
  refine gM_of "HedgeMessagesModel" rfl (by decide) (kR rfl) fun X C => ?_
  unfold F_X11_writes at hF
  subst e2
  show gV w X _ _ 0 [(0, .ref (wAd w (11, 12, 0, 0))), (1, .int a1)] []
  refine r_ct (ct' := cA w (sM Ω t)) (congrArg (cA w) (sM_i e).symm) ?_
  refine r_iload_n C (k := 1) rfl rfl dX11_writes_0 ?_
  refine r_callS C (d' := 0) [.int a1] (c_X11_progressOf a1 rfl) myX11_progressOf wm7_223 rfl (kR rfl) (by decide) (kR rfl) rfl dX11_writes_1 ?_
  refine r_istore_n C (lo' := [(2, .int (F_X11_progressOf a1)), (0, .ref (wAd w (11, 12, 0, 0))), (1, .int a1)]) rfl (by decide) rfl dX11_writes_4 ?_
  refine r_aload_n C (k := 1) rfl rfl dX11_writes_5 ?_
  refine r_iload_n C (k := 2) rfl rfl dX11_writes_6 ?_
  obtain ⟨v1, hv1, hF⟩ := ob1_e hF
  refine r_callV C (d' := 1) [.int a1] (c_X11_isInProgress hW (show (sM Ω t).2.1 = t from rfl) a1 hv1) myX11_isInProgress wm8_81 ⟨_, _, _, _, (hW.ok k11), rfl, rfl, rfl, rfl⟩ rfl (kR rfl) (by decide) (kR rfl) rfl dX11_writes_7 ?_
  refine r_if_ne C (tgt := 32) rfl dX11_writes_10 (fun hc => ?_) (fun hc => ?_)
  · rw [if_pos (b2i_t hc)] at hF
    refine r_aload_n C (k := 1) rfl rfl dX11_writes_32 ?_
    refine og_11_0 C (hW.ok k11) wm7_67 dX11_writes_33 ?_
    refine r_iload_n C (k := 0) rfl rfl dX11_writes_36 ?_
    refine r_bipush C (v := 14) rfl dX11_writes_37 ?_
    refine r_iadd C dX11_writes_39 ?_
    obtain ⟨b2, hF⟩ := gd_e hF
    refine m_ald C (hW.ok (k12 (a := 0) (by unfold okMa; decide))) (show (sM Ω t).2.1 = t from rfl) rfl b2 dX11_writes_40 ?_
    refine r_istore_n C (lo' := [(3, .int (ag t 0 ((F_X11_progressOf a1) + 14))), (2, .int (F_X11_progressOf a1)), (0, .ref (wAd w (11, 12, 0, 0))), (1, .int a1)]) rfl (by decide) rfl dX11_writes_41 ?_
    refine r_aload_n C (k := 2) rfl rfl dX11_writes_42 ?_
    refine r_aload_n C (k := 2) rfl rfl dX11_writes_43 ?_
    refine og_11_0 C (hW.ok k11) wm7_67 dX11_writes_44 ?_
    refine r_iload_n C (k := 1) rfl rfl dX11_writes_47 ?_
    refine r_bipush C (v := 13) rfl dX11_writes_48 ?_
    refine r_iadd C dX11_writes_50 ?_
    obtain ⟨b3, hF⟩ := gd_e hF
    refine m_ald C (hW.ok (k12 (a := 0) (by unfold okMa; decide))) (show (sM Ω t).2.1 = t from rfl) rfl b3 dX11_writes_51 ?_
    refine r_iload_n C (k := 0) rfl rfl dX11_writes_52 ?_
    refine r_iadd C dX11_writes_53 ?_
    refine r_aload_n C (k := 2) rfl rfl dX11_writes_54 ?_
    refine og_11_0 C (hW.ok k11) wm7_67 dX11_writes_55 ?_
    refine r_iload_n C (k := 1) rfl rfl dX11_writes_58 ?_
    refine r_iconst C (v := 1) rfl dX11_writes_59 ?_
    refine r_iadd C dX11_writes_60 ?_
    refine r_iload_n C (k := 0) rfl rfl dX11_writes_61 ?_
    refine r_iadd C dX11_writes_62 ?_
    obtain ⟨b4, hF⟩ := gd_e hF
    refine m_ald C (hW.ok (k12 (a := 0) (by unfold okMa; decide))) (show (sM Ω t).2.1 = t from rfl) rfl b4 dX11_writes_63 ?_
    refine r_iload_n C (k := 3) rfl rfl dX11_writes_64 ?_
    refine r_iconst C (v := 1) rfl dX11_writes_65 ?_
    refine r_iconst C (v := 1) rfl dX11_writes_66 ?_
    obtain ⟨t6, ht6, hF⟩ := ob1_e hF
    refine r_callV C (d' := 1) [.int ((ag t 0 ((F_X11_progressOf a1) + 13)) + (ag t 0 ((F_X11_progressOf a1) + 14))), .int (ag t 0 (((F_X11_progressOf a1) + 1) + (ag t 0 ((F_X11_progressOf a1) + 14)))), .int a1, .int 1, .int 1] (c_X11_twigComes hW (show (sM Ω t).2.1 = t from rfl) ((ag t 0 ((F_X11_progressOf a1) + 13)) + (ag t 0 ((F_X11_progressOf a1) + 14))) (ag t 0 (((F_X11_progressOf a1) + 1) + (ag t 0 ((F_X11_progressOf a1) + 14)))) a1 1 1 ht6 rfl) myX11_twigComes wm7_10 ⟨_, _, _, _, (hW.ok k11), rfl, rfl, rfl, rfl⟩ rfl (kR rfl) (by decide) (kR rfl) rfl dX11_writes_67 ?_
    refine r_aload_n C (k := 2) rfl rfl dX11_writes_70 ?_
    refine og_11_0 C (hW.ok k11) wm7_67 dX11_writes_71 ?_
    refine r_iload_n C (k := 1) rfl rfl dX11_writes_74 ?_
    refine r_bipush C (v := 14) rfl dX11_writes_75 ?_
    refine r_iadd C dX11_writes_77 ?_
    refine r_dup2_11 C rfl rfl dX11_writes_78 ?_
    obtain ⟨b7, hF⟩ := gd_e hF
    refine m_ald C (hW.ok (k12 (a := 0) (by unfold okMa; decide))) (show (sM Ω t6).2.1 = t6 from rfl) rfl b7 dX11_writes_79 ?_
    refine r_iconst C (v := 1) rfl dX11_writes_80 ?_
    refine r_iadd C dX11_writes_81 ?_
    obtain ⟨b8, hF⟩ := gd_e hF
    obtain ⟨t9, et9, hF⟩ := lt_e hF
    refine m_ast C hW.x (hW.fr (k12 (a := 0) (by unfold okMa; decide))) (show (sM Ω t6).2.1 = t6 from rfl) rfl b8 dX11_writes_82 (congrArg (sM Ω) et9) ?_
    refine r_aload_n C (k := 2) rfl rfl dX11_writes_83 ?_
    refine og_11_0 C (hW.ok k11) wm7_67 dX11_writes_84 ?_
    refine r_iload_n C (k := 1) rfl rfl dX11_writes_87 ?_
    refine r_bipush C (v := 14) rfl dX11_writes_88 ?_
    refine r_iadd C dX11_writes_90 ?_
    obtain ⟨b10, hF⟩ := gd_e hF
    refine m_ald C (hW.ok (k12 (a := 0) (by unfold okMa; decide))) (show (sM Ω t9).2.1 = t9 from rfl) rfl b10 dX11_writes_91 ?_
    refine r_aload_n C (k := 2) rfl rfl dX11_writes_92 ?_
    refine og_11_0 C (hW.ok k11) wm7_67 dX11_writes_93 ?_
    refine r_iload_n C (k := 1) rfl rfl dX11_writes_96 ?_
    obtain ⟨b11, hF⟩ := gd_e hF
    refine m_ald C (hW.ok (k12 (a := 0) (by unfold okMa; decide))) (show (sM Ω t9).2.1 = t9 from rfl) rfl b11 dX11_writes_97 ?_
    refine r_icmp_ne C (tgt := 106) rfl dX11_writes_98 (fun hc => ?_) (fun hc => ?_)
    · rw [if_neg hc] at hF
      refine r_iconst C (v := 1) rfl dX11_writes_106 ?_
      cases hF
      exact r_zreturn C true rfl dX11_writes_107
    · rw [if_pos hc] at hF
      refine r_aload_n C (k := 2) rfl rfl dX11_writes_101 ?_
      refine r_iload_n C (k := 3) rfl rfl dX11_writes_102 ?_
      obtain ⟨t13, ht13, hF⟩ := ob1_e hF
      refine r_callV C (d' := 1) [.int a1] (c_X11_posts hW (show (sM Ω t9).2.1 = t9 from rfl) N a1 ht13 rfl) myX11_posts wm8_109 ⟨_, _, _, _, (hW.ok k11), rfl, rfl, rfl, rfl⟩ rfl (kR rfl) (by decide) (kR rfl) rfl dX11_writes_103 ?_
      refine r_iconst C (v := 1) rfl dX11_writes_106 ?_
      cases hF
      exact r_zreturn C true rfl dX11_writes_107
  · rw [if_neg (b2i_f hc)] at hF
    refine r_aload_n C (k := 1) rfl rfl dX11_writes_13 ?_
    refine r_iload_n C (k := 2) rfl rfl dX11_writes_14 ?_
    obtain ⟨v14, hv14, hF⟩ := ob1_e hF
    refine r_callV C (d' := 6) [.int a1] (c_X11_startOfNext hW (show (sM Ω t).2.1 = t from rfl) N a1 hv14) myX11_startOfNext wm8_85 ⟨_, _, _, _, (hW.ok k11), rfl, rfl, rfl, rfl⟩ rfl (kR rfl) (by decide) (kR rfl) rfl dX11_writes_15 ?_
    refine r_istore_n C (lo' := [(3, .int v14), (2, .int (F_X11_progressOf a1)), (0, .ref (wAd w (11, 12, 0, 0))), (1, .int a1)]) rfl (by decide) rfl dX11_writes_18 ?_
    refine r_iload_n C (k := 0) rfl rfl dX11_writes_19 ?_
    refine r_iconst C (v := (-1)) (by decide) dX11_writes_20 ?_
    refine r_icmp_ne C (tgt := 26) rfl dX11_writes_21 (fun hc => ?_) (fun hc => ?_)
    · rw [if_neg hc] at hF
      refine r_aload_n C (k := 2) rfl rfl dX11_writes_26 ?_
      refine r_iload_n C (k := 3) rfl rfl dX11_writes_27 ?_
      refine r_iload_n C (k := 0) rfl rfl dX11_writes_28 ?_
      obtain ⟨t16, ht16, hF⟩ := ob1_e hF
      refine r_callV C (d' := 2) [.int a1, .int v14] (c_X11_begins hW (show (sM Ω t).2.1 = t from rfl) N a1 v14 ht16 rfl) myX11_begins wm8_105 ⟨_, _, _, _, (hW.ok k11), rfl, rfl, rfl, rfl⟩ rfl (kR rfl) (by decide) (kR rfl) rfl dX11_writes_29 ?_
      refine r_aload_n C (k := 2) rfl rfl dX11_writes_32 ?_
      refine og_11_0 C (hW.ok k11) wm7_67 dX11_writes_33 ?_
      refine r_iload_n C (k := 1) rfl rfl dX11_writes_36 ?_
      refine r_bipush C (v := 14) rfl dX11_writes_37 ?_
      refine r_iadd C dX11_writes_39 ?_
      obtain ⟨b17, hF⟩ := gd_e hF
      refine m_ald C (hW.ok (k12 (a := 0) (by unfold okMa; decide))) (show (sM Ω t16).2.1 = t16 from rfl) rfl b17 dX11_writes_40 ?_
      refine r_istore_n C (lo' := [(3, .int (ag t16 0 ((F_X11_progressOf a1) + 14))), (2, .int (F_X11_progressOf a1)), (0, .ref (wAd w (11, 12, 0, 0))), (1, .int a1)]) rfl (by decide) rfl dX11_writes_41 ?_
      refine r_aload_n C (k := 2) rfl rfl dX11_writes_42 ?_
      refine r_aload_n C (k := 2) rfl rfl dX11_writes_43 ?_
      refine og_11_0 C (hW.ok k11) wm7_67 dX11_writes_44 ?_
      refine r_iload_n C (k := 1) rfl rfl dX11_writes_47 ?_
      refine r_bipush C (v := 13) rfl dX11_writes_48 ?_
      refine r_iadd C dX11_writes_50 ?_
      obtain ⟨b18, hF⟩ := gd_e hF
      refine m_ald C (hW.ok (k12 (a := 0) (by unfold okMa; decide))) (show (sM Ω t16).2.1 = t16 from rfl) rfl b18 dX11_writes_51 ?_
      refine r_iload_n C (k := 0) rfl rfl dX11_writes_52 ?_
      refine r_iadd C dX11_writes_53 ?_
      refine r_aload_n C (k := 2) rfl rfl dX11_writes_54 ?_
      refine og_11_0 C (hW.ok k11) wm7_67 dX11_writes_55 ?_
      refine r_iload_n C (k := 1) rfl rfl dX11_writes_58 ?_
      refine r_iconst C (v := 1) rfl dX11_writes_59 ?_
      refine r_iadd C dX11_writes_60 ?_
      refine r_iload_n C (k := 0) rfl rfl dX11_writes_61 ?_
      refine r_iadd C dX11_writes_62 ?_
      obtain ⟨b19, hF⟩ := gd_e hF
      refine m_ald C (hW.ok (k12 (a := 0) (by unfold okMa; decide))) (show (sM Ω t16).2.1 = t16 from rfl) rfl b19 dX11_writes_63 ?_
      refine r_iload_n C (k := 3) rfl rfl dX11_writes_64 ?_
      refine r_iconst C (v := 1) rfl dX11_writes_65 ?_
      refine r_iconst C (v := 1) rfl dX11_writes_66 ?_
      obtain ⟨t21, ht21, hF⟩ := ob1_e hF
      refine r_callV C (d' := 1) [.int ((ag t16 0 ((F_X11_progressOf a1) + 13)) + (ag t16 0 ((F_X11_progressOf a1) + 14))), .int (ag t16 0 (((F_X11_progressOf a1) + 1) + (ag t16 0 ((F_X11_progressOf a1) + 14)))), .int a1, .int 1, .int 1] (c_X11_twigComes hW (show (sM Ω t16).2.1 = t16 from rfl) ((ag t16 0 ((F_X11_progressOf a1) + 13)) + (ag t16 0 ((F_X11_progressOf a1) + 14))) (ag t16 0 (((F_X11_progressOf a1) + 1) + (ag t16 0 ((F_X11_progressOf a1) + 14)))) a1 1 1 ht21 rfl) myX11_twigComes wm7_10 ⟨_, _, _, _, (hW.ok k11), rfl, rfl, rfl, rfl⟩ rfl (kR rfl) (by decide) (kR rfl) rfl dX11_writes_67 ?_
      refine r_aload_n C (k := 2) rfl rfl dX11_writes_70 ?_
      refine og_11_0 C (hW.ok k11) wm7_67 dX11_writes_71 ?_
      refine r_iload_n C (k := 1) rfl rfl dX11_writes_74 ?_
      refine r_bipush C (v := 14) rfl dX11_writes_75 ?_
      refine r_iadd C dX11_writes_77 ?_
      refine r_dup2_11 C rfl rfl dX11_writes_78 ?_
      obtain ⟨b22, hF⟩ := gd_e hF
      refine m_ald C (hW.ok (k12 (a := 0) (by unfold okMa; decide))) (show (sM Ω t21).2.1 = t21 from rfl) rfl b22 dX11_writes_79 ?_
      refine r_iconst C (v := 1) rfl dX11_writes_80 ?_
      refine r_iadd C dX11_writes_81 ?_
      obtain ⟨b23, hF⟩ := gd_e hF
      obtain ⟨t24, et24, hF⟩ := lt_e hF
      refine m_ast C hW.x (hW.fr (k12 (a := 0) (by unfold okMa; decide))) (show (sM Ω t21).2.1 = t21 from rfl) rfl b23 dX11_writes_82 (congrArg (sM Ω) et24) ?_
      refine r_aload_n C (k := 2) rfl rfl dX11_writes_83 ?_
      refine og_11_0 C (hW.ok k11) wm7_67 dX11_writes_84 ?_
      refine r_iload_n C (k := 1) rfl rfl dX11_writes_87 ?_
      refine r_bipush C (v := 14) rfl dX11_writes_88 ?_
      refine r_iadd C dX11_writes_90 ?_
      obtain ⟨b25, hF⟩ := gd_e hF
      refine m_ald C (hW.ok (k12 (a := 0) (by unfold okMa; decide))) (show (sM Ω t24).2.1 = t24 from rfl) rfl b25 dX11_writes_91 ?_
      refine r_aload_n C (k := 2) rfl rfl dX11_writes_92 ?_
      refine og_11_0 C (hW.ok k11) wm7_67 dX11_writes_93 ?_
      refine r_iload_n C (k := 1) rfl rfl dX11_writes_96 ?_
      obtain ⟨b26, hF⟩ := gd_e hF
      refine m_ald C (hW.ok (k12 (a := 0) (by unfold okMa; decide))) (show (sM Ω t24).2.1 = t24 from rfl) rfl b26 dX11_writes_97 ?_
      refine r_icmp_ne C (tgt := 106) rfl dX11_writes_98 (fun hc => ?_) (fun hc => ?_)
      · rw [if_neg hc] at hF
        refine r_iconst C (v := 1) rfl dX11_writes_106 ?_
        cases hF
        exact r_zreturn C true rfl dX11_writes_107
      · rw [if_pos hc] at hF
        refine r_aload_n C (k := 2) rfl rfl dX11_writes_101 ?_
        refine r_iload_n C (k := 3) rfl rfl dX11_writes_102 ?_
        obtain ⟨t28, ht28, hF⟩ := ob1_e hF
        refine r_callV C (d' := 1) [.int a1] (c_X11_posts hW (show (sM Ω t24).2.1 = t24 from rfl) N a1 ht28 rfl) myX11_posts wm8_109 ⟨_, _, _, _, (hW.ok k11), rfl, rfl, rfl, rfl⟩ rfl (kR rfl) (by decide) (kR rfl) rfl dX11_writes_103 ?_
        refine r_iconst C (v := 1) rfl dX11_writes_106 ?_
        cases hF
        exact r_zreturn C true rfl dX11_writes_107
    · rw [if_pos hc] at hF
      refine r_iconst C (v := 0) rfl dX11_writes_24 ?_
      cases hF
      exact r_zreturn C false rfl dX11_writes_25
theorem dX11_writesAll_0 : decode cX11_writesAll 0 = .ok (.aload_n 0, 1) := by decide +kernel
theorem dX11_writesAll_1 : decode cX11_writesAll 1 = .ok (.getfield 7, 3) := by decide +kernel
theorem dX11_writesAll_4 : decode cX11_writesAll 4 = .ok (.bipush 7, 2) := by decide +kernel
theorem dX11_writesAll_6 : decode cX11_writesAll 6 = .ok (.iaload, 1) := by decide +kernel
theorem dX11_writesAll_7 : decode cX11_writesAll 7 = .ok (.ifCond .le 25, 3) := by decide +kernel
theorem dX11_writesAll_10 : decode cX11_writesAll 10 = .ok (.aload_n 0, 1) := by decide +kernel
theorem dX11_writesAll_11 : decode cX11_writesAll 11 = .ok (.iload_n 1, 1) := by decide +kernel
theorem dX11_writesAll_12 : decode cX11_writesAll 12 = .ok (.invokevirtual 150, 3) := by decide +kernel
theorem dX11_writesAll_15 : decode cX11_writesAll 15 = .ok (.ifCond .eq 17, 3) := by decide +kernel
theorem dX11_writesAll_18 : decode cX11_writesAll 18 = .ok (.aload_n 0, 1) := by decide +kernel
theorem dX11_writesAll_19 : decode cX11_writesAll 19 = .ok (.getfield 7, 3) := by decide +kernel
theorem dX11_writesAll_22 : decode cX11_writesAll 22 = .ok (.bipush 7, 2) := by decide +kernel
theorem dX11_writesAll_24 : decode cX11_writesAll 24 = .ok (.dup2, 1) := by decide +kernel
theorem dX11_writesAll_25 : decode cX11_writesAll 25 = .ok (.iaload, 1) := by decide +kernel
theorem dX11_writesAll_26 : decode cX11_writesAll 26 = .ok (.iconst 1, 1) := by decide +kernel
theorem dX11_writesAll_27 : decode cX11_writesAll 27 = .ok (.isub, 1) := by decide +kernel
theorem dX11_writesAll_28 : decode cX11_writesAll 28 = .ok (.iastore, 1) := by decide +kernel
theorem dX11_writesAll_29 : decode cX11_writesAll 29 = .ok (.goto (-29), 3) := by decide +kernel
theorem dX11_writesAll_32 : decode cX11_writesAll 32 = .ok (.return_, 1) := by decide +kernel
def st_X11_writesAll_0 (N : Nat) (l1 : Int32) (t : HV) : Option ((HV) ⊕ (HV)) := (if vpb 7 760 = true then (if (ag t 0 7) ≤ 0 then some (.inr t) else (ob (F_X11_writes N l1 t) fun v2 t3 => (if v2 = true then (if vpb 7 760 = true then (if vpb 7 760 = true then (lt (aw t3 0 7 ((ag t3 0 7) - 1)) fun t6 => some (.inl t6)) else none) else none) else some (.inr t3)))) else none)
def F_X11_writesAll (N : Nat) (a1 : Int32) (t : HV) : Option (HV) := (lpN N (fun z => st_X11_writesAll_0 N a1 z) (t))
theorem lp_X11_writesAll_0 {w : WP} (hW : gWM w) {Ω : OM}   (l1 : Int32) {N : Nat} {X : CX} (C : gC w X cX11_writesAll "HedgeMessagesModel" none 8 2) {t' : HV}  : ∀ (n : Nat) (t : HV), lpN n (fun z : HV => st_X11_writesAll_0 N l1 z) (t) = some t' → gV w X (none, cA w (sM Ω t')) (cA w (sM Ω t)) 0 [(0, .ref (wAd w (11, 12, 0, 0))), (1, .int l1)] [] := by
  intro n
  induction n with
  | zero => intro t hL; exact lpN_0 hL
  | succ n ih =>
    intro t hL
    obtain ⟨q9, hF, hL⟩ := lpN_e hL
    change st_X11_writesAll_0 N l1 t = some q9 at hF
    unfold st_X11_writesAll_0 at hF
    refine r_aload_n C (k := 0) rfl rfl dX11_writesAll_0 ?_
    refine og_11_0 C (hW.ok k11) wm7_67 dX11_writesAll_1 ?_
    refine r_bipush C (v := 7) rfl dX11_writesAll_4 ?_
    obtain ⟨b1, hF⟩ := gd_e hF
    refine m_ald C (hW.ok (k12 (a := 0) (by unfold okMa; decide))) (show (sM Ω t).2.1 = t from rfl) rfl b1 dX11_writesAll_6 ?_
    refine r_if_le C (tgt := 32) rfl dX11_writesAll_7 (fun hc => ?_) (fun hc => ?_)
    · rw [if_pos hc] at hF
      cases hF
      change some _ = some _ at hL
      cases hL
      exact r_return C dX11_writesAll_32
    · rw [if_neg hc] at hF
      refine r_aload_n C (k := 0) rfl rfl dX11_writesAll_10 ?_
      refine r_iload_n C (k := 1) rfl rfl dX11_writesAll_11 ?_
      obtain ⟨v2, t3, ht3, hF⟩ := ob_e hF
      refine r_callV C (d' := 7) [.int l1] (c_X11_writes hW (show (sM Ω t).2.1 = t from rfl) N l1 ht3 rfl) myX11_writes wm8_77 ⟨_, _, _, _, (hW.ok k11), rfl, rfl, rfl, rfl⟩ rfl (kR rfl) (by decide) (kR rfl) rfl dX11_writesAll_12 ?_
      refine r_if_eq C (tgt := 32) rfl dX11_writesAll_15 (fun hc => ?_) (fun hc => ?_)
      · rw [if_neg (b2i_f hc)] at hF
        cases hF
        change some _ = some _ at hL
        cases hL
        exact r_return C dX11_writesAll_32
      · rw [if_pos (b2i_t hc)] at hF
        refine r_aload_n C (k := 0) rfl rfl dX11_writesAll_18 ?_
        refine og_11_0 C (hW.ok k11) wm7_67 dX11_writesAll_19 ?_
        refine r_bipush C (v := 7) rfl dX11_writesAll_22 ?_
        refine r_dup2_11 C rfl rfl dX11_writesAll_24 ?_
        obtain ⟨b4, hF⟩ := gd_e hF
        refine m_ald C (hW.ok (k12 (a := 0) (by unfold okMa; decide))) (show (sM Ω t3).2.1 = t3 from rfl) rfl b4 dX11_writesAll_25 ?_
        refine r_iconst C (v := 1) rfl dX11_writesAll_26 ?_
        refine r_isub C dX11_writesAll_27 ?_
        obtain ⟨b5, hF⟩ := gd_e hF
        obtain ⟨t6, et6, hF⟩ := lt_e hF
        refine m_ast C hW.x (hW.fr (k12 (a := 0) (by unfold okMa; decide))) (show (sM Ω t3).2.1 = t3 from rfl) rfl b5 dX11_writesAll_28 (congrArg (sM Ω) et6) ?_
        refine r_goto C (tgt := 0) rfl dX11_writesAll_29 ?_
        cases hF
        change lpN n _ _ = some _ at hL
        refine r_lo [0, 1] (lo' := [(0, .ref (wAd w (11, 12, 0, 0))), (1, .int l1)]) rfl ?_
        exact ih t6 hL
theorem c_X11_writesAll {w : WP} (hW : gWM w) {Ω : OM}  {t : HV} (e : Ω.2.1 = t) (N : Nat) (a1 : Int32) {t' : HV} (hF : F_X11_writesAll N a1 t = some t') {Ω' : OM} (e2 : (sM Ω t') = Ω') : gM w 8 yX11_writesAll cX11_writesAll 2 none [.ref (wAd w (11, 12, 0, 0)), .int a1] (cA w Ω) none (cA w Ω') := by
  refine gM_of "HedgeMessagesModel" rfl (by decide) (kR rfl) fun X C => ?_
  unfold F_X11_writesAll at hF
  subst e2
  show gV w X _ _ 0 [(0, .ref (wAd w (11, 12, 0, 0))), (1, .int a1)] []
  refine r_ct (ct' := cA w (sM Ω t)) (congrArg (cA w) (sM_i e).symm) ?_
  refine r_lo [0, 1] (lo' := [(0, .ref (wAd w (11, 12, 0, 0))), (1, .int a1)]) rfl ?_
  exact lp_X11_writesAll_0 hW a1 C N t hF
theorem dX11_growsAll_0 : decode cX11_growsAll 0 = .ok (.iconst 0, 1) := by decide +kernel
theorem dX11_growsAll_1 : decode cX11_growsAll 1 = .ok (.istore_n 1, 1) := by decide +kernel
theorem dX11_growsAll_2 : decode cX11_growsAll 2 = .ok (.iload_n 1, 1) := by decide +kernel
theorem dX11_growsAll_3 : decode cX11_growsAll 3 = .ok (.aload_n 0, 1) := by decide +kernel
theorem dX11_growsAll_4 : decode cX11_growsAll 4 = .ok (.getfield 7, 3) := by decide +kernel
theorem dX11_growsAll_7 : decode cX11_growsAll 7 = .ok (.iconst 0, 1) := by decide +kernel
theorem dX11_growsAll_8 : decode cX11_growsAll 8 = .ok (.iaload, 1) := by decide +kernel
theorem dX11_growsAll_9 : decode cX11_growsAll 9 = .ok (.if_icmp .ge 54, 3) := by decide +kernel
theorem dX11_growsAll_12 : decode cX11_growsAll 12 = .ok (.aload_n 0, 1) := by decide +kernel
theorem dX11_growsAll_13 : decode cX11_growsAll 13 = .ok (.iload_n 1, 1) := by decide +kernel
theorem dX11_growsAll_14 : decode cX11_growsAll 14 = .ok (.invokevirtual 84, 3) := by decide +kernel
theorem dX11_growsAll_17 : decode cX11_growsAll 17 = .ok (.ifCond .eq 22, 3) := by decide +kernel
theorem dX11_growsAll_20 : decode cX11_growsAll 20 = .ok (.aload_n 0, 1) := by decide +kernel
theorem dX11_growsAll_21 : decode cX11_growsAll 21 = .ok (.iload_n 1, 1) := by decide +kernel
theorem dX11_growsAll_22 : decode cX11_growsAll 22 = .ok (.iconst 2, 1) := by decide +kernel
theorem dX11_growsAll_23 : decode cX11_growsAll 23 = .ok (.aload_n 0, 1) := by decide +kernel
theorem dX11_growsAll_24 : decode cX11_growsAll 24 = .ok (.iload_n 1, 1) := by decide +kernel
theorem dX11_growsAll_25 : decode cX11_growsAll 25 = .ok (.iconst 2, 1) := by decide +kernel
theorem dX11_growsAll_26 : decode cX11_growsAll 26 = .ok (.invokevirtual 69, 3) := by decide +kernel
theorem dX11_growsAll_29 : decode cX11_growsAll 29 = .ok (.aload_n 0, 1) := by decide +kernel
theorem dX11_growsAll_30 : decode cX11_growsAll 30 = .ok (.getfield 7, 3) := by decide +kernel
theorem dX11_growsAll_33 : decode cX11_growsAll 33 = .ok (.iconst 2, 1) := by decide +kernel
theorem dX11_growsAll_34 : decode cX11_growsAll 34 = .ok (.iaload, 1) := by decide +kernel
theorem dX11_growsAll_35 : decode cX11_growsAll 35 = .ok (.iadd, 1) := by decide +kernel
theorem dX11_growsAll_36 : decode cX11_growsAll 36 = .ok (.invokevirtual 87, 3) := by decide +kernel
theorem dX11_growsAll_39 : decode cX11_growsAll 39 = .ok (.aload_n 0, 1) := by decide +kernel
theorem dX11_growsAll_40 : decode cX11_growsAll 40 = .ok (.iload_n 1, 1) := by decide +kernel
theorem dX11_growsAll_41 : decode cX11_growsAll 41 = .ok (.iconst 4, 1) := by decide +kernel
theorem dX11_growsAll_42 : decode cX11_growsAll 42 = .ok (.iconst 0, 1) := by decide +kernel
theorem dX11_growsAll_43 : decode cX11_growsAll 43 = .ok (.aload_n 0, 1) := by decide +kernel
theorem dX11_growsAll_44 : decode cX11_growsAll 44 = .ok (.iload_n 1, 1) := by decide +kernel
theorem dX11_growsAll_45 : decode cX11_growsAll 45 = .ok (.iconst 4, 1) := by decide +kernel
theorem dX11_growsAll_46 : decode cX11_growsAll 46 = .ok (.invokevirtual 69, 3) := by decide +kernel
theorem dX11_growsAll_49 : decode cX11_growsAll 49 = .ok (.iconst 1, 1) := by decide +kernel
theorem dX11_growsAll_50 : decode cX11_growsAll 50 = .ok (.isub, 1) := by decide +kernel
theorem dX11_growsAll_51 : decode cX11_growsAll 51 = .ok (.invokestatic 153, 3) := by decide +kernel
theorem dX11_growsAll_54 : decode cX11_growsAll 54 = .ok (.invokevirtual 87, 3) := by decide +kernel
theorem dX11_growsAll_57 : decode cX11_growsAll 57 = .ok (.iinc 1 1, 3) := by decide +kernel
theorem dX11_growsAll_60 : decode cX11_growsAll 60 = .ok (.goto (-58), 3) := by decide +kernel
theorem dX11_growsAll_63 : decode cX11_growsAll 63 = .ok (.return_, 1) := by decide +kernel
def st_X11_growsAll_2 (N : Nat) (l1 : Int32) (t : HV) : Option ((Int32 × HV) ⊕ (HV)) := (if vpb 0 760 = true then (if (ag t 0 0) ≤ l1 then some (.inr t) else (ob1 (F_X11_hasTwig l1 t) fun v2 => (if v2 = true then (ob1 (F_X11_of l1 2 t) fun v6 => (if vpb 2 760 = true then (ob1 (F_X11_puts l1 2 (v6 + (ag t 0 2)) t) fun t9 => (ob1 (F_X11_of l1 4 t9) fun v10 => (ob1 (F_X11_puts l1 4 (if 0 < (v10 - 1) then (v10 - 1) else 0) t9) fun t12 => some (.inl ((l1 + 1), t12))))) else none)) else (ob1 (F_X11_of l1 4 t) fun v3 => (ob1 (F_X11_puts l1 4 (if 0 < (v3 - 1) then (v3 - 1) else 0) t) fun t5 => some (.inl ((l1 + 1), t5))))))) else none)
def F_X11_growsAll (N : Nat) (t : HV) : Option (HV) := (lpN N (fun z => st_X11_growsAll_2 N z.1 z.2) (0, t))
theorem lp_X11_growsAll_2 {w : WP} (hW : gWM w) {Ω : OM}    {N : Nat} {X : CX} (C : gC w X cX11_growsAll "HedgeMessagesModel" none 2 2) {t' : HV}  : ∀ (n : Nat) (l1 : Int32) (t : HV), lpN n (fun z : Int32 × HV => st_X11_growsAll_2 N z.1 z.2) (l1, t) = some t' → gV w X (none, cA w (sM Ω t')) (cA w (sM Ω t)) 2 [(0, .ref (wAd w (11, 12, 0, 0))), (1, .int l1)] [] := by
  intro n
  induction n with
  | zero => intro l1 t hL; exact lpN_0 hL
  | succ n ih =>
    intro l1 t hL
    obtain ⟨q9, hF, hL⟩ := lpN_e hL
    change st_X11_growsAll_2 N l1 t = some q9 at hF
    unfold st_X11_growsAll_2 at hF
    refine r_iload_n C (k := 1) rfl rfl dX11_growsAll_2 ?_
    refine r_aload_n C (k := 0) rfl rfl dX11_growsAll_3 ?_
    refine og_11_0 C (hW.ok k11) wm7_67 dX11_growsAll_4 ?_
    refine r_iconst C (v := 0) rfl dX11_growsAll_7 ?_
    obtain ⟨b1, hF⟩ := gd_e hF
    refine m_ald C (hW.ok (k12 (a := 0) (by unfold okMa; decide))) (show (sM Ω t).2.1 = t from rfl) rfl b1 dX11_growsAll_8 ?_
    refine r_icmp_ge C (tgt := 63) rfl dX11_growsAll_9 (fun hc => ?_) (fun hc => ?_)
    · rw [if_pos hc] at hF
      cases hF
      change some _ = some _ at hL
      cases hL
      exact r_return C dX11_growsAll_63
    · rw [if_neg hc] at hF
      refine r_aload_n C (k := 0) rfl rfl dX11_growsAll_12 ?_
      refine r_iload_n C (k := 1) rfl rfl dX11_growsAll_13 ?_
      obtain ⟨v2, hv2, hF⟩ := ob1_e hF
      refine r_callV C (d' := 1) [.int l1] (c_X11_hasTwig hW (show (sM Ω t).2.1 = t from rfl) l1 hv2) myX11_hasTwig wm6_238 ⟨_, _, _, _, (hW.ok k11), rfl, rfl, rfl, rfl⟩ rfl (kR rfl) (by decide) (kR rfl) rfl dX11_growsAll_14 ?_
      refine r_if_eq C (tgt := 39) rfl dX11_growsAll_17 (fun hc => ?_) (fun hc => ?_)
      · rw [if_neg (b2i_f hc)] at hF
        refine r_aload_n C (k := 0) rfl rfl dX11_growsAll_39 ?_
        refine r_iload_n C (k := 1) rfl rfl dX11_growsAll_40 ?_
        refine r_iconst C (v := 4) rfl dX11_growsAll_41 ?_
        refine r_iconst C (v := 0) rfl dX11_growsAll_42 ?_
        refine r_aload_n C (k := 0) rfl rfl dX11_growsAll_43 ?_
        refine r_iload_n C (k := 1) rfl rfl dX11_growsAll_44 ?_
        refine r_iconst C (v := 4) rfl dX11_growsAll_45 ?_
        obtain ⟨v3, hv3, hF⟩ := ob1_e hF
        refine r_callV C (d' := 0) [.int l1, .int 4] (c_X11_of hW (show (sM Ω t).2.1 = t from rfl) l1 4 hv3) myX11_of wm7_2 ⟨_, _, _, _, (hW.ok k11), rfl, rfl, rfl, rfl⟩ rfl (kR rfl) (by decide) (kR rfl) rfl dX11_growsAll_46 ?_
        refine r_iconst C (v := 1) rfl dX11_growsAll_49 ?_
        refine r_isub C dX11_growsAll_50 ?_
        refine r_mmax C (by decide) wm8_22 (kR rfl) dX11_growsAll_51 ?_
        obtain ⟨t5, ht5, hF⟩ := ob1_e hF
        refine r_callV C (d' := 0) [.int l1, .int 4, .int (if 0 < (v3 - 1) then (v3 - 1) else 0)] (c_X11_puts hW (show (sM Ω t).2.1 = t from rfl) l1 4 (if 0 < (v3 - 1) then (v3 - 1) else 0) ht5 rfl) myX11_puts wm7_14 ⟨_, _, _, _, (hW.ok k11), rfl, rfl, rfl, rfl⟩ rfl (kR rfl) (by decide) (kR rfl) rfl dX11_growsAll_54 ?_
        refine r_iinc C (k := 1) (v := (l1 + 1)) (lo' := [(1, .int (l1 + 1)), (0, .ref (wAd w (11, 12, 0, 0)))]) rfl rfl (by decide) rfl dX11_growsAll_57 ?_
        refine r_goto C (tgt := 2) rfl dX11_growsAll_60 ?_
        cases hF
        change lpN n _ _ = some _ at hL
        refine r_lo [1, 0] (lo' := [(0, .ref (wAd w (11, 12, 0, 0))), (1, .int (l1 + 1))]) rfl ?_
        exact ih (l1 + 1) t5 hL
      · rw [if_pos (b2i_t hc)] at hF
        refine r_aload_n C (k := 0) rfl rfl dX11_growsAll_20 ?_
        refine r_iload_n C (k := 1) rfl rfl dX11_growsAll_21 ?_
        refine r_iconst C (v := 2) rfl dX11_growsAll_22 ?_
        refine r_aload_n C (k := 0) rfl rfl dX11_growsAll_23 ?_
        refine r_iload_n C (k := 1) rfl rfl dX11_growsAll_24 ?_
        refine r_iconst C (v := 2) rfl dX11_growsAll_25 ?_
        obtain ⟨v6, hv6, hF⟩ := ob1_e hF
        refine r_callV C (d' := 0) [.int l1, .int 2] (c_X11_of hW (show (sM Ω t).2.1 = t from rfl) l1 2 hv6) myX11_of wm7_2 ⟨_, _, _, _, (hW.ok k11), rfl, rfl, rfl, rfl⟩ rfl (kR rfl) (by decide) (kR rfl) rfl dX11_growsAll_26 ?_
        refine r_aload_n C (k := 0) rfl rfl dX11_growsAll_29 ?_
        refine og_11_0 C (hW.ok k11) wm7_67 dX11_growsAll_30 ?_
        refine r_iconst C (v := 2) rfl dX11_growsAll_33 ?_
        obtain ⟨b7, hF⟩ := gd_e hF
        refine m_ald C (hW.ok (k12 (a := 0) (by unfold okMa; decide))) (show (sM Ω t).2.1 = t from rfl) rfl b7 dX11_growsAll_34 ?_
        refine r_iadd C dX11_growsAll_35 ?_
        obtain ⟨t9, ht9, hF⟩ := ob1_e hF
        refine r_callV C (d' := 0) [.int l1, .int 2, .int (v6 + (ag t 0 2))] (c_X11_puts hW (show (sM Ω t).2.1 = t from rfl) l1 2 (v6 + (ag t 0 2)) ht9 rfl) myX11_puts wm7_14 ⟨_, _, _, _, (hW.ok k11), rfl, rfl, rfl, rfl⟩ rfl (kR rfl) (by decide) (kR rfl) rfl dX11_growsAll_36 ?_
        refine r_aload_n C (k := 0) rfl rfl dX11_growsAll_39 ?_
        refine r_iload_n C (k := 1) rfl rfl dX11_growsAll_40 ?_
        refine r_iconst C (v := 4) rfl dX11_growsAll_41 ?_
        refine r_iconst C (v := 0) rfl dX11_growsAll_42 ?_
        refine r_aload_n C (k := 0) rfl rfl dX11_growsAll_43 ?_
        refine r_iload_n C (k := 1) rfl rfl dX11_growsAll_44 ?_
        refine r_iconst C (v := 4) rfl dX11_growsAll_45 ?_
        obtain ⟨v10, hv10, hF⟩ := ob1_e hF
        refine r_callV C (d' := 0) [.int l1, .int 4] (c_X11_of hW (show (sM Ω t9).2.1 = t9 from rfl) l1 4 hv10) myX11_of wm7_2 ⟨_, _, _, _, (hW.ok k11), rfl, rfl, rfl, rfl⟩ rfl (kR rfl) (by decide) (kR rfl) rfl dX11_growsAll_46 ?_
        refine r_iconst C (v := 1) rfl dX11_growsAll_49 ?_
        refine r_isub C dX11_growsAll_50 ?_
        refine r_mmax C (by decide) wm8_22 (kR rfl) dX11_growsAll_51 ?_
        obtain ⟨t12, ht12, hF⟩ := ob1_e hF
        refine r_callV C (d' := 0) [.int l1, .int 4, .int (if 0 < (v10 - 1) then (v10 - 1) else 0)] (c_X11_puts hW (show (sM Ω t9).2.1 = t9 from rfl) l1 4 (if 0 < (v10 - 1) then (v10 - 1) else 0) ht12 rfl) myX11_puts wm7_14 ⟨_, _, _, _, (hW.ok k11), rfl, rfl, rfl, rfl⟩ rfl (kR rfl) (by decide) (kR rfl) rfl dX11_growsAll_54 ?_
        refine r_iinc C (k := 1) (v := (l1 + 1)) (lo' := [(1, .int (l1 + 1)), (0, .ref (wAd w (11, 12, 0, 0)))]) rfl rfl (by decide) rfl dX11_growsAll_57 ?_
        refine r_goto C (tgt := 2) rfl dX11_growsAll_60 ?_
        cases hF
        change lpN n _ _ = some _ at hL
        refine r_lo [1, 0] (lo' := [(0, .ref (wAd w (11, 12, 0, 0))), (1, .int (l1 + 1))]) rfl ?_
        exact ih (l1 + 1) t12 hL
theorem c_X11_growsAll {w : WP} (hW : gWM w) {Ω : OM}  {t : HV} (e : Ω.2.1 = t) (N : Nat)  {t' : HV} (hF : F_X11_growsAll N t = some t') {Ω' : OM} (e2 : (sM Ω t') = Ω') : gM w 2 yX11_growsAll cX11_growsAll 2 none [.ref (wAd w (11, 12, 0, 0))] (cA w Ω) none (cA w Ω') := by
  refine gM_of "HedgeMessagesModel" rfl (by decide) (kR rfl) fun X C => ?_
  unfold F_X11_growsAll at hF
  subst e2
  show gV w X _ _ 0 [(0, .ref (wAd w (11, 12, 0, 0)))] []
  refine r_ct (ct' := cA w (sM Ω t)) (congrArg (cA w) (sM_i e).symm) ?_
  refine r_iconst C (v := 0) rfl dX11_growsAll_0 ?_
  refine r_istore_n C (lo' := [(1, .int 0), (0, .ref (wAd w (11, 12, 0, 0)))]) rfl (by decide) rfl dX11_growsAll_1 ?_
  refine r_lo [1, 0] (lo' := [(0, .ref (wAd w (11, 12, 0, 0))), (1, .int 0)]) rfl ?_
  exact lp_X11_growsAll_2 hW C N 0 t hF
theorem dX11_wouldPrune_0 : decode cX11_wouldPrune 0 = .ok (.aload_n 0, 1) := by decide +kernel
theorem dX11_wouldPrune_1 : decode cX11_wouldPrune 1 = .ok (.iload_n 1, 1) := by decide +kernel
theorem dX11_wouldPrune_2 : decode cX11_wouldPrune 2 = .ok (.invokevirtual 84, 3) := by decide +kernel
theorem dX11_wouldPrune_5 : decode cX11_wouldPrune 5 = .ok (.ifCond .eq 30, 3) := by decide +kernel
theorem dX11_wouldPrune_8 : decode cX11_wouldPrune 8 = .ok (.aload_n 0, 1) := by decide +kernel
theorem dX11_wouldPrune_9 : decode cX11_wouldPrune 9 = .ok (.iload_n 1, 1) := by decide +kernel
theorem dX11_wouldPrune_10 : decode cX11_wouldPrune 10 = .ok (.iconst 2, 1) := by decide +kernel
theorem dX11_wouldPrune_11 : decode cX11_wouldPrune 11 = .ok (.invokevirtual 69, 3) := by decide +kernel
theorem dX11_wouldPrune_14 : decode cX11_wouldPrune 14 = .ok (.aload_n 0, 1) := by decide +kernel
theorem dX11_wouldPrune_15 : decode cX11_wouldPrune 15 = .ok (.getfield 7, 3) := by decide +kernel
theorem dX11_wouldPrune_18 : decode cX11_wouldPrune 18 = .ok (.iconst 3, 1) := by decide +kernel
theorem dX11_wouldPrune_19 : decode cX11_wouldPrune 19 = .ok (.iaload, 1) := by decide +kernel
theorem dX11_wouldPrune_20 : decode cX11_wouldPrune 20 = .ok (.if_icmp .le 15, 3) := by decide +kernel
theorem dX11_wouldPrune_23 : decode cX11_wouldPrune 23 = .ok (.aload_n 0, 1) := by decide +kernel
theorem dX11_wouldPrune_24 : decode cX11_wouldPrune 24 = .ok (.iload_n 1, 1) := by decide +kernel
theorem dX11_wouldPrune_25 : decode cX11_wouldPrune 25 = .ok (.invokevirtual 158, 3) := by decide +kernel
theorem dX11_wouldPrune_28 : decode cX11_wouldPrune 28 = .ok (.ifCond .ne 7, 3) := by decide +kernel
theorem dX11_wouldPrune_31 : decode cX11_wouldPrune 31 = .ok (.iconst 1, 1) := by decide +kernel
theorem dX11_wouldPrune_32 : decode cX11_wouldPrune 32 = .ok (.goto 4, 3) := by decide +kernel
theorem dX11_wouldPrune_35 : decode cX11_wouldPrune 35 = .ok (.iconst 0, 1) := by decide +kernel
theorem dX11_wouldPrune_36 : decode cX11_wouldPrune 36 = .ok (.ireturn, 1) := by decide +kernel
def F_X11_wouldPrune (a1 : Int32) (t : HV) : Option (Bool) := (ob1 (F_X11_hasTwig a1 t) fun v1 => (if v1 = true then (ob1 (F_X11_of a1 2 t) fun v2 => (if vpb 3 760 = true then (if v2 ≤ (ag t 0 3) then some false else (ob1 (F_X11_isSafe a1 t) fun v4 => (if v4 = true then some false else some true))) else none)) else some false))
theorem c_X11_wouldPrune {w : WP} (hW : gWM w) {Ω : OM}  {t : HV} (e : Ω.2.1 = t) (a1 : Int32) {v : Bool} (hF : F_X11_wouldPrune a1 t = some v) : gM w 4 yX11_wouldPrune cX11_wouldPrune 2 (some .boolean) [.ref (wAd w (11, 12, 0, 0)), .int a1] (cA w Ω) (some (.int (b2i v))) (cA w Ω) := by
  refine gM_of "HedgeMessagesModel" rfl (by decide) (kR rfl) fun X C => ?_
  unfold F_X11_wouldPrune at hF
  show gV w X _ _ 0 [(0, .ref (wAd w (11, 12, 0, 0))), (1, .int a1)] []
  refine r_aload_n C (k := 0) rfl rfl dX11_wouldPrune_0 ?_
  refine r_iload_n C (k := 1) rfl rfl dX11_wouldPrune_1 ?_
  obtain ⟨v1, hv1, hF⟩ := ob1_e hF
  refine r_callV C (d' := 1) [.int a1] (c_X11_hasTwig hW e a1 hv1) myX11_hasTwig wm6_238 ⟨_, _, _, _, (hW.ok k11), rfl, rfl, rfl, rfl⟩ rfl (kR rfl) (by decide) (kR rfl) rfl dX11_wouldPrune_2 ?_
  refine r_if_eq C (tgt := 35) rfl dX11_wouldPrune_5 (fun hc => ?_) (fun hc => ?_)
  · rw [if_neg (b2i_f hc)] at hF
    refine r_iconst C (v := 0) rfl dX11_wouldPrune_35 ?_
    cases hF
    exact r_zreturn C false rfl dX11_wouldPrune_36
  · rw [if_pos (b2i_t hc)] at hF
    refine r_aload_n C (k := 0) rfl rfl dX11_wouldPrune_8 ?_
    refine r_iload_n C (k := 1) rfl rfl dX11_wouldPrune_9 ?_
    refine r_iconst C (v := 2) rfl dX11_wouldPrune_10 ?_
    obtain ⟨v2, hv2, hF⟩ := ob1_e hF
    refine r_callV C (d' := 0) [.int a1, .int 2] (c_X11_of hW e a1 2 hv2) myX11_of wm7_2 ⟨_, _, _, _, (hW.ok k11), rfl, rfl, rfl, rfl⟩ rfl (kR rfl) (by decide) (kR rfl) rfl dX11_wouldPrune_11 ?_
    refine r_aload_n C (k := 0) rfl rfl dX11_wouldPrune_14 ?_
    refine og_11_0 C (hW.ok k11) wm7_67 dX11_wouldPrune_15 ?_
    refine r_iconst C (v := 3) rfl dX11_wouldPrune_18 ?_
    obtain ⟨b3, hF⟩ := gd_e hF
    refine m_ald C (hW.ok (k12 (a := 0) (by unfold okMa; decide))) e rfl b3 dX11_wouldPrune_19 ?_
    refine r_icmp_le C (tgt := 35) rfl dX11_wouldPrune_20 (fun hc => ?_) (fun hc => ?_)
    · rw [if_pos hc] at hF
      refine r_iconst C (v := 0) rfl dX11_wouldPrune_35 ?_
      cases hF
      exact r_zreturn C false rfl dX11_wouldPrune_36
    · rw [if_neg hc] at hF
      refine r_aload_n C (k := 0) rfl rfl dX11_wouldPrune_23 ?_
      refine r_iload_n C (k := 1) rfl rfl dX11_wouldPrune_24 ?_
      obtain ⟨v4, hv4, hF⟩ := ob1_e hF
      refine r_callV C (d' := 3) [.int a1] (c_X11_isSafe hW e a1 hv4) myX11_isSafe wm8_6 ⟨_, _, _, _, (hW.ok k11), rfl, rfl, rfl, rfl⟩ rfl (kR rfl) (by decide) (kR rfl) rfl dX11_wouldPrune_25 ?_
      refine r_if_ne C (tgt := 35) rfl dX11_wouldPrune_28 (fun hc => ?_) (fun hc => ?_)
      · rw [if_pos (b2i_t hc)] at hF
        refine r_iconst C (v := 0) rfl dX11_wouldPrune_35 ?_
        cases hF
        exact r_zreturn C false rfl dX11_wouldPrune_36
      · rw [if_neg (b2i_f hc)] at hF
        refine r_iconst C (v := 1) rfl dX11_wouldPrune_31 ?_
        refine r_goto C (tgt := 36) rfl dX11_wouldPrune_32 ?_
        cases hF
        exact r_zreturn C true rfl dX11_wouldPrune_36
theorem dX11_lostTwig_0 : decode cX11_lostTwig 0 = .ok (.iconst 0, 1) := by decide +kernel
theorem dX11_lostTwig_1 : decode cX11_lostTwig 1 = .ok (.istore_n 3, 1) := by decide +kernel
theorem dX11_lostTwig_2 : decode cX11_lostTwig 2 = .ok (.iload_n 3, 1) := by decide +kernel
theorem dX11_lostTwig_3 : decode cX11_lostTwig 3 = .ok (.iload_n 2, 1) := by decide +kernel
theorem dX11_lostTwig_4 : decode cX11_lostTwig 4 = .ok (.if_icmp .ge 29, 3) := by decide +kernel
theorem dX11_lostTwig_7 : decode cX11_lostTwig 7 = .ok (.aload_n 0, 1) := by decide +kernel
theorem dX11_lostTwig_8 : decode cX11_lostTwig 8 = .ok (.aload_n 0, 1) := by decide +kernel
theorem dX11_lostTwig_9 : decode cX11_lostTwig 9 = .ok (.getfield 7, 3) := by decide +kernel
theorem dX11_lostTwig_12 : decode cX11_lostTwig 12 = .ok (.iload_n 1, 1) := by decide +kernel
theorem dX11_lostTwig_13 : decode cX11_lostTwig 13 = .ok (.bipush 13, 2) := by decide +kernel
theorem dX11_lostTwig_15 : decode cX11_lostTwig 15 = .ok (.iadd, 1) := by decide +kernel
theorem dX11_lostTwig_16 : decode cX11_lostTwig 16 = .ok (.iaload, 1) := by decide +kernel
theorem dX11_lostTwig_17 : decode cX11_lostTwig 17 = .ok (.iload_n 3, 1) := by decide +kernel
theorem dX11_lostTwig_18 : decode cX11_lostTwig 18 = .ok (.iadd, 1) := by decide +kernel
theorem dX11_lostTwig_19 : decode cX11_lostTwig 19 = .ok (.invokevirtual 84, 3) := by decide +kernel
theorem dX11_lostTwig_22 : decode cX11_lostTwig 22 = .ok (.ifCond .ne 5, 3) := by decide +kernel
theorem dX11_lostTwig_25 : decode cX11_lostTwig 25 = .ok (.iconst 1, 1) := by decide +kernel
theorem dX11_lostTwig_26 : decode cX11_lostTwig 26 = .ok (.ireturn, 1) := by decide +kernel
theorem dX11_lostTwig_27 : decode cX11_lostTwig 27 = .ok (.iinc 3 1, 3) := by decide +kernel
theorem dX11_lostTwig_30 : decode cX11_lostTwig 30 = .ok (.goto (-28), 3) := by decide +kernel
theorem dX11_lostTwig_33 : decode cX11_lostTwig 33 = .ok (.iconst 0, 1) := by decide +kernel
theorem dX11_lostTwig_34 : decode cX11_lostTwig 34 = .ok (.ireturn, 1) := by decide +kernel
def st_X11_lostTwig_2 (N : Nat) (l1 : Int32) (l2 : Int32) (l3 : Int32) (t : HV) : Option ((Int32) ⊕ (Bool)) := (if l2 ≤ l3 then some (.inr false) else (if vpb (l1 + 13) 760 = true then (ob1 (F_X11_hasTwig ((ag t 0 (l1 + 13)) + l3) t) fun v2 => (if v2 = true then some (.inl (l3 + 1)) else some (.inr true))) else none))
def F_X11_lostTwig (N : Nat) (a1 : Int32) (a2 : Int32) (t : HV) : Option (Bool) := (lpN N (fun z => st_X11_lostTwig_2 N a1 a2 z t) (0))
theorem lp_X11_lostTwig_2 {w : WP} (hW : gWM w) {Ω : OM}  {t : HV} (e : Ω.2.1 = t)  (l1 : Int32) (l2 : Int32) {N : Nat} {X : CX} (C : gC w X cX11_lostTwig "HedgeMessagesModel" (some .boolean) 2 4) {v : Bool}  : ∀ (n : Nat) (l3 : Int32), lpN n (fun z : Int32 => st_X11_lostTwig_2 N l1 l2 z t) (l3) = some v → gV w X (some (.int (b2i v)), cA w Ω) (cA w Ω) 2 [(0, .ref (wAd w (11, 12, 0, 0))), (1, .int l1), (2, .int l2), (3, .int l3)] [] := by
  intro n
  induction n with
  | zero => intro l3 hL; exact lpN_0 hL
  | succ n ih =>
    intro l3 hL
    obtain ⟨q9, hF, hL⟩ := lpN_e hL
    change st_X11_lostTwig_2 N l1 l2 l3 t = some q9 at hF
    unfold st_X11_lostTwig_2 at hF
    refine r_iload_n C (k := 3) rfl rfl dX11_lostTwig_2 ?_
    refine r_iload_n C (k := 2) rfl rfl dX11_lostTwig_3 ?_
    refine r_icmp_ge C (tgt := 33) rfl dX11_lostTwig_4 (fun hc => ?_) (fun hc => ?_)
    · rw [if_pos hc] at hF
      refine r_iconst C (v := 0) rfl dX11_lostTwig_33 ?_
      cases hF
      change some _ = some _ at hL
      cases hL
      exact r_zreturn C false rfl dX11_lostTwig_34
    · rw [if_neg hc] at hF
      refine r_aload_n C (k := 0) rfl rfl dX11_lostTwig_7 ?_
      refine r_aload_n C (k := 0) rfl rfl dX11_lostTwig_8 ?_
      refine og_11_0 C (hW.ok k11) wm7_67 dX11_lostTwig_9 ?_
      refine r_iload_n C (k := 1) rfl rfl dX11_lostTwig_12 ?_
      refine r_bipush C (v := 13) rfl dX11_lostTwig_13 ?_
      refine r_iadd C dX11_lostTwig_15 ?_
      obtain ⟨b1, hF⟩ := gd_e hF
      refine m_ald C (hW.ok (k12 (a := 0) (by unfold okMa; decide))) e rfl b1 dX11_lostTwig_16 ?_
      refine r_iload_n C (k := 3) rfl rfl dX11_lostTwig_17 ?_
      refine r_iadd C dX11_lostTwig_18 ?_
      obtain ⟨v2, hv2, hF⟩ := ob1_e hF
      refine r_callV C (d' := 1) [.int ((ag t 0 (l1 + 13)) + l3)] (c_X11_hasTwig hW e ((ag t 0 (l1 + 13)) + l3) hv2) myX11_hasTwig wm6_238 ⟨_, _, _, _, (hW.ok k11), rfl, rfl, rfl, rfl⟩ rfl (kR rfl) (by decide) (kR rfl) rfl dX11_lostTwig_19 ?_
      refine r_if_ne C (tgt := 27) rfl dX11_lostTwig_22 (fun hc => ?_) (fun hc => ?_)
      · rw [if_pos (b2i_t hc)] at hF
        refine r_iinc C (k := 3) (v := (l3 + 1)) (lo' := [(3, .int (l3 + 1)), (0, .ref (wAd w (11, 12, 0, 0))), (1, .int l1), (2, .int l2)]) rfl rfl (by decide) rfl dX11_lostTwig_27 ?_
        refine r_goto C (tgt := 2) rfl dX11_lostTwig_30 ?_
        cases hF
        change lpN n _ _ = some _ at hL
        refine r_lo [1, 2, 3, 0] (lo' := [(0, .ref (wAd w (11, 12, 0, 0))), (1, .int l1), (2, .int l2), (3, .int (l3 + 1))]) rfl ?_
        exact ih (l3 + 1) hL
      · rw [if_neg (b2i_f hc)] at hF
        refine r_iconst C (v := 1) rfl dX11_lostTwig_25 ?_
        cases hF
        change some _ = some _ at hL
        cases hL
        exact r_zreturn C true rfl dX11_lostTwig_26
theorem c_X11_lostTwig {w : WP} (hW : gWM w) {Ω : OM}  {t : HV} (e : Ω.2.1 = t) (N : Nat) (a1 : Int32) (a2 : Int32) {v : Bool} (hF : F_X11_lostTwig N a1 a2 t = some v) : gM w 2 yX11_lostTwig cX11_lostTwig 4 (some .boolean) [.ref (wAd w (11, 12, 0, 0)), .int a1, .int a2] (cA w Ω) (some (.int (b2i v))) (cA w Ω) := by
  refine gM_of "HedgeMessagesModel" rfl (by decide) (kR rfl) fun X C => ?_
  unfold F_X11_lostTwig at hF
  show gV w X _ _ 0 [(0, .ref (wAd w (11, 12, 0, 0))), (1, .int a1), (2, .int a2)] []
  refine r_iconst C (v := 0) rfl dX11_lostTwig_0 ?_
  refine r_istore_n C (lo' := [(3, .int 0), (0, .ref (wAd w (11, 12, 0, 0))), (1, .int a1), (2, .int a2)]) rfl (by decide) rfl dX11_lostTwig_1 ?_
  refine r_lo [1, 2, 3, 0] (lo' := [(0, .ref (wAd w (11, 12, 0, 0))), (1, .int a1), (2, .int a2), (3, .int 0)]) rfl ?_
  exact lp_X11_lostTwig_2 hW e a1 a2 C N 0 hF
theorem dX11_fails_0 : decode cX11_fails 0 = .ok (.aload_n 0, 1) := by decide +kernel
theorem dX11_fails_1 : decode cX11_fails 1 = .ok (.iload_n 2, 1) := by decide +kernel
theorem dX11_fails_2 : decode cX11_fails 2 = .ok (.iload_n 3, 1) := by decide +kernel
theorem dX11_fails_3 : decode cX11_fails 3 = .ok (.invokevirtual 128, 3) := by decide +kernel
theorem dX11_fails_6 : decode cX11_fails 6 = .ok (.aload_n 0, 1) := by decide +kernel
theorem dX11_fails_7 : decode cX11_fails 7 = .ok (.getfield 7, 3) := by decide +kernel
theorem dX11_fails_10 : decode cX11_fails 10 = .ok (.bipush 18, 2) := by decide +kernel
theorem dX11_fails_12 : decode cX11_fails 12 = .ok (.iload_n 1, 1) := by decide +kernel
theorem dX11_fails_13 : decode cX11_fails 13 = .ok (.iadd, 1) := by decide +kernel
theorem dX11_fails_14 : decode cX11_fails 14 = .ok (.dup2, 1) := by decide +kernel
theorem dX11_fails_15 : decode cX11_fails 15 = .ok (.iaload, 1) := by decide +kernel
theorem dX11_fails_16 : decode cX11_fails 16 = .ok (.iconst 1, 1) := by decide +kernel
theorem dX11_fails_17 : decode cX11_fails 17 = .ok (.iadd, 1) := by decide +kernel
theorem dX11_fails_18 : decode cX11_fails 18 = .ok (.iastore, 1) := by decide +kernel
theorem dX11_fails_19 : decode cX11_fails 19 = .ok (.aload_n 0, 1) := by decide +kernel
theorem dX11_fails_20 : decode cX11_fails 20 = .ok (.getfield 7, 3) := by decide +kernel
theorem dX11_fails_23 : decode cX11_fails 23 = .ok (.bipush 12, 2) := by decide +kernel
theorem dX11_fails_25 : decode cX11_fails 25 = .ok (.iload_n 1, 1) := by decide +kernel
theorem dX11_fails_26 : decode cX11_fails 26 = .ok (.iadd, 1) := by decide +kernel
theorem dX11_fails_27 : decode cX11_fails 27 = .ok (.iaload, 1) := by decide +kernel
theorem dX11_fails_28 : decode cX11_fails 28 = .ok (.bipush 8, 2) := by decide +kernel
theorem dX11_fails_30 : decode cX11_fails 30 = .ok (.if_icmp .ne 19, 3) := by decide +kernel
theorem dX11_fails_33 : decode cX11_fails 33 = .ok (.aload_n 0, 1) := by decide +kernel
theorem dX11_fails_34 : decode cX11_fails 34 = .ok (.getfield 7, 3) := by decide +kernel
theorem dX11_fails_37 : decode cX11_fails 37 = .ok (.bipush 20, 2) := by decide +kernel
theorem dX11_fails_39 : decode cX11_fails 39 = .ok (.iload_n 1, 1) := by decide +kernel
theorem dX11_fails_40 : decode cX11_fails 40 = .ok (.iadd, 1) := by decide +kernel
theorem dX11_fails_41 : decode cX11_fails 41 = .ok (.dup2, 1) := by decide +kernel
theorem dX11_fails_42 : decode cX11_fails 42 = .ok (.iaload, 1) := by decide +kernel
theorem dX11_fails_43 : decode cX11_fails 43 = .ok (.iconst 1, 1) := by decide +kernel
theorem dX11_fails_44 : decode cX11_fails 44 = .ok (.iadd, 1) := by decide +kernel
theorem dX11_fails_45 : decode cX11_fails 45 = .ok (.iastore, 1) := by decide +kernel
theorem dX11_fails_46 : decode cX11_fails 46 = .ok (.goto 9, 3) := by decide +kernel
theorem dX11_fails_49 : decode cX11_fails 49 = .ok (.aload_n 0, 1) := by decide +kernel
theorem dX11_fails_50 : decode cX11_fails 50 = .ok (.iload_n 1, 1) := by decide +kernel
theorem dX11_fails_51 : decode cX11_fails 51 = .ok (.iload_n 2, 1) := by decide +kernel
theorem dX11_fails_52 : decode cX11_fails 52 = .ok (.invokevirtual 161, 3) := by decide +kernel
theorem dX11_fails_55 : decode cX11_fails 55 = .ok (.return_, 1) := by decide +kernel
def F_X11_fails (N : Nat) (a1 : Int32) (a2 : Int32) (a3 : Int32) (t : HV) : Option (HV) := (ob1 (F_X11_clearsTwigs N a2 a3 t) fun t2 => (if vpb (18 + a1) 760 = true then (if vpb (18 + a1) 760 = true then (lt (aw t2 0 (18 + a1) ((ag t2 0 (18 + a1)) + 1)) fun t5 => (if vpb (12 + a1) 760 = true then (if (ag t5 0 (12 + a1)) = 8 then (if vpb (20 + a1) 760 = true then (if vpb (20 + a1) 760 = true then (lt (aw t5 0 (20 + a1) ((ag t5 0 (20 + a1)) + 1)) fun t11 => some t11) else none) else none) else (ob1 (F_X11_waits N a1 a2 t5) fun t8 => some t8)) else none)) else none) else none))
theorem c_X11_fails {w : WP} (hW : gWM w) {Ω : OM}  {t : HV} (e : Ω.2.1 = t) (N : Nat) (a1 : Int32) (a2 : Int32) (a3 : Int32) {t' : HV} (hF : F_X11_fails N a1 a2 a3 t = some t') {Ω' : OM} (e2 : (sM Ω t') = Ω') : gM w 3 yX11_fails cX11_fails 4 none [.ref (wAd w (11, 12, 0, 0)), .int a1, .int a2, .int a3] (cA w Ω) none (cA w Ω') := by
  refine gM_of "HedgeMessagesModel" rfl (by decide) (kR rfl) fun X C => ?_
  unfold F_X11_fails at hF
  subst e2
  show gV w X _ _ 0 [(0, .ref (wAd w (11, 12, 0, 0))), (1, .int a1), (2, .int a2), (3, .int a3)] []
  refine r_ct (ct' := cA w (sM Ω t)) (congrArg (cA w) (sM_i e).symm) ?_
  refine r_aload_n C (k := 0) rfl rfl dX11_fails_0 ?_
  refine r_iload_n C (k := 2) rfl rfl dX11_fails_1 ?_
  refine r_iload_n C (k := 3) rfl rfl dX11_fails_2 ?_
  obtain ⟨t2, ht2, hF⟩ := ob1_e hF
  refine r_callV C (d' := 2) [.int a2, .int a3] (c_X11_clearsTwigs hW (show (sM Ω t).2.1 = t from rfl) N a2 a3 ht2 rfl) myX11_clearsTwigs wm8_65 ⟨_, _, _, _, (hW.ok k11), rfl, rfl, rfl, rfl⟩ rfl (kR rfl) (by decide) (kR rfl) rfl dX11_fails_3 ?_
  refine r_aload_n C (k := 0) rfl rfl dX11_fails_6 ?_
  refine og_11_0 C (hW.ok k11) wm7_67 dX11_fails_7 ?_
  refine r_bipush C (v := 18) rfl dX11_fails_10 ?_
  refine r_iload_n C (k := 1) rfl rfl dX11_fails_12 ?_
  refine r_iadd C dX11_fails_13 ?_
  refine r_dup2_11 C rfl rfl dX11_fails_14 ?_
  obtain ⟨b3, hF⟩ := gd_e hF
  refine m_ald C (hW.ok (k12 (a := 0) (by unfold okMa; decide))) (show (sM Ω t2).2.1 = t2 from rfl) rfl b3 dX11_fails_15 ?_
  refine r_iconst C (v := 1) rfl dX11_fails_16 ?_
  refine r_iadd C dX11_fails_17 ?_
  obtain ⟨b4, hF⟩ := gd_e hF
  obtain ⟨t5, et5, hF⟩ := lt_e hF
  refine m_ast C hW.x (hW.fr (k12 (a := 0) (by unfold okMa; decide))) (show (sM Ω t2).2.1 = t2 from rfl) rfl b4 dX11_fails_18 (congrArg (sM Ω) et5) ?_
  refine r_aload_n C (k := 0) rfl rfl dX11_fails_19 ?_
  refine og_11_0 C (hW.ok k11) wm7_67 dX11_fails_20 ?_
  refine r_bipush C (v := 12) rfl dX11_fails_23 ?_
  refine r_iload_n C (k := 1) rfl rfl dX11_fails_25 ?_
  refine r_iadd C dX11_fails_26 ?_
  obtain ⟨b6, hF⟩ := gd_e hF
  refine m_ald C (hW.ok (k12 (a := 0) (by unfold okMa; decide))) (show (sM Ω t5).2.1 = t5 from rfl) rfl b6 dX11_fails_27 ?_
  refine r_bipush C (v := 8) rfl dX11_fails_28 ?_
  refine r_icmp_ne C (tgt := 49) rfl dX11_fails_30 (fun hc => ?_) (fun hc => ?_)
  · rw [if_neg hc] at hF
    refine r_aload_n C (k := 0) rfl rfl dX11_fails_49 ?_
    refine r_iload_n C (k := 1) rfl rfl dX11_fails_50 ?_
    refine r_iload_n C (k := 2) rfl rfl dX11_fails_51 ?_
    obtain ⟨t8, ht8, hF⟩ := ob1_e hF
    refine r_callV C (d' := 1) [.int a1, .int a2] (c_X11_waits hW (show (sM Ω t5).2.1 = t5 from rfl) N a1 a2 ht8 rfl) myX11_waits wm8_133 ⟨_, _, _, _, (hW.ok k11), rfl, rfl, rfl, rfl⟩ rfl (kR rfl) (by decide) (kR rfl) rfl dX11_fails_52 ?_
    cases hF
    exact r_return C dX11_fails_55
  · rw [if_pos hc] at hF
    refine r_aload_n C (k := 0) rfl rfl dX11_fails_33 ?_
    refine og_11_0 C (hW.ok k11) wm7_67 dX11_fails_34 ?_
    refine r_bipush C (v := 20) rfl dX11_fails_37 ?_
    refine r_iload_n C (k := 1) rfl rfl dX11_fails_39 ?_
    refine r_iadd C dX11_fails_40 ?_
    refine r_dup2_11 C rfl rfl dX11_fails_41 ?_
    obtain ⟨b9, hF⟩ := gd_e hF
    refine m_ald C (hW.ok (k12 (a := 0) (by unfold okMa; decide))) (show (sM Ω t5).2.1 = t5 from rfl) rfl b9 dX11_fails_42 ?_
    refine r_iconst C (v := 1) rfl dX11_fails_43 ?_
    refine r_iadd C dX11_fails_44 ?_
    obtain ⟨b10, hF⟩ := gd_e hF
    obtain ⟨t11, et11, hF⟩ := lt_e hF
    refine m_ast C hW.x (hW.fr (k12 (a := 0) (by unfold okMa; decide))) (show (sM Ω t5).2.1 = t5 from rfl) rfl b10 dX11_fails_45 (congrArg (sM Ω) et11) ?_
    refine r_goto C (tgt := 55) rfl dX11_fails_46 ?_
    cases hF
    exact r_return C dX11_fails_55
theorem dX11_inspects_0 : decode cX11_inspects 0 = .ok (.iconst 0, 1) := by decide +kernel
theorem dX11_inspects_1 : decode cX11_inspects 1 = .ok (.istore_n 1, 1) := by decide +kernel
theorem dX11_inspects_2 : decode cX11_inspects 2 = .ok (.iload_n 1, 1) := by decide +kernel
theorem dX11_inspects_3 : decode cX11_inspects 3 = .ok (.aload_n 0, 1) := by decide +kernel
theorem dX11_inspects_4 : decode cX11_inspects 4 = .ok (.getfield 7, 3) := by decide +kernel
theorem dX11_inspects_7 : decode cX11_inspects 7 = .ok (.iconst 0, 1) := by decide +kernel
theorem dX11_inspects_8 : decode cX11_inspects 8 = .ok (.iaload, 1) := by decide +kernel
theorem dX11_inspects_9 : decode cX11_inspects 9 = .ok (.if_icmp .ge 33, 3) := by decide +kernel
theorem dX11_inspects_12 : decode cX11_inspects 12 = .ok (.aload_n 0, 1) := by decide +kernel
theorem dX11_inspects_13 : decode cX11_inspects 13 = .ok (.iload_n 1, 1) := by decide +kernel
theorem dX11_inspects_14 : decode cX11_inspects 14 = .ok (.invokevirtual 164, 3) := by decide +kernel
theorem dX11_inspects_17 : decode cX11_inspects 17 = .ok (.ifCond .eq 19, 3) := by decide +kernel
theorem dX11_inspects_20 : decode cX11_inspects 20 = .ok (.aload_n 0, 1) := by decide +kernel
theorem dX11_inspects_21 : decode cX11_inspects 21 = .ok (.iload_n 1, 1) := by decide +kernel
theorem dX11_inspects_22 : decode cX11_inspects 22 = .ok (.invokevirtual 124, 3) := by decide +kernel
theorem dX11_inspects_25 : decode cX11_inspects 25 = .ok (.aload_n 0, 1) := by decide +kernel
theorem dX11_inspects_26 : decode cX11_inspects 26 = .ok (.getfield 7, 3) := by decide +kernel
theorem dX11_inspects_29 : decode cX11_inspects 29 = .ok (.bipush 9, 2) := by decide +kernel
theorem dX11_inspects_31 : decode cX11_inspects 31 = .ok (.dup2, 1) := by decide +kernel
theorem dX11_inspects_32 : decode cX11_inspects 32 = .ok (.iaload, 1) := by decide +kernel
theorem dX11_inspects_33 : decode cX11_inspects 33 = .ok (.iconst 1, 1) := by decide +kernel
theorem dX11_inspects_34 : decode cX11_inspects 34 = .ok (.iadd, 1) := by decide +kernel
theorem dX11_inspects_35 : decode cX11_inspects 35 = .ok (.iastore, 1) := by decide +kernel
theorem dX11_inspects_36 : decode cX11_inspects 36 = .ok (.iinc 1 1, 3) := by decide +kernel
theorem dX11_inspects_39 : decode cX11_inspects 39 = .ok (.goto (-37), 3) := by decide +kernel
theorem dX11_inspects_42 : decode cX11_inspects 42 = .ok (.iconst 0, 1) := by decide +kernel
theorem dX11_inspects_43 : decode cX11_inspects 43 = .ok (.istore_n 1, 1) := by decide +kernel
theorem dX11_inspects_44 : decode cX11_inspects 44 = .ok (.iload_n 1, 1) := by decide +kernel
theorem dX11_inspects_45 : decode cX11_inspects 45 = .ok (.iconst 2, 1) := by decide +kernel
theorem dX11_inspects_46 : decode cX11_inspects 46 = .ok (.if_icmp .ge 61, 3) := by decide +kernel
theorem dX11_inspects_49 : decode cX11_inspects 49 = .ok (.iload_n 1, 1) := by decide +kernel
theorem dX11_inspects_50 : decode cX11_inspects 50 = .ok (.invokestatic 91, 3) := by decide +kernel
theorem dX11_inspects_53 : decode cX11_inspects 53 = .ok (.istore_n 2, 1) := by decide +kernel
theorem dX11_inspects_54 : decode cX11_inspects 54 = .ok (.aload_n 0, 1) := by decide +kernel
theorem dX11_inspects_55 : decode cX11_inspects 55 = .ok (.iload_n 1, 1) := by decide +kernel
theorem dX11_inspects_56 : decode cX11_inspects 56 = .ok (.invokevirtual 134, 3) := by decide +kernel
theorem dX11_inspects_59 : decode cX11_inspects 59 = .ok (.ifCond .eq 42, 3) := by decide +kernel
theorem dX11_inspects_62 : decode cX11_inspects 62 = .ok (.aload_n 0, 1) := by decide +kernel
theorem dX11_inspects_63 : decode cX11_inspects 63 = .ok (.iload_n 2, 1) := by decide +kernel
theorem dX11_inspects_64 : decode cX11_inspects 64 = .ok (.aload_n 0, 1) := by decide +kernel
theorem dX11_inspects_65 : decode cX11_inspects 65 = .ok (.getfield 7, 3) := by decide +kernel
theorem dX11_inspects_68 : decode cX11_inspects 68 = .ok (.iload_n 2, 1) := by decide +kernel
theorem dX11_inspects_69 : decode cX11_inspects 69 = .ok (.bipush 14, 2) := by decide +kernel
theorem dX11_inspects_71 : decode cX11_inspects 71 = .ok (.iadd, 1) := by decide +kernel
theorem dX11_inspects_72 : decode cX11_inspects 72 = .ok (.iaload, 1) := by decide +kernel
theorem dX11_inspects_73 : decode cX11_inspects 73 = .ok (.invokevirtual 167, 3) := by decide +kernel
theorem dX11_inspects_76 : decode cX11_inspects 76 = .ok (.ifCond .eq 25, 3) := by decide +kernel
theorem dX11_inspects_79 : decode cX11_inspects 79 = .ok (.aload_n 0, 1) := by decide +kernel
theorem dX11_inspects_80 : decode cX11_inspects 80 = .ok (.iload_n 1, 1) := by decide +kernel
theorem dX11_inspects_81 : decode cX11_inspects 81 = .ok (.iload_n 2, 1) := by decide +kernel
theorem dX11_inspects_82 : decode cX11_inspects 82 = .ok (.aload_n 0, 1) := by decide +kernel
theorem dX11_inspects_83 : decode cX11_inspects 83 = .ok (.getfield 7, 3) := by decide +kernel
theorem dX11_inspects_86 : decode cX11_inspects 86 = .ok (.iload_n 2, 1) := by decide +kernel
theorem dX11_inspects_87 : decode cX11_inspects 87 = .ok (.bipush 14, 2) := by decide +kernel
theorem dX11_inspects_89 : decode cX11_inspects 89 = .ok (.iadd, 1) := by decide +kernel
theorem dX11_inspects_90 : decode cX11_inspects 90 = .ok (.iaload, 1) := by decide +kernel
theorem dX11_inspects_91 : decode cX11_inspects 91 = .ok (.invokevirtual 170, 3) := by decide +kernel
theorem dX11_inspects_94 : decode cX11_inspects 94 = .ok (.aload_n 0, 1) := by decide +kernel
theorem dX11_inspects_95 : decode cX11_inspects 95 = .ok (.getfield 7, 3) := by decide +kernel
theorem dX11_inspects_98 : decode cX11_inspects 98 = .ok (.iload_n 2, 1) := by decide +kernel
theorem dX11_inspects_99 : decode cX11_inspects 99 = .ok (.iconst 0, 1) := by decide +kernel
theorem dX11_inspects_100 : decode cX11_inspects 100 = .ok (.iastore, 1) := by decide +kernel
theorem dX11_inspects_101 : decode cX11_inspects 101 = .ok (.iinc 1 1, 3) := by decide +kernel
theorem dX11_inspects_104 : decode cX11_inspects 104 = .ok (.goto (-60), 3) := by decide +kernel
theorem dX11_inspects_107 : decode cX11_inspects 107 = .ok (.iconst 0, 1) := by decide +kernel
theorem dX11_inspects_108 : decode cX11_inspects 108 = .ok (.istore_n 1, 1) := by decide +kernel
theorem dX11_inspects_109 : decode cX11_inspects 109 = .ok (.iload_n 1, 1) := by decide +kernel
theorem dX11_inspects_110 : decode cX11_inspects 110 = .ok (.aload_n 0, 1) := by decide +kernel
theorem dX11_inspects_111 : decode cX11_inspects 111 = .ok (.getfield 7, 3) := by decide +kernel
theorem dX11_inspects_114 : decode cX11_inspects 114 = .ok (.bipush 11, 2) := by decide +kernel
theorem dX11_inspects_116 : decode cX11_inspects 116 = .ok (.iaload, 1) := by decide +kernel
theorem dX11_inspects_117 : decode cX11_inspects 117 = .ok (.if_icmp .ge 56, 3) := by decide +kernel
theorem dX11_inspects_120 : decode cX11_inspects 120 = .ok (.iload_n 1, 1) := by decide +kernel
theorem dX11_inspects_121 : decode cX11_inspects 121 = .ok (.invokestatic 95, 3) := by decide +kernel
theorem dX11_inspects_124 : decode cX11_inspects 124 = .ok (.istore_n 2, 1) := by decide +kernel
theorem dX11_inspects_125 : decode cX11_inspects 125 = .ok (.aload_n 0, 1) := by decide +kernel
theorem dX11_inspects_126 : decode cX11_inspects 126 = .ok (.iload_n 2, 1) := by decide +kernel
theorem dX11_inspects_127 : decode cX11_inspects 127 = .ok (.aload_n 0, 1) := by decide +kernel
theorem dX11_inspects_128 : decode cX11_inspects 128 = .ok (.getfield 7, 3) := by decide +kernel
theorem dX11_inspects_131 : decode cX11_inspects 131 = .ok (.iload_n 2, 1) := by decide +kernel
theorem dX11_inspects_132 : decode cX11_inspects 132 = .ok (.iaload, 1) := by decide +kernel
theorem dX11_inspects_133 : decode cX11_inspects 133 = .ok (.invokevirtual 167, 3) := by decide +kernel
theorem dX11_inspects_136 : decode cX11_inspects 136 = .ok (.ifCond .ne 9, 3) := by decide +kernel
theorem dX11_inspects_139 : decode cX11_inspects 139 = .ok (.iinc 1 1, 3) := by decide +kernel
theorem dX11_inspects_142 : decode cX11_inspects 142 = .ok (.goto (-33), 3) := by decide +kernel
theorem dX11_inspects_145 : decode cX11_inspects 145 = .ok (.aload_n 0, 1) := by decide +kernel
theorem dX11_inspects_146 : decode cX11_inspects 146 = .ok (.aload_n 0, 1) := by decide +kernel
theorem dX11_inspects_147 : decode cX11_inspects 147 = .ok (.getfield 7, 3) := by decide +kernel
theorem dX11_inspects_150 : decode cX11_inspects 150 = .ok (.iload_n 2, 1) := by decide +kernel
theorem dX11_inspects_151 : decode cX11_inspects 151 = .ok (.bipush 14, 2) := by decide +kernel
theorem dX11_inspects_153 : decode cX11_inspects 153 = .ok (.iadd, 1) := by decide +kernel
theorem dX11_inspects_154 : decode cX11_inspects 154 = .ok (.iaload, 1) := by decide +kernel
theorem dX11_inspects_155 : decode cX11_inspects 155 = .ok (.iload_n 2, 1) := by decide +kernel
theorem dX11_inspects_156 : decode cX11_inspects 156 = .ok (.aload_n 0, 1) := by decide +kernel
theorem dX11_inspects_157 : decode cX11_inspects 157 = .ok (.getfield 7, 3) := by decide +kernel
theorem dX11_inspects_160 : decode cX11_inspects 160 = .ok (.iload_n 2, 1) := by decide +kernel
theorem dX11_inspects_161 : decode cX11_inspects 161 = .ok (.iaload, 1) := by decide +kernel
theorem dX11_inspects_162 : decode cX11_inspects 162 = .ok (.invokevirtual 170, 3) := by decide +kernel
theorem dX11_inspects_165 : decode cX11_inspects 165 = .ok (.aload_n 0, 1) := by decide +kernel
theorem dX11_inspects_166 : decode cX11_inspects 166 = .ok (.iload_n 1, 1) := by decide +kernel
theorem dX11_inspects_167 : decode cX11_inspects 167 = .ok (.invokevirtual 131, 3) := by decide +kernel
theorem dX11_inspects_170 : decode cX11_inspects 170 = .ok (.goto (-61), 3) := by decide +kernel
theorem dX11_inspects_173 : decode cX11_inspects 173 = .ok (.return_, 1) := by decide +kernel
def st_X11_inspects_109 (N : Nat) (l1 : Int32) (t : HV) : Option ((Int32 × HV) ⊕ (HV)) := (if vpb 11 760 = true then (if (ag t 0 11) ≤ l1 then some (.inr t) else (if vpb (F_X11_postAt l1) 760 = true then (ob1 (F_X11_lostTwig N (F_X11_postAt l1) (ag t 0 (F_X11_postAt l1)) t) fun v4 => (if v4 = true then (if vpb ((F_X11_postAt l1) + 14) 760 = true then (if vpb (F_X11_postAt l1) 760 = true then (ob1 (F_X11_fails N (ag t 0 ((F_X11_postAt l1) + 14)) (F_X11_postAt l1) (ag t 0 (F_X11_postAt l1)) t) fun t8 => (ob1 (F_X11_postGoes N l1 t8) fun t10 => some (.inl (l1, t10)))) else none) else none) else some (.inl ((l1 + 1), t)))) else none)) else none)
def st_X11_inspects_44 (N : Nat) (l1 : Int32) (t : HV) : Option ((Int32 × HV) ⊕ (HV)) := (if 2 ≤ l1 then (ob1 (lpN N (fun z => st_X11_inspects_109 N z.1 z.2) (0, t)) fun q9 => some (.inr q9)) else (ob1 (F_X11_isInProgress l1 t) fun v11 => (if v11 = true then (if vpb ((F_X11_progressOf l1) + 14) 760 = true then (ob1 (F_X11_lostTwig N (F_X11_progressOf l1) (ag t 0 ((F_X11_progressOf l1) + 14)) t) fun v13 => (if v13 = true then (if vpb ((F_X11_progressOf l1) + 14) 760 = true then (ob1 (F_X11_fails N l1 (F_X11_progressOf l1) (ag t 0 ((F_X11_progressOf l1) + 14)) t) fun t16 => (if vpb (F_X11_progressOf l1) 760 = true then (lt (aw t16 0 (F_X11_progressOf l1) 0) fun t18 => some (.inl ((l1 + 1), t18))) else none)) else none) else some (.inl ((l1 + 1), t)))) else none) else some (.inl ((l1 + 1), t)))))
def st_X11_inspects_2 (N : Nat) (l1 : Int32) (t : HV) : Option ((Int32 × HV) ⊕ (HV)) := (if vpb 0 760 = true then (if (ag t 0 0) ≤ l1 then (ob1 (lpN N (fun z => st_X11_inspects_44 N z.1 z.2) (0, t)) fun q9 => some (.inr q9)) else (ob1 (F_X11_wouldPrune l1 t) fun v19 => (if v19 = true then (ob1 (F_X11_twigGoes N l1 t) fun t21 => (if vpb 9 760 = true then (if vpb 9 760 = true then (lt (aw t21 0 9 ((ag t21 0 9) + 1)) fun t24 => some (.inl ((l1 + 1), t24))) else none) else none)) else some (.inl ((l1 + 1), t))))) else none)
def F_X11_inspects (N : Nat) (t : HV) : Option (HV) := (lpN N (fun z => st_X11_inspects_2 N z.1 z.2) (0, t))
theorem lp_X11_inspects_109 {w : WP} (hW : gWM w) {Ω : OM}    {N : Nat} {X : CX} (C : gC w X cX11_inspects "HedgeMessagesModel" none 5 3) {t' : HV}  : ∀ (n : Nat) (l1 : Int32) (t : HV), lpN n (fun z : Int32 × HV => st_X11_inspects_109 N z.1 z.2) (l1, t) = some t' → gV w X (none, cA w (sM Ω t')) (cA w (sM Ω t)) 109 [(0, .ref (wAd w (11, 12, 0, 0))), (1, .int l1)] [] := by
  intro n
  induction n with
  | zero => intro l1 t hL; exact lpN_0 hL
  | succ n ih =>
    intro l1 t hL
    obtain ⟨q9, hF, hL⟩ := lpN_e hL
    change st_X11_inspects_109 N l1 t = some q9 at hF
    unfold st_X11_inspects_109 at hF
    refine r_iload_n C (k := 1) rfl rfl dX11_inspects_109 ?_
    refine r_aload_n C (k := 0) rfl rfl dX11_inspects_110 ?_
    refine og_11_0 C (hW.ok k11) wm7_67 dX11_inspects_111 ?_
    refine r_bipush C (v := 11) rfl dX11_inspects_114 ?_
    obtain ⟨b2, hF⟩ := gd_e hF
    refine m_ald C (hW.ok (k12 (a := 0) (by unfold okMa; decide))) (show (sM Ω t).2.1 = t from rfl) rfl b2 dX11_inspects_116 ?_
    refine r_icmp_ge C (tgt := 173) rfl dX11_inspects_117 (fun hc => ?_) (fun hc => ?_)
    · rw [if_pos hc] at hF
      cases hF
      change some _ = some _ at hL
      cases hL
      exact r_return C dX11_inspects_173
    · rw [if_neg hc] at hF
      refine r_iload_n C (k := 1) rfl rfl dX11_inspects_120 ?_
      refine r_callS C (d' := 0) [.int l1] (c_X11_postAt l1 rfl) myX11_postAt wm7_216 rfl (kR rfl) (by decide) (kR rfl) rfl dX11_inspects_121 ?_
      refine r_istore_n C (lo' := [(2, .int (F_X11_postAt l1)), (0, .ref (wAd w (11, 12, 0, 0))), (1, .int l1)]) rfl (by decide) rfl dX11_inspects_124 ?_
      refine r_aload_n C (k := 1) rfl rfl dX11_inspects_125 ?_
      refine r_iload_n C (k := 0) rfl rfl dX11_inspects_126 ?_
      refine r_aload_n C (k := 1) rfl rfl dX11_inspects_127 ?_
      refine og_11_0 C (hW.ok k11) wm7_67 dX11_inspects_128 ?_
      refine r_iload_n C (k := 0) rfl rfl dX11_inspects_131 ?_
      obtain ⟨b3, hF⟩ := gd_e hF
      refine m_ald C (hW.ok (k12 (a := 0) (by unfold okMa; decide))) (show (sM Ω t).2.1 = t from rfl) rfl b3 dX11_inspects_132 ?_
      obtain ⟨v4, hv4, hF⟩ := ob1_e hF
      refine r_callV C (d' := 2) [.int (F_X11_postAt l1), .int (ag t 0 (F_X11_postAt l1))] (c_X11_lostTwig hW (show (sM Ω t).2.1 = t from rfl) N (F_X11_postAt l1) (ag t 0 (F_X11_postAt l1)) hv4) myX11_lostTwig wm8_125 ⟨_, _, _, _, (hW.ok k11), rfl, rfl, rfl, rfl⟩ rfl (kR rfl) (by decide) (kR rfl) rfl dX11_inspects_133 ?_
      refine r_if_ne C (tgt := 145) rfl dX11_inspects_136 (fun hc => ?_) (fun hc => ?_)
      · rw [if_pos (b2i_t hc)] at hF
        refine r_aload_n C (k := 1) rfl rfl dX11_inspects_145 ?_
        refine r_aload_n C (k := 1) rfl rfl dX11_inspects_146 ?_
        refine og_11_0 C (hW.ok k11) wm7_67 dX11_inspects_147 ?_
        refine r_iload_n C (k := 0) rfl rfl dX11_inspects_150 ?_
        refine r_bipush C (v := 14) rfl dX11_inspects_151 ?_
        refine r_iadd C dX11_inspects_153 ?_
        obtain ⟨b5, hF⟩ := gd_e hF
        refine m_ald C (hW.ok (k12 (a := 0) (by unfold okMa; decide))) (show (sM Ω t).2.1 = t from rfl) rfl b5 dX11_inspects_154 ?_
        refine r_iload_n C (k := 0) rfl rfl dX11_inspects_155 ?_
        refine r_aload_n C (k := 1) rfl rfl dX11_inspects_156 ?_
        refine og_11_0 C (hW.ok k11) wm7_67 dX11_inspects_157 ?_
        refine r_iload_n C (k := 0) rfl rfl dX11_inspects_160 ?_
        obtain ⟨b6, hF⟩ := gd_e hF
        refine m_ald C (hW.ok (k12 (a := 0) (by unfold okMa; decide))) (show (sM Ω t).2.1 = t from rfl) rfl b6 dX11_inspects_161 ?_
        obtain ⟨t8, ht8, hF⟩ := ob1_e hF
        refine r_callV C (d' := 3) [.int (ag t 0 ((F_X11_postAt l1) + 14)), .int (F_X11_postAt l1), .int (ag t 0 (F_X11_postAt l1))] (c_X11_fails hW (show (sM Ω t).2.1 = t from rfl) N (ag t 0 ((F_X11_postAt l1) + 14)) (F_X11_postAt l1) (ag t 0 (F_X11_postAt l1)) ht8 rfl) myX11_fails wm8_129 ⟨_, _, _, _, (hW.ok k11), rfl, rfl, rfl, rfl⟩ rfl (kR rfl) (by decide) (kR rfl) rfl dX11_inspects_162 ?_
        refine r_aload_n C (k := 1) rfl rfl dX11_inspects_165 ?_
        refine r_iload_n C (k := 2) rfl rfl dX11_inspects_166 ?_
        obtain ⟨t10, ht10, hF⟩ := ob1_e hF
        refine r_callV C (d' := 1) [.int l1] (c_X11_postGoes hW (show (sM Ω t8).2.1 = t8 from rfl) N l1 ht10 rfl) myX11_postGoes wm8_69 ⟨_, _, _, _, (hW.ok k11), rfl, rfl, rfl, rfl⟩ rfl (kR rfl) (by decide) (kR rfl) rfl dX11_inspects_167 ?_
        refine r_goto C (tgt := 109) rfl dX11_inspects_170 ?_
        cases hF
        change lpN n _ _ = some _ at hL
        refine r_lo [1, 2] (lo' := [(0, .ref (wAd w (11, 12, 0, 0))), (1, .int l1)]) rfl ?_
        exact ih l1 t10 hL
      · rw [if_neg (b2i_f hc)] at hF
        refine r_iinc C (k := 2) (v := (l1 + 1)) (lo' := [(1, .int (l1 + 1)), (2, .int (F_X11_postAt l1)), (0, .ref (wAd w (11, 12, 0, 0)))]) rfl rfl (by decide) rfl dX11_inspects_139 ?_
        refine r_goto C (tgt := 109) rfl dX11_inspects_142 ?_
        cases hF
        change lpN n _ _ = some _ at hL
        refine r_lo [2, 0] (lo' := [(0, .ref (wAd w (11, 12, 0, 0))), (1, .int (l1 + 1))]) rfl ?_
        exact ih (l1 + 1) t hL
theorem lp_X11_inspects_44 {w : WP} (hW : gWM w) {Ω : OM}    {N : Nat} {X : CX} (C : gC w X cX11_inspects "HedgeMessagesModel" none 5 3) {t' : HV}  : ∀ (n : Nat) (l1 : Int32) (t : HV), lpN n (fun z : Int32 × HV => st_X11_inspects_44 N z.1 z.2) (l1, t) = some t' → gV w X (none, cA w (sM Ω t')) (cA w (sM Ω t)) 44 [(0, .ref (wAd w (11, 12, 0, 0))), (1, .int l1)] [] := by
  intro n
  induction n with
  | zero => intro l1 t hL; exact lpN_0 hL
  | succ n ih =>
    intro l1 t hL
    obtain ⟨q9, hF, hL⟩ := lpN_e hL
    change st_X11_inspects_44 N l1 t = some q9 at hF
    unfold st_X11_inspects_44 at hF
    refine r_iload_n C (k := 1) rfl rfl dX11_inspects_44 ?_
    refine r_iconst C (v := 2) rfl dX11_inspects_45 ?_
    refine r_icmp_ge C (tgt := 107) rfl dX11_inspects_46 (fun hc => ?_) (fun hc => ?_)
    · rw [if_pos hc] at hF
      refine r_iconst C (v := 0) rfl dX11_inspects_107 ?_
      refine r_istore_n C (lo' := [(1, .int 0), (0, .ref (wAd w (11, 12, 0, 0)))]) rfl (by decide) rfl dX11_inspects_108 ?_
      obtain ⟨q9, h9, hF⟩ := ob1_e hF
      cases hF
      change some _ = some _ at hL
      cases hL
      refine r_lo [1, 0] (lo' := [(0, .ref (wAd w (11, 12, 0, 0))), (1, .int 0)]) rfl ?_
      exact lp_X11_inspects_109 hW C N 0 t h9
    · rw [if_neg hc] at hF
      refine r_iload_n C (k := 1) rfl rfl dX11_inspects_49 ?_
      refine r_callS C (d' := 0) [.int l1] (c_X11_progressOf l1 rfl) myX11_progressOf wm7_223 rfl (kR rfl) (by decide) (kR rfl) rfl dX11_inspects_50 ?_
      refine r_istore_n C (lo' := [(2, .int (F_X11_progressOf l1)), (0, .ref (wAd w (11, 12, 0, 0))), (1, .int l1)]) rfl (by decide) rfl dX11_inspects_53 ?_
      refine r_aload_n C (k := 1) rfl rfl dX11_inspects_54 ?_
      refine r_iload_n C (k := 2) rfl rfl dX11_inspects_55 ?_
      obtain ⟨v11, hv11, hF⟩ := ob1_e hF
      refine r_callV C (d' := 1) [.int l1] (c_X11_isInProgress hW (show (sM Ω t).2.1 = t from rfl) l1 hv11) myX11_isInProgress wm8_81 ⟨_, _, _, _, (hW.ok k11), rfl, rfl, rfl, rfl⟩ rfl (kR rfl) (by decide) (kR rfl) rfl dX11_inspects_56 ?_
      refine r_if_eq C (tgt := 101) rfl dX11_inspects_59 (fun hc => ?_) (fun hc => ?_)
      · rw [if_neg (b2i_f hc)] at hF
        refine r_iinc C (k := 2) (v := (l1 + 1)) (lo' := [(1, .int (l1 + 1)), (2, .int (F_X11_progressOf l1)), (0, .ref (wAd w (11, 12, 0, 0)))]) rfl rfl (by decide) rfl dX11_inspects_101 ?_
        refine r_goto C (tgt := 44) rfl dX11_inspects_104 ?_
        cases hF
        change lpN n _ _ = some _ at hL
        refine r_lo [2, 0] (lo' := [(0, .ref (wAd w (11, 12, 0, 0))), (1, .int (l1 + 1))]) rfl ?_
        exact ih (l1 + 1) t hL
      · rw [if_pos (b2i_t hc)] at hF
        refine r_aload_n C (k := 1) rfl rfl dX11_inspects_62 ?_
        refine r_iload_n C (k := 0) rfl rfl dX11_inspects_63 ?_
        refine r_aload_n C (k := 1) rfl rfl dX11_inspects_64 ?_
        refine og_11_0 C (hW.ok k11) wm7_67 dX11_inspects_65 ?_
        refine r_iload_n C (k := 0) rfl rfl dX11_inspects_68 ?_
        refine r_bipush C (v := 14) rfl dX11_inspects_69 ?_
        refine r_iadd C dX11_inspects_71 ?_
        obtain ⟨b12, hF⟩ := gd_e hF
        refine m_ald C (hW.ok (k12 (a := 0) (by unfold okMa; decide))) (show (sM Ω t).2.1 = t from rfl) rfl b12 dX11_inspects_72 ?_
        obtain ⟨v13, hv13, hF⟩ := ob1_e hF
        refine r_callV C (d' := 2) [.int (F_X11_progressOf l1), .int (ag t 0 ((F_X11_progressOf l1) + 14))] (c_X11_lostTwig hW (show (sM Ω t).2.1 = t from rfl) N (F_X11_progressOf l1) (ag t 0 ((F_X11_progressOf l1) + 14)) hv13) myX11_lostTwig wm8_125 ⟨_, _, _, _, (hW.ok k11), rfl, rfl, rfl, rfl⟩ rfl (kR rfl) (by decide) (kR rfl) rfl dX11_inspects_73 ?_
        refine r_if_eq C (tgt := 101) rfl dX11_inspects_76 (fun hc => ?_) (fun hc => ?_)
        · rw [if_neg (b2i_f hc)] at hF
          refine r_iinc C (k := 2) (v := (l1 + 1)) (lo' := [(1, .int (l1 + 1)), (2, .int (F_X11_progressOf l1)), (0, .ref (wAd w (11, 12, 0, 0)))]) rfl rfl (by decide) rfl dX11_inspects_101 ?_
          refine r_goto C (tgt := 44) rfl dX11_inspects_104 ?_
          cases hF
          change lpN n _ _ = some _ at hL
          refine r_lo [2, 0] (lo' := [(0, .ref (wAd w (11, 12, 0, 0))), (1, .int (l1 + 1))]) rfl ?_
          exact ih (l1 + 1) t hL
        · rw [if_pos (b2i_t hc)] at hF
          refine r_aload_n C (k := 1) rfl rfl dX11_inspects_79 ?_
          refine r_iload_n C (k := 2) rfl rfl dX11_inspects_80 ?_
          refine r_iload_n C (k := 0) rfl rfl dX11_inspects_81 ?_
          refine r_aload_n C (k := 1) rfl rfl dX11_inspects_82 ?_
          refine og_11_0 C (hW.ok k11) wm7_67 dX11_inspects_83 ?_
          refine r_iload_n C (k := 0) rfl rfl dX11_inspects_86 ?_
          refine r_bipush C (v := 14) rfl dX11_inspects_87 ?_
          refine r_iadd C dX11_inspects_89 ?_
          obtain ⟨b14, hF⟩ := gd_e hF
          refine m_ald C (hW.ok (k12 (a := 0) (by unfold okMa; decide))) (show (sM Ω t).2.1 = t from rfl) rfl b14 dX11_inspects_90 ?_
          obtain ⟨t16, ht16, hF⟩ := ob1_e hF
          refine r_callV C (d' := 3) [.int l1, .int (F_X11_progressOf l1), .int (ag t 0 ((F_X11_progressOf l1) + 14))] (c_X11_fails hW (show (sM Ω t).2.1 = t from rfl) N l1 (F_X11_progressOf l1) (ag t 0 ((F_X11_progressOf l1) + 14)) ht16 rfl) myX11_fails wm8_129 ⟨_, _, _, _, (hW.ok k11), rfl, rfl, rfl, rfl⟩ rfl (kR rfl) (by decide) (kR rfl) rfl dX11_inspects_91 ?_
          refine r_aload_n C (k := 1) rfl rfl dX11_inspects_94 ?_
          refine og_11_0 C (hW.ok k11) wm7_67 dX11_inspects_95 ?_
          refine r_iload_n C (k := 0) rfl rfl dX11_inspects_98 ?_
          refine r_iconst C (v := 0) rfl dX11_inspects_99 ?_
          obtain ⟨b17, hF⟩ := gd_e hF
          obtain ⟨t18, et18, hF⟩ := lt_e hF
          refine m_ast C hW.x (hW.fr (k12 (a := 0) (by unfold okMa; decide))) (show (sM Ω t16).2.1 = t16 from rfl) rfl b17 dX11_inspects_100 (congrArg (sM Ω) et18) ?_
          refine r_iinc C (k := 2) (v := (l1 + 1)) (lo' := [(1, .int (l1 + 1)), (2, .int (F_X11_progressOf l1)), (0, .ref (wAd w (11, 12, 0, 0)))]) rfl rfl (by decide) rfl dX11_inspects_101 ?_
          refine r_goto C (tgt := 44) rfl dX11_inspects_104 ?_
          cases hF
          change lpN n _ _ = some _ at hL
          refine r_lo [2, 0] (lo' := [(0, .ref (wAd w (11, 12, 0, 0))), (1, .int (l1 + 1))]) rfl ?_
          exact ih (l1 + 1) t18 hL
theorem lp_X11_inspects_2 {w : WP} (hW : gWM w) {Ω : OM}    {N : Nat} {X : CX} (C : gC w X cX11_inspects "HedgeMessagesModel" none 5 3) {t' : HV}  : ∀ (n : Nat) (l1 : Int32) (t : HV), lpN n (fun z : Int32 × HV => st_X11_inspects_2 N z.1 z.2) (l1, t) = some t' → gV w X (none, cA w (sM Ω t')) (cA w (sM Ω t)) 2 [(0, .ref (wAd w (11, 12, 0, 0))), (1, .int l1)] [] := by
  intro n
  induction n with
  | zero => intro l1 t hL; exact lpN_0 hL
  | succ n ih =>
    intro l1 t hL
    obtain ⟨q9, hF, hL⟩ := lpN_e hL
    change st_X11_inspects_2 N l1 t = some q9 at hF
    unfold st_X11_inspects_2 at hF
    refine r_iload_n C (k := 1) rfl rfl dX11_inspects_2 ?_
    refine r_aload_n C (k := 0) rfl rfl dX11_inspects_3 ?_
    refine og_11_0 C (hW.ok k11) wm7_67 dX11_inspects_4 ?_
    refine r_iconst C (v := 0) rfl dX11_inspects_7 ?_
    obtain ⟨b1, hF⟩ := gd_e hF
    refine m_ald C (hW.ok (k12 (a := 0) (by unfold okMa; decide))) (show (sM Ω t).2.1 = t from rfl) rfl b1 dX11_inspects_8 ?_
    refine r_icmp_ge C (tgt := 42) rfl dX11_inspects_9 (fun hc => ?_) (fun hc => ?_)
    · rw [if_pos hc] at hF
      refine r_iconst C (v := 0) rfl dX11_inspects_42 ?_
      refine r_istore_n C (lo' := [(1, .int 0), (0, .ref (wAd w (11, 12, 0, 0)))]) rfl (by decide) rfl dX11_inspects_43 ?_
      obtain ⟨q9, h9, hF⟩ := ob1_e hF
      cases hF
      change some _ = some _ at hL
      cases hL
      refine r_lo [1, 0] (lo' := [(0, .ref (wAd w (11, 12, 0, 0))), (1, .int 0)]) rfl ?_
      exact lp_X11_inspects_44 hW C N 0 t h9
    · rw [if_neg hc] at hF
      refine r_aload_n C (k := 0) rfl rfl dX11_inspects_12 ?_
      refine r_iload_n C (k := 1) rfl rfl dX11_inspects_13 ?_
      obtain ⟨v19, hv19, hF⟩ := ob1_e hF
      refine r_callV C (d' := 4) [.int l1] (c_X11_wouldPrune hW (show (sM Ω t).2.1 = t from rfl) l1 hv19) myX11_wouldPrune wm8_121 ⟨_, _, _, _, (hW.ok k11), rfl, rfl, rfl, rfl⟩ rfl (kR rfl) (by decide) (kR rfl) rfl dX11_inspects_14 ?_
      refine r_if_eq C (tgt := 36) rfl dX11_inspects_17 (fun hc => ?_) (fun hc => ?_)
      · rw [if_neg (b2i_f hc)] at hF
        refine r_iinc C (k := 1) (v := (l1 + 1)) (lo' := [(1, .int (l1 + 1)), (0, .ref (wAd w (11, 12, 0, 0)))]) rfl rfl (by decide) rfl dX11_inspects_36 ?_
        refine r_goto C (tgt := 2) rfl dX11_inspects_39 ?_
        cases hF
        change lpN n _ _ = some _ at hL
        refine r_lo [1, 0] (lo' := [(0, .ref (wAd w (11, 12, 0, 0))), (1, .int (l1 + 1))]) rfl ?_
        exact ih (l1 + 1) t hL
      · rw [if_pos (b2i_t hc)] at hF
        refine r_aload_n C (k := 0) rfl rfl dX11_inspects_20 ?_
        refine r_iload_n C (k := 1) rfl rfl dX11_inspects_21 ?_
        obtain ⟨t21, ht21, hF⟩ := ob1_e hF
        refine r_callV C (d' := 1) [.int l1] (c_X11_twigGoes hW (show (sM Ω t).2.1 = t from rfl) N l1 ht21 rfl) myX11_twigGoes wm8_10 ⟨_, _, _, _, (hW.ok k11), rfl, rfl, rfl, rfl⟩ rfl (kR rfl) (by decide) (kR rfl) rfl dX11_inspects_22 ?_
        refine r_aload_n C (k := 0) rfl rfl dX11_inspects_25 ?_
        refine og_11_0 C (hW.ok k11) wm7_67 dX11_inspects_26 ?_
        refine r_bipush C (v := 9) rfl dX11_inspects_29 ?_
        refine r_dup2_11 C rfl rfl dX11_inspects_31 ?_
        obtain ⟨b22, hF⟩ := gd_e hF
        refine m_ald C (hW.ok (k12 (a := 0) (by unfold okMa; decide))) (show (sM Ω t21).2.1 = t21 from rfl) rfl b22 dX11_inspects_32 ?_
        refine r_iconst C (v := 1) rfl dX11_inspects_33 ?_
        refine r_iadd C dX11_inspects_34 ?_
        obtain ⟨b23, hF⟩ := gd_e hF
        obtain ⟨t24, et24, hF⟩ := lt_e hF
        refine m_ast C hW.x (hW.fr (k12 (a := 0) (by unfold okMa; decide))) (show (sM Ω t21).2.1 = t21 from rfl) rfl b23 dX11_inspects_35 (congrArg (sM Ω) et24) ?_
        refine r_iinc C (k := 1) (v := (l1 + 1)) (lo' := [(1, .int (l1 + 1)), (0, .ref (wAd w (11, 12, 0, 0)))]) rfl rfl (by decide) rfl dX11_inspects_36 ?_
        refine r_goto C (tgt := 2) rfl dX11_inspects_39 ?_
        cases hF
        change lpN n _ _ = some _ at hL
        refine r_lo [1, 0] (lo' := [(0, .ref (wAd w (11, 12, 0, 0))), (1, .int (l1 + 1))]) rfl ?_
        exact ih (l1 + 1) t24 hL
theorem c_X11_inspects {w : WP} (hW : gWM w) {Ω : OM}  {t : HV} (e : Ω.2.1 = t) (N : Nat)  {t' : HV} (hF : F_X11_inspects N t = some t') {Ω' : OM} (e2 : (sM Ω t') = Ω') : gM w 5 yX11_inspects cX11_inspects 3 none [.ref (wAd w (11, 12, 0, 0))] (cA w Ω) none (cA w Ω') := by
  refine gM_of "HedgeMessagesModel" rfl (by decide) (kR rfl) fun X C => ?_
  unfold F_X11_inspects at hF
  subst e2
  show gV w X _ _ 0 [(0, .ref (wAd w (11, 12, 0, 0)))] []
  refine r_ct (ct' := cA w (sM Ω t)) (congrArg (cA w) (sM_i e).symm) ?_
  refine r_iconst C (v := 0) rfl dX11_inspects_0 ?_
  refine r_istore_n C (lo' := [(1, .int 0), (0, .ref (wAd w (11, 12, 0, 0)))]) rfl (by decide) rfl dX11_inspects_1 ?_
  refine r_lo [1, 0] (lo' := [(0, .ref (wAd w (11, 12, 0, 0))), (1, .int 0)]) rfl ?_
  exact lp_X11_inspects_2 hW C N 0 t hF
theorem dX11_dayOnce_0 : decode cX11_dayOnce 0 = .ok (.aload_n 0, 1) := by decide +kernel
theorem dX11_dayOnce_1 : decode cX11_dayOnce 1 = .ok (.invokevirtual 173, 3) := by decide +kernel
theorem dX11_dayOnce_4 : decode cX11_dayOnce 4 = .ok (.istore_n 1, 1) := by decide +kernel
theorem dX11_dayOnce_5 : decode cX11_dayOnce 5 = .ok (.aload_n 0, 1) := by decide +kernel
theorem dX11_dayOnce_6 : decode cX11_dayOnce 6 = .ok (.iconst 1, 1) := by decide +kernel
theorem dX11_dayOnce_7 : decode cX11_dayOnce 7 = .ok (.iload_n 1, 1) := by decide +kernel
theorem dX11_dayOnce_8 : decode cX11_dayOnce 8 = .ok (.isub, 1) := by decide +kernel
theorem dX11_dayOnce_9 : decode cX11_dayOnce 9 = .ok (.invokevirtual 176, 3) := by decide +kernel
theorem dX11_dayOnce_12 : decode cX11_dayOnce 12 = .ok (.aload_n 0, 1) := by decide +kernel
theorem dX11_dayOnce_13 : decode cX11_dayOnce 13 = .ok (.iload_n 1, 1) := by decide +kernel
theorem dX11_dayOnce_14 : decode cX11_dayOnce 14 = .ok (.invokevirtual 179, 3) := by decide +kernel
theorem dX11_dayOnce_17 : decode cX11_dayOnce 17 = .ok (.aload_n 0, 1) := by decide +kernel
theorem dX11_dayOnce_18 : decode cX11_dayOnce 18 = .ok (.invokevirtual 182, 3) := by decide +kernel
theorem dX11_dayOnce_21 : decode cX11_dayOnce 21 = .ok (.aload_n 0, 1) := by decide +kernel
theorem dX11_dayOnce_22 : decode cX11_dayOnce 22 = .ok (.getfield 7, 3) := by decide +kernel
theorem dX11_dayOnce_25 : decode cX11_dayOnce 25 = .ok (.bipush 6, 2) := by decide +kernel
theorem dX11_dayOnce_27 : decode cX11_dayOnce 27 = .ok (.dup2, 1) := by decide +kernel
theorem dX11_dayOnce_28 : decode cX11_dayOnce 28 = .ok (.iaload, 1) := by decide +kernel
theorem dX11_dayOnce_29 : decode cX11_dayOnce 29 = .ok (.iconst 1, 1) := by decide +kernel
theorem dX11_dayOnce_30 : decode cX11_dayOnce 30 = .ok (.iadd, 1) := by decide +kernel
theorem dX11_dayOnce_31 : decode cX11_dayOnce 31 = .ok (.iastore, 1) := by decide +kernel
theorem dX11_dayOnce_32 : decode cX11_dayOnce 32 = .ok (.aload_n 0, 1) := by decide +kernel
theorem dX11_dayOnce_33 : decode cX11_dayOnce 33 = .ok (.getfield 7, 3) := by decide +kernel
theorem dX11_dayOnce_36 : decode cX11_dayOnce 36 = .ok (.bipush 7, 2) := by decide +kernel
theorem dX11_dayOnce_38 : decode cX11_dayOnce 38 = .ok (.aload_n 0, 1) := by decide +kernel
theorem dX11_dayOnce_39 : decode cX11_dayOnce 39 = .ok (.getfield 7, 3) := by decide +kernel
theorem dX11_dayOnce_42 : decode cX11_dayOnce 42 = .ok (.iconst 1, 1) := by decide +kernel
theorem dX11_dayOnce_43 : decode cX11_dayOnce 43 = .ok (.iaload, 1) := by decide +kernel
theorem dX11_dayOnce_44 : decode cX11_dayOnce 44 = .ok (.iastore, 1) := by decide +kernel
theorem dX11_dayOnce_45 : decode cX11_dayOnce 45 = .ok (.aload_n 0, 1) := by decide +kernel
theorem dX11_dayOnce_46 : decode cX11_dayOnce 46 = .ok (.getfield 7, 3) := by decide +kernel
theorem dX11_dayOnce_49 : decode cX11_dayOnce 49 = .ok (.bipush 6, 2) := by decide +kernel
theorem dX11_dayOnce_51 : decode cX11_dayOnce 51 = .ok (.iaload, 1) := by decide +kernel
theorem dX11_dayOnce_52 : decode cX11_dayOnce 52 = .ok (.aload_n 0, 1) := by decide +kernel
theorem dX11_dayOnce_53 : decode cX11_dayOnce 53 = .ok (.getfield 7, 3) := by decide +kernel
theorem dX11_dayOnce_56 : decode cX11_dayOnce 56 = .ok (.iconst 4, 1) := by decide +kernel
theorem dX11_dayOnce_57 : decode cX11_dayOnce 57 = .ok (.iaload, 1) := by decide +kernel
theorem dX11_dayOnce_58 : decode cX11_dayOnce 58 = .ok (.irem, 1) := by decide +kernel
theorem dX11_dayOnce_59 : decode cX11_dayOnce 59 = .ok (.ifCond .ne 7, 3) := by decide +kernel
theorem dX11_dayOnce_62 : decode cX11_dayOnce 62 = .ok (.aload_n 0, 1) := by decide +kernel
theorem dX11_dayOnce_63 : decode cX11_dayOnce 63 = .ok (.invokevirtual 185, 3) := by decide +kernel
theorem dX11_dayOnce_66 : decode cX11_dayOnce 66 = .ok (.return_, 1) := by decide +kernel
def F_X11_dayOnce (N : Nat) (t : HV) : Option (HV) := (ob1 (F_X11_activeNow t) fun v1 => (ob1 (F_X11_delivers N (1 - v1) t) fun t3 => (ob1 (F_X11_writesAll N v1 t3) fun t5 => (ob1 (F_X11_growsAll N t5) fun t7 => (if vpb 6 760 = true then (if vpb 6 760 = true then (lt (aw t7 0 6 ((ag t7 0 6) + 1)) fun t10 => (if vpb 1 760 = true then (if vpb 7 760 = true then (lt (aw t10 0 7 (ag t10 0 1)) fun t13 => (if vpb 6 760 = true then (if vpb 4 760 = true then (if (ag t13 0 4) = 0 then none else (if ((ag t13 0 6) - (ag t13 0 6) / (ag t13 0 4) * (ag t13 0 4)) = 0 then (ob1 (F_X11_inspects N t13) fun t18 => some t18) else some t13)) else none) else none)) else none) else none)) else none) else none)))))
theorem c_X11_dayOnce {w : WP} (hW : gWM w) {Ω : OM}  {t : HV} (e : Ω.2.1 = t) (N : Nat)  {t' : HV} (hF : F_X11_dayOnce N t = some t') {Ω' : OM} (e2 : (sM Ω t') = Ω') : gM w 9 yX11_dayOnce cX11_dayOnce 2 none [.ref (wAd w (11, 12, 0, 0))] (cA w Ω) none (cA w Ω') := by
  refine gM_of "HedgeMessagesModel" rfl (by decide) (kR rfl) fun X C => ?_
  unfold F_X11_dayOnce at hF
  subst e2
  show gV w X _ _ 0 [(0, .ref (wAd w (11, 12, 0, 0)))] []
  refine r_ct (ct' := cA w (sM Ω t)) (congrArg (cA w) (sM_i e).symm) ?_
  refine r_aload_n C (k := 0) rfl rfl dX11_dayOnce_0 ?_
  obtain ⟨v1, hv1, hF⟩ := ob1_e hF
  refine r_callV C (d' := 0) [] (c_X11_activeNow hW (show (sM Ω t).2.1 = t from rfl) hv1) myX11_activeNow wm7_226 ⟨_, _, _, _, (hW.ok k11), rfl, rfl, rfl, rfl⟩ rfl (kR rfl) (by decide) (kR rfl) rfl dX11_dayOnce_1 ?_
  refine r_istore_n C (lo' := [(1, .int v1), (0, .ref (wAd w (11, 12, 0, 0)))]) rfl (by decide) rfl dX11_dayOnce_4 ?_
  refine r_aload_n C (k := 1) rfl rfl dX11_dayOnce_5 ?_
  refine r_iconst C (v := 1) rfl dX11_dayOnce_6 ?_
  refine r_iload_n C (k := 0) rfl rfl dX11_dayOnce_7 ?_
  refine r_isub C dX11_dayOnce_8 ?_
  obtain ⟨t3, ht3, hF⟩ := ob1_e hF
  refine r_callV C (d' := 3) [.int (1 - v1)] (c_X11_delivers hW (show (sM Ω t).2.1 = t from rfl) N (1 - v1) ht3 rfl) myX11_delivers wm8_61 ⟨_, _, _, _, (hW.ok k11), rfl, rfl, rfl, rfl⟩ rfl (kR rfl) (by decide) (kR rfl) rfl dX11_dayOnce_9 ?_
  refine r_aload_n C (k := 1) rfl rfl dX11_dayOnce_12 ?_
  refine r_iload_n C (k := 0) rfl rfl dX11_dayOnce_13 ?_
  obtain ⟨t5, ht5, hF⟩ := ob1_e hF
  refine r_callV C (d' := 8) [.int v1] (c_X11_writesAll hW (show (sM Ω t3).2.1 = t3 from rfl) N v1 ht5 rfl) myX11_writesAll wm8_73 ⟨_, _, _, _, (hW.ok k11), rfl, rfl, rfl, rfl⟩ rfl (kR rfl) (by decide) (kR rfl) rfl dX11_dayOnce_14 ?_
  refine r_aload_n C (k := 1) rfl rfl dX11_dayOnce_17 ?_
  obtain ⟨t7, ht7, hF⟩ := ob1_e hF
  refine r_callV C (d' := 2) [] (c_X11_growsAll hW (show (sM Ω t5).2.1 = t5 from rfl) N ht7 rfl) myX11_growsAll wm8_113 ⟨_, _, _, _, (hW.ok k11), rfl, rfl, rfl, rfl⟩ rfl (kR rfl) (by decide) (kR rfl) rfl dX11_dayOnce_18 ?_
  refine r_aload_n C (k := 1) rfl rfl dX11_dayOnce_21 ?_
  refine og_11_0 C (hW.ok k11) wm7_67 dX11_dayOnce_22 ?_
  refine r_bipush C (v := 6) rfl dX11_dayOnce_25 ?_
  refine r_dup2_11 C rfl rfl dX11_dayOnce_27 ?_
  obtain ⟨b8, hF⟩ := gd_e hF
  refine m_ald C (hW.ok (k12 (a := 0) (by unfold okMa; decide))) (show (sM Ω t7).2.1 = t7 from rfl) rfl b8 dX11_dayOnce_28 ?_
  refine r_iconst C (v := 1) rfl dX11_dayOnce_29 ?_
  refine r_iadd C dX11_dayOnce_30 ?_
  obtain ⟨b9, hF⟩ := gd_e hF
  obtain ⟨t10, et10, hF⟩ := lt_e hF
  refine m_ast C hW.x (hW.fr (k12 (a := 0) (by unfold okMa; decide))) (show (sM Ω t7).2.1 = t7 from rfl) rfl b9 dX11_dayOnce_31 (congrArg (sM Ω) et10) ?_
  refine r_aload_n C (k := 1) rfl rfl dX11_dayOnce_32 ?_
  refine og_11_0 C (hW.ok k11) wm7_67 dX11_dayOnce_33 ?_
  refine r_bipush C (v := 7) rfl dX11_dayOnce_36 ?_
  refine r_aload_n C (k := 1) rfl rfl dX11_dayOnce_38 ?_
  refine og_11_0 C (hW.ok k11) wm7_67 dX11_dayOnce_39 ?_
  refine r_iconst C (v := 1) rfl dX11_dayOnce_42 ?_
  obtain ⟨b11, hF⟩ := gd_e hF
  refine m_ald C (hW.ok (k12 (a := 0) (by unfold okMa; decide))) (show (sM Ω t10).2.1 = t10 from rfl) rfl b11 dX11_dayOnce_43 ?_
  obtain ⟨b12, hF⟩ := gd_e hF
  obtain ⟨t13, et13, hF⟩ := lt_e hF
  refine m_ast C hW.x (hW.fr (k12 (a := 0) (by unfold okMa; decide))) (show (sM Ω t10).2.1 = t10 from rfl) rfl b12 dX11_dayOnce_44 (congrArg (sM Ω) et13) ?_
  refine r_aload_n C (k := 1) rfl rfl dX11_dayOnce_45 ?_
  refine og_11_0 C (hW.ok k11) wm7_67 dX11_dayOnce_46 ?_
  refine r_bipush C (v := 6) rfl dX11_dayOnce_49 ?_
  obtain ⟨b14, hF⟩ := gd_e hF
  refine m_ald C (hW.ok (k12 (a := 0) (by unfold okMa; decide))) (show (sM Ω t13).2.1 = t13 from rfl) rfl b14 dX11_dayOnce_51 ?_
  refine r_aload_n C (k := 1) rfl rfl dX11_dayOnce_52 ?_
  refine og_11_0 C (hW.ok k11) wm7_67 dX11_dayOnce_53 ?_
  refine r_iconst C (v := 4) rfl dX11_dayOnce_56 ?_
  obtain ⟨b15, hF⟩ := gd_e hF
  refine m_ald C (hW.ok (k12 (a := 0) (by unfold okMa; decide))) (show (sM Ω t13).2.1 = t13 from rfl) rfl b15 dX11_dayOnce_57 ?_
  obtain ⟨z16, hF⟩ := dz_e hF
  refine r_irem C z16 dX11_dayOnce_58 ?_
  refine r_if_ne C (tgt := 66) rfl dX11_dayOnce_59 (fun hc => ?_) (fun hc => ?_)
  · rw [if_neg hc] at hF
    cases hF
    exact r_return C dX11_dayOnce_66
  · rw [if_pos hc] at hF
    refine r_aload_n C (k := 1) rfl rfl dX11_dayOnce_62 ?_
    obtain ⟨t18, ht18, hF⟩ := ob1_e hF
    refine r_callV C (d' := 5) [] (c_X11_inspects hW (show (sM Ω t13).2.1 = t13 from rfl) N ht18 rfl) myX11_inspects wm8_117 ⟨_, _, _, _, (hW.ok k11), rfl, rfl, rfl, rfl⟩ rfl (kR rfl) (by decide) (kR rfl) rfl dX11_dayOnce_63 ?_
    cases hF
    exact r_return C dX11_dayOnce_66
theorem dX11_goBy_0 : decode cX11_goBy 0 = .ok (.iconst 0, 1) := by decide +kernel
theorem dX11_goBy_1 : decode cX11_goBy 1 = .ok (.istore_n 2, 1) := by decide +kernel
theorem dX11_goBy_2 : decode cX11_goBy 2 = .ok (.iload_n 2, 1) := by decide +kernel
theorem dX11_goBy_3 : decode cX11_goBy 3 = .ok (.iload_n 1, 1) := by decide +kernel
theorem dX11_goBy_4 : decode cX11_goBy 4 = .ok (.if_icmp .ge 13, 3) := by decide +kernel
theorem dX11_goBy_7 : decode cX11_goBy 7 = .ok (.aload_n 0, 1) := by decide +kernel
theorem dX11_goBy_8 : decode cX11_goBy 8 = .ok (.invokevirtual 188, 3) := by decide +kernel
theorem dX11_goBy_11 : decode cX11_goBy 11 = .ok (.iinc 2 1, 3) := by decide +kernel
theorem dX11_goBy_14 : decode cX11_goBy 14 = .ok (.goto (-12), 3) := by decide +kernel
theorem dX11_goBy_17 : decode cX11_goBy 17 = .ok (.return_, 1) := by decide +kernel
def st_X11_goBy_2 (N : Nat) (l1 : Int32) (l2 : Int32) (t : HV) : Option ((Int32 × HV) ⊕ (HV)) := (if l1 ≤ l2 then some (.inr t) else (ob1 (F_X11_dayOnce N t) fun t2 => some (.inl ((l2 + 1), t2))))
def F_X11_goBy (N : Nat) (a1 : Int32) (t : HV) : Option (HV) := (lpN N (fun z => st_X11_goBy_2 N a1 z.1 z.2) (0, t))
theorem lp_X11_goBy_2 {w : WP} (hW : gWM w) {Ω : OM}   (l1 : Int32) {N : Nat} {X : CX} (C : gC w X cX11_goBy "HedgeMessagesModel" none 10 3) {t' : HV}  : ∀ (n : Nat) (l2 : Int32) (t : HV), lpN n (fun z : Int32 × HV => st_X11_goBy_2 N l1 z.1 z.2) (l2, t) = some t' → gV w X (none, cA w (sM Ω t')) (cA w (sM Ω t)) 2 [(0, .ref (wAd w (11, 12, 0, 0))), (1, .int l1), (2, .int l2)] [] := by
  intro n
  induction n with
  | zero => intro l2 t hL; exact lpN_0 hL
  | succ n ih =>
    intro l2 t hL
    obtain ⟨q9, hF, hL⟩ := lpN_e hL
    change st_X11_goBy_2 N l1 l2 t = some q9 at hF
    unfold st_X11_goBy_2 at hF
    refine r_iload_n C (k := 2) rfl rfl dX11_goBy_2 ?_
    refine r_iload_n C (k := 1) rfl rfl dX11_goBy_3 ?_
    refine r_icmp_ge C (tgt := 17) rfl dX11_goBy_4 (fun hc => ?_) (fun hc => ?_)
    · rw [if_pos hc] at hF
      cases hF
      change some _ = some _ at hL
      cases hL
      exact r_return C dX11_goBy_17
    · rw [if_neg hc] at hF
      refine r_aload_n C (k := 0) rfl rfl dX11_goBy_7 ?_
      obtain ⟨t2, ht2, hF⟩ := ob1_e hF
      refine r_callV C (d' := 9) [] (c_X11_dayOnce hW (show (sM Ω t).2.1 = t from rfl) N ht2 rfl) myX11_dayOnce wm8_57 ⟨_, _, _, _, (hW.ok k11), rfl, rfl, rfl, rfl⟩ rfl (kR rfl) (by decide) (kR rfl) rfl dX11_goBy_8 ?_
      refine r_iinc C (k := 2) (v := (l2 + 1)) (lo' := [(2, .int (l2 + 1)), (0, .ref (wAd w (11, 12, 0, 0))), (1, .int l1)]) rfl rfl (by decide) rfl dX11_goBy_11 ?_
      refine r_goto C (tgt := 2) rfl dX11_goBy_14 ?_
      cases hF
      change lpN n _ _ = some _ at hL
      refine r_lo [1, 2, 0] (lo' := [(0, .ref (wAd w (11, 12, 0, 0))), (1, .int l1), (2, .int (l2 + 1))]) rfl ?_
      exact ih (l2 + 1) t2 hL
theorem c_X11_goBy {w : WP} (hW : gWM w) {Ω : OM}  {t : HV} (e : Ω.2.1 = t) (N : Nat) (a1 : Int32) {t' : HV} (hF : F_X11_goBy N a1 t = some t') {Ω' : OM} (e2 : (sM Ω t') = Ω') : gM w 10 yX11_goBy cX11_goBy 3 none [.ref (wAd w (11, 12, 0, 0)), .int a1] (cA w Ω) none (cA w Ω') := by
  refine gM_of "HedgeMessagesModel" rfl (by decide) (kR rfl) fun X C => ?_
  unfold F_X11_goBy at hF
  subst e2
  show gV w X _ _ 0 [(0, .ref (wAd w (11, 12, 0, 0))), (1, .int a1)] []
  refine r_ct (ct' := cA w (sM Ω t)) (congrArg (cA w) (sM_i e).symm) ?_
  refine r_iconst C (v := 0) rfl dX11_goBy_0 ?_
  refine r_istore_n C (lo' := [(2, .int 0), (0, .ref (wAd w (11, 12, 0, 0))), (1, .int a1)]) rfl (by decide) rfl dX11_goBy_1 ?_
  refine r_lo [1, 2, 0] (lo' := [(0, .ref (wAd w (11, 12, 0, 0))), (1, .int a1), (2, .int 0)]) rfl ?_
  exact lp_X11_goBy_2 hW a1 C N 0 t hF
theorem dX11_whyNotPlant_0 : decode cX11_whyNotPlant 0 = .ok (.aload_n 0, 1) := by decide +kernel
theorem dX11_whyNotPlant_1 : decode cX11_whyNotPlant 1 = .ok (.getfield 7, 3) := by decide +kernel
theorem dX11_whyNotPlant_4 : decode cX11_whyNotPlant 4 = .ok (.bipush 7, 2) := by decide +kernel
theorem dX11_whyNotPlant_6 : decode cX11_whyNotPlant 6 = .ok (.iaload, 1) := by decide +kernel
theorem dX11_whyNotPlant_7 : decode cX11_whyNotPlant 7 = .ok (.ifCond .ne 5, 3) := by decide +kernel
theorem dX11_whyNotPlant_10 : decode cX11_whyNotPlant 10 = .ok (.iconst 1, 1) := by decide +kernel
theorem dX11_whyNotPlant_11 : decode cX11_whyNotPlant 11 = .ok (.ireturn, 1) := by decide +kernel
theorem dX11_whyNotPlant_12 : decode cX11_whyNotPlant 12 = .ok (.aload_n 0, 1) := by decide +kernel
theorem dX11_whyNotPlant_13 : decode cX11_whyNotPlant 13 = .ok (.iload_n 1, 1) := by decide +kernel
theorem dX11_whyNotPlant_14 : decode cX11_whyNotPlant 14 = .ok (.invokevirtual 84, 3) := by decide +kernel
theorem dX11_whyNotPlant_17 : decode cX11_whyNotPlant 17 = .ok (.ifCond .eq 5, 3) := by decide +kernel
theorem dX11_whyNotPlant_20 : decode cX11_whyNotPlant 20 = .ok (.iconst 2, 1) := by decide +kernel
theorem dX11_whyNotPlant_21 : decode cX11_whyNotPlant 21 = .ok (.ireturn, 1) := by decide +kernel
theorem dX11_whyNotPlant_22 : decode cX11_whyNotPlant 22 = .ok (.aload_n 0, 1) := by decide +kernel
theorem dX11_whyNotPlant_23 : decode cX11_whyNotPlant 23 = .ok (.iload_n 1, 1) := by decide +kernel
theorem dX11_whyNotPlant_24 : decode cX11_whyNotPlant 24 = .ok (.invokevirtual 102, 3) := by decide +kernel
theorem dX11_whyNotPlant_27 : decode cX11_whyNotPlant 27 = .ok (.ifCond .eq 5, 3) := by decide +kernel
theorem dX11_whyNotPlant_30 : decode cX11_whyNotPlant 30 = .ok (.iconst 3, 1) := by decide +kernel
theorem dX11_whyNotPlant_31 : decode cX11_whyNotPlant 31 = .ok (.ireturn, 1) := by decide +kernel
theorem dX11_whyNotPlant_32 : decode cX11_whyNotPlant 32 = .ok (.aload_n 0, 1) := by decide +kernel
theorem dX11_whyNotPlant_33 : decode cX11_whyNotPlant 33 = .ok (.iload_n 1, 1) := by decide +kernel
theorem dX11_whyNotPlant_34 : decode cX11_whyNotPlant 34 = .ok (.invokevirtual 77, 3) := by decide +kernel
theorem dX11_whyNotPlant_37 : decode cX11_whyNotPlant 37 = .ok (.ifCond .eq 7, 3) := by decide +kernel
theorem dX11_whyNotPlant_40 : decode cX11_whyNotPlant 40 = .ok (.iconst 4, 1) := by decide +kernel
theorem dX11_whyNotPlant_41 : decode cX11_whyNotPlant 41 = .ok (.goto 4, 3) := by decide +kernel
theorem dX11_whyNotPlant_44 : decode cX11_whyNotPlant 44 = .ok (.iconst 0, 1) := by decide +kernel
theorem dX11_whyNotPlant_45 : decode cX11_whyNotPlant 45 = .ok (.ireturn, 1) := by decide +kernel
def F_X11_whyNotPlant (N : Nat) (a1 : Int32) (t : HV) : Option (Int32) := (if vpb 7 760 = true then (if (ag t 0 7) = 0 then some 1 else (ob1 (F_X11_hasTwig a1 t) fun v2 => (if v2 = true then some 2 else (ob1 (F_X11_isReservedAt N a1 t) fun v3 => (if v3 = true then some 3 else (ob1 (F_X11_hasNest a1 t) fun v4 => (if v4 = true then some 4 else some 0))))))) else none)
theorem c_X11_whyNotPlant {w : WP} (hW : gWM w) {Ω : OM}  {t : HV} (e : Ω.2.1 = t) (N : Nat) (a1 : Int32) {v : Int32} (hF : F_X11_whyNotPlant N a1 t = some v) : gM w 3 yX11_whyNotPlant cX11_whyNotPlant 2 (some .int) [.ref (wAd w (11, 12, 0, 0)), .int a1] (cA w Ω) (some (.int v)) (cA w Ω) := by
  refine gM_of "HedgeMessagesModel" rfl (by decide) (kR rfl) fun X C => ?_
  unfold F_X11_whyNotPlant at hF
  show gV w X _ _ 0 [(0, .ref (wAd w (11, 12, 0, 0))), (1, .int a1)] []
  refine r_aload_n C (k := 0) rfl rfl dX11_whyNotPlant_0 ?_
  refine og_11_0 C (hW.ok k11) wm7_67 dX11_whyNotPlant_1 ?_
  refine r_bipush C (v := 7) rfl dX11_whyNotPlant_4 ?_
  obtain ⟨b1, hF⟩ := gd_e hF
  refine m_ald C (hW.ok (k12 (a := 0) (by unfold okMa; decide))) e rfl b1 dX11_whyNotPlant_6 ?_
  refine r_if_ne C (tgt := 12) rfl dX11_whyNotPlant_7 (fun hc => ?_) (fun hc => ?_)
  · rw [if_neg hc] at hF
    refine r_aload_n C (k := 0) rfl rfl dX11_whyNotPlant_12 ?_
    refine r_iload_n C (k := 1) rfl rfl dX11_whyNotPlant_13 ?_
    obtain ⟨v2, hv2, hF⟩ := ob1_e hF
    refine r_callV C (d' := 1) [.int a1] (c_X11_hasTwig hW e a1 hv2) myX11_hasTwig wm6_238 ⟨_, _, _, _, (hW.ok k11), rfl, rfl, rfl, rfl⟩ rfl (kR rfl) (by decide) (kR rfl) rfl dX11_whyNotPlant_14 ?_
    refine r_if_eq C (tgt := 22) rfl dX11_whyNotPlant_17 (fun hc => ?_) (fun hc => ?_)
    · rw [if_neg (b2i_f hc)] at hF
      refine r_aload_n C (k := 0) rfl rfl dX11_whyNotPlant_22 ?_
      refine r_iload_n C (k := 1) rfl rfl dX11_whyNotPlant_23 ?_
      obtain ⟨v3, hv3, hF⟩ := ob1_e hF
      refine r_callV C (d' := 2) [.int a1] (c_X11_isReservedAt hW e N a1 hv3) myX11_isReservedAt wm7_212 ⟨_, _, _, _, (hW.ok k11), rfl, rfl, rfl, rfl⟩ rfl (kR rfl) (by decide) (kR rfl) rfl dX11_whyNotPlant_24 ?_
      refine r_if_eq C (tgt := 32) rfl dX11_whyNotPlant_27 (fun hc => ?_) (fun hc => ?_)
      · rw [if_neg (b2i_f hc)] at hF
        refine r_aload_n C (k := 0) rfl rfl dX11_whyNotPlant_32 ?_
        refine r_iload_n C (k := 1) rfl rfl dX11_whyNotPlant_33 ?_
        obtain ⟨v4, hv4, hF⟩ := ob1_e hF
        refine r_callV C (d' := 2) [.int a1] (c_X11_hasNest hW e a1 hv4) myX11_hasNest wm7_23 ⟨_, _, _, _, (hW.ok k11), rfl, rfl, rfl, rfl⟩ rfl (kR rfl) (by decide) (kR rfl) rfl dX11_whyNotPlant_34 ?_
        refine r_if_eq C (tgt := 44) rfl dX11_whyNotPlant_37 (fun hc => ?_) (fun hc => ?_)
        · rw [if_neg (b2i_f hc)] at hF
          refine r_iconst C (v := 0) rfl dX11_whyNotPlant_44 ?_
          cases hF
          exact r_ireturn C dX11_whyNotPlant_45
        · rw [if_pos (b2i_t hc)] at hF
          refine r_iconst C (v := 4) rfl dX11_whyNotPlant_40 ?_
          refine r_goto C (tgt := 45) rfl dX11_whyNotPlant_41 ?_
          cases hF
          exact r_ireturn C dX11_whyNotPlant_45
      · rw [if_pos (b2i_t hc)] at hF
        refine r_iconst C (v := 3) rfl dX11_whyNotPlant_30 ?_
        cases hF
        exact r_ireturn C dX11_whyNotPlant_31
    · rw [if_pos (b2i_t hc)] at hF
      refine r_iconst C (v := 2) rfl dX11_whyNotPlant_20 ?_
      cases hF
      exact r_ireturn C dX11_whyNotPlant_21
  · rw [if_pos hc] at hF
    refine r_iconst C (v := 1) rfl dX11_whyNotPlant_10 ?_
    cases hF
    exact r_ireturn C dX11_whyNotPlant_11
theorem dX11_whyNotTouch_0 : decode cX11_whyNotTouch 0 = .ok (.aload_n 0, 1) := by decide +kernel
theorem dX11_whyNotTouch_1 : decode cX11_whyNotTouch 1 = .ok (.getfield 7, 3) := by decide +kernel
theorem dX11_whyNotTouch_4 : decode cX11_whyNotTouch 4 = .ok (.bipush 7, 2) := by decide +kernel
theorem dX11_whyNotTouch_6 : decode cX11_whyNotTouch 6 = .ok (.iaload, 1) := by decide +kernel
theorem dX11_whyNotTouch_7 : decode cX11_whyNotTouch 7 = .ok (.ifCond .ne 5, 3) := by decide +kernel
theorem dX11_whyNotTouch_10 : decode cX11_whyNotTouch 10 = .ok (.iconst 1, 1) := by decide +kernel
theorem dX11_whyNotTouch_11 : decode cX11_whyNotTouch 11 = .ok (.ireturn, 1) := by decide +kernel
theorem dX11_whyNotTouch_12 : decode cX11_whyNotTouch 12 = .ok (.aload_n 0, 1) := by decide +kernel
theorem dX11_whyNotTouch_13 : decode cX11_whyNotTouch 13 = .ok (.iload_n 1, 1) := by decide +kernel
theorem dX11_whyNotTouch_14 : decode cX11_whyNotTouch 14 = .ok (.invokevirtual 84, 3) := by decide +kernel
theorem dX11_whyNotTouch_17 : decode cX11_whyNotTouch 17 = .ok (.ifCond .ne 5, 3) := by decide +kernel
theorem dX11_whyNotTouch_20 : decode cX11_whyNotTouch 20 = .ok (.iconst 5, 1) := by decide +kernel
theorem dX11_whyNotTouch_21 : decode cX11_whyNotTouch 21 = .ok (.ireturn, 1) := by decide +kernel
theorem dX11_whyNotTouch_22 : decode cX11_whyNotTouch 22 = .ok (.aload_n 0, 1) := by decide +kernel
theorem dX11_whyNotTouch_23 : decode cX11_whyNotTouch 23 = .ok (.iload_n 1, 1) := by decide +kernel
theorem dX11_whyNotTouch_24 : decode cX11_whyNotTouch 24 = .ok (.iconst 1, 1) := by decide +kernel
theorem dX11_whyNotTouch_25 : decode cX11_whyNotTouch 25 = .ok (.invokevirtual 69, 3) := by decide +kernel
theorem dX11_whyNotTouch_28 : decode cX11_whyNotTouch 28 = .ok (.aload_n 0, 1) := by decide +kernel
theorem dX11_whyNotTouch_29 : decode cX11_whyNotTouch 29 = .ok (.invokevirtual 173, 3) := by decide +kernel
theorem dX11_whyNotTouch_32 : decode cX11_whyNotTouch 32 = .ok (.if_icmp .eq 8, 3) := by decide +kernel
theorem dX11_whyNotTouch_35 : decode cX11_whyNotTouch 35 = .ok (.bipush 6, 2) := by decide +kernel
theorem dX11_whyNotTouch_37 : decode cX11_whyNotTouch 37 = .ok (.goto 4, 3) := by decide +kernel
theorem dX11_whyNotTouch_40 : decode cX11_whyNotTouch 40 = .ok (.iconst 0, 1) := by decide +kernel
theorem dX11_whyNotTouch_41 : decode cX11_whyNotTouch 41 = .ok (.ireturn, 1) := by decide +kernel
def F_X11_whyNotTouch (a1 : Int32) (t : HV) : Option (Int32) := (if vpb 7 760 = true then (if (ag t 0 7) = 0 then some 1 else (ob1 (F_X11_hasTwig a1 t) fun v2 => (if v2 = true then (ob1 (F_X11_of a1 1 t) fun v3 => (ob1 (F_X11_activeNow t) fun v4 => (if v3 = v4 then some 0 else some 6))) else some 5))) else none)
theorem c_X11_whyNotTouch {w : WP} (hW : gWM w) {Ω : OM}  {t : HV} (e : Ω.2.1 = t) (a1 : Int32) {v : Int32} (hF : F_X11_whyNotTouch a1 t = some v) : gM w 2 yX11_whyNotTouch cX11_whyNotTouch 2 (some .int) [.ref (wAd w (11, 12, 0, 0)), .int a1] (cA w Ω) (some (.int v)) (cA w Ω) := by
  refine gM_of "HedgeMessagesModel" rfl (by decide) (kR rfl) fun X C => ?_
  unfold F_X11_whyNotTouch at hF
  show gV w X _ _ 0 [(0, .ref (wAd w (11, 12, 0, 0))), (1, .int a1)] []
  refine r_aload_n C (k := 0) rfl rfl dX11_whyNotTouch_0 ?_
  refine og_11_0 C (hW.ok k11) wm7_67 dX11_whyNotTouch_1 ?_
  refine r_bipush C (v := 7) rfl dX11_whyNotTouch_4 ?_
  obtain ⟨b1, hF⟩ := gd_e hF
  refine m_ald C (hW.ok (k12 (a := 0) (by unfold okMa; decide))) e rfl b1 dX11_whyNotTouch_6 ?_
  refine r_if_ne C (tgt := 12) rfl dX11_whyNotTouch_7 (fun hc => ?_) (fun hc => ?_)
  · rw [if_neg hc] at hF
    refine r_aload_n C (k := 0) rfl rfl dX11_whyNotTouch_12 ?_
    refine r_iload_n C (k := 1) rfl rfl dX11_whyNotTouch_13 ?_
    obtain ⟨v2, hv2, hF⟩ := ob1_e hF
    refine r_callV C (d' := 1) [.int a1] (c_X11_hasTwig hW e a1 hv2) myX11_hasTwig wm6_238 ⟨_, _, _, _, (hW.ok k11), rfl, rfl, rfl, rfl⟩ rfl (kR rfl) (by decide) (kR rfl) rfl dX11_whyNotTouch_14 ?_
    refine r_if_ne C (tgt := 22) rfl dX11_whyNotTouch_17 (fun hc => ?_) (fun hc => ?_)
    · rw [if_pos (b2i_t hc)] at hF
      refine r_aload_n C (k := 0) rfl rfl dX11_whyNotTouch_22 ?_
      refine r_iload_n C (k := 1) rfl rfl dX11_whyNotTouch_23 ?_
      refine r_iconst C (v := 1) rfl dX11_whyNotTouch_24 ?_
      obtain ⟨v3, hv3, hF⟩ := ob1_e hF
      refine r_callV C (d' := 0) [.int a1, .int 1] (c_X11_of hW e a1 1 hv3) myX11_of wm7_2 ⟨_, _, _, _, (hW.ok k11), rfl, rfl, rfl, rfl⟩ rfl (kR rfl) (by decide) (kR rfl) rfl dX11_whyNotTouch_25 ?_
      refine r_aload_n C (k := 0) rfl rfl dX11_whyNotTouch_28 ?_
      obtain ⟨v4, hv4, hF⟩ := ob1_e hF
      refine r_callV C (d' := 0) [] (c_X11_activeNow hW e hv4) myX11_activeNow wm7_226 ⟨_, _, _, _, (hW.ok k11), rfl, rfl, rfl, rfl⟩ rfl (kR rfl) (by decide) (kR rfl) rfl dX11_whyNotTouch_29 ?_
      refine r_icmp_eq C (tgt := 40) rfl dX11_whyNotTouch_32 (fun hc => ?_) (fun hc => ?_)
      · rw [if_pos hc] at hF
        refine r_iconst C (v := 0) rfl dX11_whyNotTouch_40 ?_
        cases hF
        exact r_ireturn C dX11_whyNotTouch_41
      · rw [if_neg hc] at hF
        refine r_bipush C (v := 6) rfl dX11_whyNotTouch_35 ?_
        refine r_goto C (tgt := 41) rfl dX11_whyNotTouch_37 ?_
        cases hF
        exact r_ireturn C dX11_whyNotTouch_41
    · rw [if_neg (b2i_f hc)] at hF
      refine r_iconst C (v := 5) rfl dX11_whyNotTouch_20 ?_
      cases hF
      exact r_ireturn C dX11_whyNotTouch_21
  · rw [if_pos hc] at hF
    refine r_iconst C (v := 1) rfl dX11_whyNotTouch_10 ?_
    cases hF
    exact r_ireturn C dX11_whyNotTouch_11
theorem dX11_whyNotRemove_0 : decode cX11_whyNotRemove 0 = .ok (.aload_n 0, 1) := by decide +kernel
theorem dX11_whyNotRemove_1 : decode cX11_whyNotRemove 1 = .ok (.iload_n 1, 1) := by decide +kernel
theorem dX11_whyNotRemove_2 : decode cX11_whyNotRemove 2 = .ok (.invokevirtual 191, 3) := by decide +kernel
theorem dX11_whyNotRemove_5 : decode cX11_whyNotRemove 5 = .ok (.istore_n 2, 1) := by decide +kernel
theorem dX11_whyNotRemove_6 : decode cX11_whyNotRemove 6 = .ok (.iload_n 2, 1) := by decide +kernel
theorem dX11_whyNotRemove_7 : decode cX11_whyNotRemove 7 = .ok (.ifCond .eq 5, 3) := by decide +kernel
theorem dX11_whyNotRemove_10 : decode cX11_whyNotRemove 10 = .ok (.iload_n 2, 1) := by decide +kernel
theorem dX11_whyNotRemove_11 : decode cX11_whyNotRemove 11 = .ok (.ireturn, 1) := by decide +kernel
theorem dX11_whyNotRemove_12 : decode cX11_whyNotRemove 12 = .ok (.aload_n 0, 1) := by decide +kernel
theorem dX11_whyNotRemove_13 : decode cX11_whyNotRemove 13 = .ok (.iload_n 1, 1) := by decide +kernel
theorem dX11_whyNotRemove_14 : decode cX11_whyNotRemove 14 = .ok (.iconst 3, 1) := by decide +kernel
theorem dX11_whyNotRemove_15 : decode cX11_whyNotRemove 15 = .ok (.invokevirtual 69, 3) := by decide +kernel
theorem dX11_whyNotRemove_18 : decode cX11_whyNotRemove 18 = .ok (.iconst 1, 1) := by decide +kernel
theorem dX11_whyNotRemove_19 : decode cX11_whyNotRemove 19 = .ok (.if_icmp .ne 6, 3) := by decide +kernel
theorem dX11_whyNotRemove_22 : decode cX11_whyNotRemove 22 = .ok (.bipush 7, 2) := by decide +kernel
theorem dX11_whyNotRemove_24 : decode cX11_whyNotRemove 24 = .ok (.ireturn, 1) := by decide +kernel
theorem dX11_whyNotRemove_25 : decode cX11_whyNotRemove 25 = .ok (.aload_n 0, 1) := by decide +kernel
theorem dX11_whyNotRemove_26 : decode cX11_whyNotRemove 26 = .ok (.iload_n 1, 1) := by decide +kernel
theorem dX11_whyNotRemove_27 : decode cX11_whyNotRemove 27 = .ok (.invokevirtual 158, 3) := by decide +kernel
theorem dX11_whyNotRemove_30 : decode cX11_whyNotRemove 30 = .ok (.ifCond .eq 8, 3) := by decide +kernel
theorem dX11_whyNotRemove_33 : decode cX11_whyNotRemove 33 = .ok (.bipush 8, 2) := by decide +kernel
theorem dX11_whyNotRemove_35 : decode cX11_whyNotRemove 35 = .ok (.goto 4, 3) := by decide +kernel
theorem dX11_whyNotRemove_38 : decode cX11_whyNotRemove 38 = .ok (.iconst 0, 1) := by decide +kernel
theorem dX11_whyNotRemove_39 : decode cX11_whyNotRemove 39 = .ok (.ireturn, 1) := by decide +kernel
def F_X11_whyNotRemove (a1 : Int32) (t : HV) : Option (Int32) := (ob1 (F_X11_whyNotTouch a1 t) fun v1 => (if v1 = 0 then (ob1 (F_X11_of a1 3 t) fun v2 => (if v2 = 1 then some 7 else (ob1 (F_X11_isSafe a1 t) fun v3 => (if v3 = true then some 8 else some 0)))) else some v1))
theorem c_X11_whyNotRemove {w : WP} (hW : gWM w) {Ω : OM}  {t : HV} (e : Ω.2.1 = t) (a1 : Int32) {v : Int32} (hF : F_X11_whyNotRemove a1 t = some v) : gM w 4 yX11_whyNotRemove cX11_whyNotRemove 3 (some .int) [.ref (wAd w (11, 12, 0, 0)), .int a1] (cA w Ω) (some (.int v)) (cA w Ω) := by
  refine gM_of "HedgeMessagesModel" rfl (by decide) (kR rfl) fun X C => ?_
  unfold F_X11_whyNotRemove at hF
  show gV w X _ _ 0 [(0, .ref (wAd w (11, 12, 0, 0))), (1, .int a1)] []
  refine r_aload_n C (k := 0) rfl rfl dX11_whyNotRemove_0 ?_
  refine r_iload_n C (k := 1) rfl rfl dX11_whyNotRemove_1 ?_
  obtain ⟨v1, hv1, hF⟩ := ob1_e hF
  refine r_callV C (d' := 2) [.int a1] (c_X11_whyNotTouch hW e a1 hv1) myX11_whyNotTouch wm8_2 ⟨_, _, _, _, (hW.ok k11), rfl, rfl, rfl, rfl⟩ rfl (kR rfl) (by decide) (kR rfl) rfl dX11_whyNotRemove_2 ?_
  refine r_istore_n C (lo' := [(2, .int v1), (0, .ref (wAd w (11, 12, 0, 0))), (1, .int a1)]) rfl (by decide) rfl dX11_whyNotRemove_5 ?_
  refine r_iload_n C (k := 0) rfl rfl dX11_whyNotRemove_6 ?_
  refine r_if_eq C (tgt := 12) rfl dX11_whyNotRemove_7 (fun hc => ?_) (fun hc => ?_)
  · rw [if_pos hc] at hF
    refine r_aload_n C (k := 1) rfl rfl dX11_whyNotRemove_12 ?_
    refine r_iload_n C (k := 2) rfl rfl dX11_whyNotRemove_13 ?_
    refine r_iconst C (v := 3) rfl dX11_whyNotRemove_14 ?_
    obtain ⟨v2, hv2, hF⟩ := ob1_e hF
    refine r_callV C (d' := 0) [.int a1, .int 3] (c_X11_of hW e a1 3 hv2) myX11_of wm7_2 ⟨_, _, _, _, (hW.ok k11), rfl, rfl, rfl, rfl⟩ rfl (kR rfl) (by decide) (kR rfl) rfl dX11_whyNotRemove_15 ?_
    refine r_iconst C (v := 1) rfl dX11_whyNotRemove_18 ?_
    refine r_icmp_ne C (tgt := 25) rfl dX11_whyNotRemove_19 (fun hc => ?_) (fun hc => ?_)
    · rw [if_neg hc] at hF
      refine r_aload_n C (k := 1) rfl rfl dX11_whyNotRemove_25 ?_
      refine r_iload_n C (k := 2) rfl rfl dX11_whyNotRemove_26 ?_
      obtain ⟨v3, hv3, hF⟩ := ob1_e hF
      refine r_callV C (d' := 3) [.int a1] (c_X11_isSafe hW e a1 hv3) myX11_isSafe wm8_6 ⟨_, _, _, _, (hW.ok k11), rfl, rfl, rfl, rfl⟩ rfl (kR rfl) (by decide) (kR rfl) rfl dX11_whyNotRemove_27 ?_
      refine r_if_eq C (tgt := 38) rfl dX11_whyNotRemove_30 (fun hc => ?_) (fun hc => ?_)
      · rw [if_neg (b2i_f hc)] at hF
        refine r_iconst C (v := 0) rfl dX11_whyNotRemove_38 ?_
        cases hF
        exact r_ireturn C dX11_whyNotRemove_39
      · rw [if_pos (b2i_t hc)] at hF
        refine r_bipush C (v := 8) rfl dX11_whyNotRemove_33 ?_
        refine r_goto C (tgt := 39) rfl dX11_whyNotRemove_35 ?_
        cases hF
        exact r_ireturn C dX11_whyNotRemove_39
    · rw [if_pos hc] at hF
      refine r_bipush C (v := 7) rfl dX11_whyNotRemove_22 ?_
      cases hF
      exact r_ireturn C dX11_whyNotRemove_24
  · rw [if_neg hc] at hF
    refine r_iload_n C (k := 0) rfl rfl dX11_whyNotRemove_10 ?_
    cases hF
    exact r_ireturn C dX11_whyNotRemove_11
