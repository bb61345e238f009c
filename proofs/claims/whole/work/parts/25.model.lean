/-! ===== 25.model: printed by wip/whole/genmodel.py ===== -/
theorem dX11_bestNestSlot_0 : decode cX11_bestNestSlot 0 = .ok (.aload_n 0, 1) := by decide +kernel
theorem dX11_bestNestSlot_1 : decode cX11_bestNestSlot 1 = .ok (.iconst 0, 1) := by decide +kernel
theorem dX11_bestNestSlot_2 : decode cX11_bestNestSlot 2 = .ok (.putfield 58, 3) := by decide +kernel
theorem dX11_bestNestSlot_5 : decode cX11_bestNestSlot 5 = .ok (.aload_n 0, 1) := by decide +kernel
theorem dX11_bestNestSlot_6 : decode cX11_bestNestSlot 6 = .ok (.invokevirtual 209, 3) := by decide +kernel
theorem dX11_bestNestSlot_9 : decode cX11_bestNestSlot 9 = .ok (.bipush 6, 2) := by decide +kernel
theorem dX11_bestNestSlot_11 : decode cX11_bestNestSlot 11 = .ok (.if_icmp .ne 5, 3) := by decide +kernel
theorem dX11_bestNestSlot_14 : decode cX11_bestNestSlot 14 = .ok (.iconst (-1), 1) := by decide +kernel
theorem dX11_bestNestSlot_15 : decode cX11_bestNestSlot 15 = .ok (.ireturn, 1) := by decide +kernel
theorem dX11_bestNestSlot_16 : decode cX11_bestNestSlot 16 = .ok (.iconst (-1), 1) := by decide +kernel
theorem dX11_bestNestSlot_17 : decode cX11_bestNestSlot 17 = .ok (.istore_n 1, 1) := by decide +kernel
theorem dX11_bestNestSlot_18 : decode cX11_bestNestSlot 18 = .ok (.iconst (-1), 1) := by decide +kernel
theorem dX11_bestNestSlot_19 : decode cX11_bestNestSlot 19 = .ok (.istore_n 2, 1) := by decide +kernel
theorem dX11_bestNestSlot_20 : decode cX11_bestNestSlot 20 = .ok (.iconst 0, 1) := by decide +kernel
theorem dX11_bestNestSlot_21 : decode cX11_bestNestSlot 21 = .ok (.istore_n 3, 1) := by decide +kernel
theorem dX11_bestNestSlot_22 : decode cX11_bestNestSlot 22 = .ok (.iload_n 3, 1) := by decide +kernel
theorem dX11_bestNestSlot_23 : decode cX11_bestNestSlot 23 = .ok (.aload_n 0, 1) := by decide +kernel
theorem dX11_bestNestSlot_24 : decode cX11_bestNestSlot 24 = .ok (.getfield 7, 3) := by decide +kernel
theorem dX11_bestNestSlot_27 : decode cX11_bestNestSlot 27 = .ok (.iconst 0, 1) := by decide +kernel
theorem dX11_bestNestSlot_28 : decode cX11_bestNestSlot 28 = .ok (.iaload, 1) := by decide +kernel
theorem dX11_bestNestSlot_29 : decode cX11_bestNestSlot 29 = .ok (.if_icmp .ge 34, 3) := by decide +kernel
theorem dX11_bestNestSlot_32 : decode cX11_bestNestSlot 32 = .ok (.aload_n 0, 1) := by decide +kernel
theorem dX11_bestNestSlot_33 : decode cX11_bestNestSlot 33 = .ok (.iload_n 3, 1) := by decide +kernel
theorem dX11_bestNestSlot_34 : decode cX11_bestNestSlot 34 = .ok (.invokevirtual 77, 3) := by decide +kernel
theorem dX11_bestNestSlot_37 : decode cX11_bestNestSlot 37 = .ok (.ifCond .ne 20, 3) := by decide +kernel
theorem dX11_bestNestSlot_40 : decode cX11_bestNestSlot 40 = .ok (.aload_n 0, 1) := by decide +kernel
theorem dX11_bestNestSlot_41 : decode cX11_bestNestSlot 41 = .ok (.iload_n 3, 1) := by decide +kernel
theorem dX11_bestNestSlot_42 : decode cX11_bestNestSlot 42 = .ok (.invokevirtual 408, 3) := by decide +kernel
theorem dX11_bestNestSlot_45 : decode cX11_bestNestSlot 45 = .ok (.iload_n 2, 1) := by decide +kernel
theorem dX11_bestNestSlot_46 : decode cX11_bestNestSlot 46 = .ok (.if_icmp .le 11, 3) := by decide +kernel
theorem dX11_bestNestSlot_49 : decode cX11_bestNestSlot 49 = .ok (.iload_n 3, 1) := by decide +kernel
theorem dX11_bestNestSlot_50 : decode cX11_bestNestSlot 50 = .ok (.istore_n 1, 1) := by decide +kernel
theorem dX11_bestNestSlot_51 : decode cX11_bestNestSlot 51 = .ok (.aload_n 0, 1) := by decide +kernel
theorem dX11_bestNestSlot_52 : decode cX11_bestNestSlot 52 = .ok (.iload_n 3, 1) := by decide +kernel
theorem dX11_bestNestSlot_53 : decode cX11_bestNestSlot 53 = .ok (.invokevirtual 408, 3) := by decide +kernel
theorem dX11_bestNestSlot_56 : decode cX11_bestNestSlot 56 = .ok (.istore_n 2, 1) := by decide +kernel
theorem dX11_bestNestSlot_57 : decode cX11_bestNestSlot 57 = .ok (.iinc 3 1, 3) := by decide +kernel
theorem dX11_bestNestSlot_60 : decode cX11_bestNestSlot 60 = .ok (.goto (-38), 3) := by decide +kernel
theorem dX11_bestNestSlot_63 : decode cX11_bestNestSlot 63 = .ok (.iload_n 1, 1) := by decide +kernel
theorem dX11_bestNestSlot_64 : decode cX11_bestNestSlot 64 = .ok (.ireturn, 1) := by decide +kernel
def st_X11_bestNestSlot_22 (N : Nat) (l1 : Int32) (l2 : Int32) (l3 : Int32) (t : HV) : Option ((Int32 × Int32 × Int32 × HV) ⊕ (Int32 × (HV))) := (if vpb 0 760 = true then (if (ag t 0 0) ≤ l3 then some (.inr (l1, t)) else (ob1 (F_X11_hasNest l3 t) fun v4 => (if v4 = true then some (.inl (l1, l2, (l3 + 1), t)) else (ob1 (F_X11_savedBy N l3 t) fun v5 => (if v5 ≤ l2 then some (.inl (l1, l2, (l3 + 1), t)) else (ob1 (F_X11_savedBy N l3 t) fun v6 => some (.inl (l3, v6, (l3 + 1), t)))))))) else none)
def F_X11_bestNestSlot (N : Nat) (t : HV) : Option (Int32 × (HV)) := (lt (sS t 6 0) fun t1 => (ob1 (F_X11_nests N t1) fun v2 => (if v2 = 6 then some ((-1), t1) else (lpN N (fun z => st_X11_bestNestSlot_22 N z.1 z.2.1 z.2.2.1 z.2.2.2) ((-1), (-1), 0, t1)))))
theorem lp_X11_bestNestSlot_22 {w : WP} (hW : gWM w) {Ω : OM}    {N : Nat} {X : CX} (C : gC w X cX11_bestNestSlot "HedgeMessagesModel" (some .int) 6 4) {v : Int32} {t' : HV}  : ∀ (n : Nat) (l1 : Int32) (l2 : Int32) (l3 : Int32) (t : HV), lpN n (fun z : Int32 × Int32 × Int32 × HV => st_X11_bestNestSlot_22 N z.1 z.2.1 z.2.2.1 z.2.2.2) (l1, l2, l3, t) = some (v, t') → gV w X (some (.int v), cA w (sM Ω t')) (cA w (sM Ω t)) 22 [(0, .ref (wAd w (11, 12, 0, 0))), (1, .int l1), (2, .int l2), (3, .int l3)] [] := by
  intro n
  induction n with
  | zero => intro l1 l2 l3 t hL; exact lpN_0 hL
  | succ n ih =>
    intro l1 l2 l3 t hL
    obtain ⟨q9, hF, hL⟩ := lpN_e hL
    change st_X11_bestNestSlot_22 N l1 l2 l3 t = some q9 at hF
    unfold st_X11_bestNestSlot_22 at hF
    refine r_iload_n C (k := 3) rfl rfl dX11_bestNestSlot_22 ?_
    refine r_aload_n C (k := 0) rfl rfl dX11_bestNestSlot_23 ?_
    refine og_11_0 C (hW.ok k11) wm7_67 dX11_bestNestSlot_24 ?_
    refine r_iconst C (v := 0) rfl dX11_bestNestSlot_27 ?_
    obtain ⟨b3, hF⟩ := gd_e hF
    refine m_ald C (hW.ok (k12 (a := 0) (by unfold okMa; decide))) (show (sM Ω t).2.1 = t from rfl) rfl b3 dX11_bestNestSlot_28 ?_
    refine r_icmp_ge C (tgt := 63) rfl dX11_bestNestSlot_29 (fun hc => ?_) (fun hc => ?_)
    · rw [if_pos hc] at hF
      refine r_iload_n C (k := 1) rfl rfl dX11_bestNestSlot_63 ?_
      cases hF
      change some _ = some _ at hL
      cases hL
      exact r_ireturn C dX11_bestNestSlot_64
    · rw [if_neg hc] at hF
      refine r_aload_n C (k := 0) rfl rfl dX11_bestNestSlot_32 ?_
      refine r_iload_n C (k := 3) rfl rfl dX11_bestNestSlot_33 ?_
      obtain ⟨v4, hv4, hF⟩ := ob1_e hF
      refine r_callV C (d' := 2) [.int l3] (c_X11_hasNest hW (show (sM Ω t).2.1 = t from rfl) l3 hv4) myX11_hasNest wm7_23 ⟨_, _, _, _, (hW.ok k11), rfl, rfl, rfl, rfl⟩ rfl (kR rfl) (by decide) (kR rfl) rfl dX11_bestNestSlot_34 ?_
      refine r_if_ne C (tgt := 57) rfl dX11_bestNestSlot_37 (fun hc => ?_) (fun hc => ?_)
      · rw [if_pos (b2i_t hc)] at hF
        refine r_iinc C (k := 3) (v := (l3 + 1)) (lo' := [(3, .int (l3 + 1)), (0, .ref (wAd w (11, 12, 0, 0))), (1, .int l1), (2, .int l2)]) rfl rfl (by decide) rfl dX11_bestNestSlot_57 ?_
        refine r_goto C (tgt := 22) rfl dX11_bestNestSlot_60 ?_
        cases hF
        change lpN n _ _ = some _ at hL
        refine r_lo [1, 2, 3, 0] (lo' := [(0, .ref (wAd w (11, 12, 0, 0))), (1, .int l1), (2, .int l2), (3, .int (l3 + 1))]) rfl ?_
        exact ih l1 l2 (l3 + 1) t hL
      · rw [if_neg (b2i_f hc)] at hF
        refine r_aload_n C (k := 0) rfl rfl dX11_bestNestSlot_40 ?_
        refine r_iload_n C (k := 3) rfl rfl dX11_bestNestSlot_41 ?_
        obtain ⟨v5, hv5, hF⟩ := ob1_e hF
        refine r_callV C (d' := 5) [.int l3] (c_X11_savedBy hW (show (sM Ω t).2.1 = t from rfl) N l3 hv5) myX11_savedBy wm9_48 ⟨_, _, _, _, (hW.ok k11), rfl, rfl, rfl, rfl⟩ rfl (kR rfl) (by decide) (kR rfl) rfl dX11_bestNestSlot_42 ?_
        refine r_iload_n C (k := 2) rfl rfl dX11_bestNestSlot_45 ?_
        refine r_icmp_le C (tgt := 57) rfl dX11_bestNestSlot_46 (fun hc => ?_) (fun hc => ?_)
        · rw [if_pos hc] at hF
          refine r_iinc C (k := 3) (v := (l3 + 1)) (lo' := [(3, .int (l3 + 1)), (0, .ref (wAd w (11, 12, 0, 0))), (1, .int l1), (2, .int l2)]) rfl rfl (by decide) rfl dX11_bestNestSlot_57 ?_
          refine r_goto C (tgt := 22) rfl dX11_bestNestSlot_60 ?_
          cases hF
          change lpN n _ _ = some _ at hL
          refine r_lo [1, 2, 3, 0] (lo' := [(0, .ref (wAd w (11, 12, 0, 0))), (1, .int l1), (2, .int l2), (3, .int (l3 + 1))]) rfl ?_
          exact ih l1 l2 (l3 + 1) t hL
        · rw [if_neg hc] at hF
          refine r_iload_n C (k := 3) rfl rfl dX11_bestNestSlot_49 ?_
          refine r_istore_n C (lo' := [(1, .int l3), (0, .ref (wAd w (11, 12, 0, 0))), (2, .int l2), (3, .int l3)]) rfl (by decide) rfl dX11_bestNestSlot_50 ?_
          refine r_aload_n C (k := 1) rfl rfl dX11_bestNestSlot_51 ?_
          refine r_iload_n C (k := 3) rfl rfl dX11_bestNestSlot_52 ?_
          obtain ⟨v6, hv6, hF⟩ := ob1_e hF
          refine r_callV C (d' := 5) [.int l3] (c_X11_savedBy hW (show (sM Ω t).2.1 = t from rfl) N l3 hv6) myX11_savedBy wm9_48 ⟨_, _, _, _, (hW.ok k11), rfl, rfl, rfl, rfl⟩ rfl (kR rfl) (by decide) (kR rfl) rfl dX11_bestNestSlot_53 ?_
          refine r_istore_n C (lo' := [(2, .int v6), (1, .int l3), (0, .ref (wAd w (11, 12, 0, 0))), (3, .int l3)]) rfl (by decide) rfl dX11_bestNestSlot_56 ?_
          refine r_iinc C (k := 3) (v := (l3 + 1)) (lo' := [(3, .int (l3 + 1)), (2, .int v6), (1, .int l3), (0, .ref (wAd w (11, 12, 0, 0)))]) rfl rfl (by decide) rfl dX11_bestNestSlot_57 ?_
          refine r_goto C (tgt := 22) rfl dX11_bestNestSlot_60 ?_
          cases hF
          change lpN n _ _ = some _ at hL
          refine r_lo [3, 2, 1, 0] (lo' := [(0, .ref (wAd w (11, 12, 0, 0))), (1, .int l3), (2, .int v6), (3, .int (l3 + 1))]) rfl ?_
          exact ih l3 v6 (l3 + 1) t hL
theorem c_X11_bestNestSlot {w : WP} (hW : gWM w) {Ω : OM}  {t : HV} (e : Ω.2.1 = t) (N : Nat)  {v : Int32} {t' : HV} (hF : F_X11_bestNestSlot N t = some (v, t')) {Ω' : OM} (e2 : (sM Ω t') = Ω') : gM w 6 yX11_bestNestSlot cX11_bestNestSlot 4 (some .int) [.ref (wAd w (11, 12, 0, 0))] (cA w Ω) (some (.int v)) (cA w Ω') := by
  refine gM_of "HedgeMessagesModel" rfl (by decide) (kR rfl) fun X C => ?_
  unfold F_X11_bestNestSlot at hF
  subst e2
  show gV w X _ _ 0 [(0, .ref (wAd w (11, 12, 0, 0)))] []
  refine r_ct (ct' := cA w (sM Ω t)) (congrArg (cA w) (sM_i e).symm) ?_
  refine r_aload_n C (k := 0) rfl rfl dX11_bestNestSlot_0 ?_
  refine r_iconst C (v := 0) rfl dX11_bestNestSlot_1 ?_
  obtain ⟨t1, et1, hF⟩ := lt_e hF
  refine op_11_6 C hW.x (hW.fr k11) (show (sM Ω t).2.1 = t from rfl) wm7_73 dX11_bestNestSlot_2 (congrArg (sM Ω) et1) ?_
  refine r_aload_n C (k := 0) rfl rfl dX11_bestNestSlot_5 ?_
  obtain ⟨v2, hv2, hF⟩ := ob1_e hF
  refine r_callV C (d' := 1) [] (c_X11_nests hW (show (sM Ω t1).2.1 = t1 from rfl) N hv2) myX11_nests wm7_31 ⟨_, _, _, _, (hW.ok k11), rfl, rfl, rfl, rfl⟩ rfl (kR rfl) (by decide) (kR rfl) rfl dX11_bestNestSlot_6 ?_
  refine r_bipush C (v := 6) rfl dX11_bestNestSlot_9 ?_
  refine r_icmp_ne C (tgt := 16) rfl dX11_bestNestSlot_11 (fun hc => ?_) (fun hc => ?_)
  · rw [if_neg hc] at hF
    refine r_iconst C (v := (-1)) (by decide) dX11_bestNestSlot_16 ?_
    refine r_istore_n C (lo' := [(1, .int (-1)), (0, .ref (wAd w (11, 12, 0, 0)))]) rfl (by decide) rfl dX11_bestNestSlot_17 ?_
    refine r_iconst C (v := (-1)) (by decide) dX11_bestNestSlot_18 ?_
    refine r_istore_n C (lo' := [(2, .int (-1)), (1, .int (-1)), (0, .ref (wAd w (11, 12, 0, 0)))]) rfl (by decide) rfl dX11_bestNestSlot_19 ?_
    refine r_iconst C (v := 0) rfl dX11_bestNestSlot_20 ?_
    refine r_istore_n C (lo' := [(3, .int 0), (2, .int (-1)), (1, .int (-1)), (0, .ref (wAd w (11, 12, 0, 0)))]) rfl (by decide) rfl dX11_bestNestSlot_21 ?_
    refine r_lo [3, 2, 1, 0] (lo' := [(0, .ref (wAd w (11, 12, 0, 0))), (1, .int (-1)), (2, .int (-1)), (3, .int 0)]) rfl ?_
    exact lp_X11_bestNestSlot_22 hW C N (-1) (-1) 0 t1 hF
  · rw [if_pos hc] at hF
    refine r_iconst C (v := (-1)) (by decide) dX11_bestNestSlot_14 ?_
    cases hF
    exact r_ireturn C dX11_bestNestSlot_15
theorem dX11_hasNothingLeft_0 : decode cX11_hasNothingLeft 0 = .ok (.aload_n 0, 1) := by decide +kernel
theorem dX11_hasNothingLeft_1 : decode cX11_hasNothingLeft 1 = .ok (.getfield 7, 3) := by decide +kernel
theorem dX11_hasNothingLeft_4 : decode cX11_hasNothingLeft 4 = .ok (.bipush 12, 2) := by decide +kernel
theorem dX11_hasNothingLeft_6 : decode cX11_hasNothingLeft 6 = .ok (.iload_n 1, 1) := by decide +kernel
theorem dX11_hasNothingLeft_7 : decode cX11_hasNothingLeft 7 = .ok (.iadd, 1) := by decide +kernel
theorem dX11_hasNothingLeft_8 : decode cX11_hasNothingLeft 8 = .ok (.iaload, 1) := by decide +kernel
theorem dX11_hasNothingLeft_9 : decode cX11_hasNothingLeft 9 = .ok (.ifCond .ne 23, 3) := by decide +kernel
theorem dX11_hasNothingLeft_12 : decode cX11_hasNothingLeft 12 = .ok (.aload_n 0, 1) := by decide +kernel
theorem dX11_hasNothingLeft_13 : decode cX11_hasNothingLeft 13 = .ok (.iload_n 1, 1) := by decide +kernel
theorem dX11_hasNothingLeft_14 : decode cX11_hasNothingLeft 14 = .ok (.invokevirtual 134, 3) := by decide +kernel
theorem dX11_hasNothingLeft_17 : decode cX11_hasNothingLeft 17 = .ok (.ifCond .ne 15, 3) := by decide +kernel
theorem dX11_hasNothingLeft_20 : decode cX11_hasNothingLeft 20 = .ok (.aload_n 0, 1) := by decide +kernel
theorem dX11_hasNothingLeft_21 : decode cX11_hasNothingLeft 21 = .ok (.iload_n 1, 1) := by decide +kernel
theorem dX11_hasNothingLeft_22 : decode cX11_hasNothingLeft 22 = .ok (.invokevirtual 388, 3) := by decide +kernel
theorem dX11_hasNothingLeft_25 : decode cX11_hasNothingLeft 25 = .ok (.ifCond .ne 7, 3) := by decide +kernel
theorem dX11_hasNothingLeft_28 : decode cX11_hasNothingLeft 28 = .ok (.iconst 1, 1) := by decide +kernel
theorem dX11_hasNothingLeft_29 : decode cX11_hasNothingLeft 29 = .ok (.goto 4, 3) := by decide +kernel
theorem dX11_hasNothingLeft_32 : decode cX11_hasNothingLeft 32 = .ok (.iconst 0, 1) := by decide +kernel
theorem dX11_hasNothingLeft_33 : decode cX11_hasNothingLeft 33 = .ok (.ireturn, 1) := by decide +kernel
def F_X11_hasNothingLeft (N : Nat) (a1 : Int32) (t : HV) : Option (Bool) := (if vpb (12 + a1) 760 = true then (if (ag t 0 (12 + a1)) = 0 then (ob1 (F_X11_isInProgress a1 t) fun v2 => (if v2 = true then some false else (ob1 (F_X11_postedOf N a1 t) fun v3 => (if v3 = 0 then some true else some false)))) else some false) else none)
theorem c_X11_hasNothingLeft {w : WP} (hW : gWM w) {Ω : OM}  {t : HV} (e : Ω.2.1 = t) (N : Nat) (a1 : Int32) {v : Bool} (hF : F_X11_hasNothingLeft N a1 t = some v) : gM w 2 yX11_hasNothingLeft cX11_hasNothingLeft 2 (some .boolean) [.ref (wAd w (11, 12, 0, 0)), .int a1] (cA w Ω) (some (.int (b2i v))) (cA w Ω) := by
  refine gM_of "HedgeMessagesModel" rfl (by decide) (kR rfl) fun X C => ?_
  unfold F_X11_hasNothingLeft at hF
  show gV w X _ _ 0 [(0, .ref (wAd w (11, 12, 0, 0))), (1, .int a1)] []
  refine r_aload_n C (k := 0) rfl rfl dX11_hasNothingLeft_0 ?_
  refine og_11_0 C (hW.ok k11) wm7_67 dX11_hasNothingLeft_1 ?_
  refine r_bipush C (v := 12) rfl dX11_hasNothingLeft_4 ?_
  refine r_iload_n C (k := 1) rfl rfl dX11_hasNothingLeft_6 ?_
  refine r_iadd C dX11_hasNothingLeft_7 ?_
  obtain ⟨b1, hF⟩ := gd_e hF
  refine m_ald C (hW.ok (k12 (a := 0) (by unfold okMa; decide))) e rfl b1 dX11_hasNothingLeft_8 ?_
  refine r_if_ne C (tgt := 32) rfl dX11_hasNothingLeft_9 (fun hc => ?_) (fun hc => ?_)
  · rw [if_neg hc] at hF
    refine r_iconst C (v := 0) rfl dX11_hasNothingLeft_32 ?_
    cases hF
    exact r_zreturn C false rfl dX11_hasNothingLeft_33
  · rw [if_pos hc] at hF
    refine r_aload_n C (k := 0) rfl rfl dX11_hasNothingLeft_12 ?_
    refine r_iload_n C (k := 1) rfl rfl dX11_hasNothingLeft_13 ?_
    obtain ⟨v2, hv2, hF⟩ := ob1_e hF
    refine r_callV C (d' := 1) [.int a1] (c_X11_isInProgress hW e a1 hv2) myX11_isInProgress wm8_81 ⟨_, _, _, _, (hW.ok k11), rfl, rfl, rfl, rfl⟩ rfl (kR rfl) (by decide) (kR rfl) rfl dX11_hasNothingLeft_14 ?_
    refine r_if_ne C (tgt := 32) rfl dX11_hasNothingLeft_17 (fun hc => ?_) (fun hc => ?_)
    · rw [if_pos (b2i_t hc)] at hF
      refine r_iconst C (v := 0) rfl dX11_hasNothingLeft_32 ?_
      cases hF
      exact r_zreturn C false rfl dX11_hasNothingLeft_33
    · rw [if_neg (b2i_f hc)] at hF
      refine r_aload_n C (k := 0) rfl rfl dX11_hasNothingLeft_20 ?_
      refine r_iload_n C (k := 1) rfl rfl dX11_hasNothingLeft_21 ?_
      obtain ⟨v3, hv3, hF⟩ := ob1_e hF
      refine r_callV C (d' := 1) [.int a1] (c_X11_postedOf hW e N a1 hv3) myX11_postedOf wm8_212 ⟨_, _, _, _, (hW.ok k11), rfl, rfl, rfl, rfl⟩ rfl (kR rfl) (by decide) (kR rfl) rfl dX11_hasNothingLeft_22 ?_
      refine r_if_ne C (tgt := 32) rfl dX11_hasNothingLeft_25 (fun hc => ?_) (fun hc => ?_)
      · rw [if_neg hc] at hF
        refine r_iconst C (v := 0) rfl dX11_hasNothingLeft_32 ?_
        cases hF
        exact r_zreturn C false rfl dX11_hasNothingLeft_33
      · rw [if_pos hc] at hF
        refine r_iconst C (v := 1) rfl dX11_hasNothingLeft_28 ?_
        refine r_goto C (tgt := 33) rfl dX11_hasNothingLeft_29 ?_
        cases hF
        exact r_zreturn C true rfl dX11_hasNothingLeft_33
theorem dX11_leastWorkLimit_0 : decode cX11_leastWorkLimit 0 = .ok (.aload_n 0, 1) := by decide +kernel
theorem dX11_leastWorkLimit_1 : decode cX11_leastWorkLimit 1 = .ok (.iload_n 1, 1) := by decide +kernel
theorem dX11_leastWorkLimit_2 : decode cX11_leastWorkLimit 2 = .ok (.invokestatic 385, 3) := by decide +kernel
theorem dX11_leastWorkLimit_5 : decode cX11_leastWorkLimit 5 = .ok (.ifCond .eq 19, 3) := by decide +kernel
theorem dX11_leastWorkLimit_8 : decode cX11_leastWorkLimit 8 = .ok (.iload_n 2, 1) := by decide +kernel
theorem dX11_leastWorkLimit_9 : decode cX11_leastWorkLimit 9 = .ok (.i2l, 1) := by decide +kernel
theorem dX11_leastWorkLimit_10 : decode cX11_leastWorkLimit 10 = .ok (.lconst 1, 1) := by decide +kernel
theorem dX11_leastWorkLimit_11 : decode cX11_leastWorkLimit 11 = .ok (.ldc2_w 403, 3) := by decide +kernel
theorem dX11_leastWorkLimit_14 : decode cX11_leastWorkLimit 14 = .ok (.invokestatic 65, 3) := by decide +kernel
theorem dX11_leastWorkLimit_17 : decode cX11_leastWorkLimit 17 = .ok (.ifCond .eq 7, 3) := by decide +kernel
theorem dX11_leastWorkLimit_20 : decode cX11_leastWorkLimit 20 = .ok (.iconst 1, 1) := by decide +kernel
theorem dX11_leastWorkLimit_21 : decode cX11_leastWorkLimit 21 = .ok (.goto 4, 3) := by decide +kernel
theorem dX11_leastWorkLimit_24 : decode cX11_leastWorkLimit 24 = .ok (.iconst 0, 1) := by decide +kernel
theorem dX11_leastWorkLimit_25 : decode cX11_leastWorkLimit 25 = .ok (.invokevirtual 221, 3) := by decide +kernel
theorem dX11_leastWorkLimit_28 : decode cX11_leastWorkLimit 28 = .ok (.ifCond .ne 5, 3) := by decide +kernel
theorem dX11_leastWorkLimit_31 : decode cX11_leastWorkLimit 31 = .ok (.iconst 0, 1) := by decide +kernel
theorem dX11_leastWorkLimit_32 : decode cX11_leastWorkLimit 32 = .ok (.ireturn, 1) := by decide +kernel
theorem dX11_leastWorkLimit_33 : decode cX11_leastWorkLimit 33 = .ok (.iconst 1, 1) := by decide +kernel
theorem dX11_leastWorkLimit_34 : decode cX11_leastWorkLimit 34 = .ok (.istore_n 3, 1) := by decide +kernel
theorem dX11_leastWorkLimit_35 : decode cX11_leastWorkLimit 35 = .ok (.iload_n 3, 1) := by decide +kernel
theorem dX11_leastWorkLimit_36 : decode cX11_leastWorkLimit 36 = .ok (.bipush 12, 2) := by decide +kernel
theorem dX11_leastWorkLimit_38 : decode cX11_leastWorkLimit 38 = .ok (.if_icmp .gt 43, 3) := by decide +kernel
theorem dX11_leastWorkLimit_41 : decode cX11_leastWorkLimit 41 = .ok (.aload_n 0, 1) := by decide +kernel
theorem dX11_leastWorkLimit_42 : decode cX11_leastWorkLimit 42 = .ok (.invokevirtual 397, 3) := by decide +kernel
theorem dX11_leastWorkLimit_45 : decode cX11_leastWorkLimit 45 = .ok (.aload_n 0, 1) := by decide +kernel
theorem dX11_leastWorkLimit_46 : decode cX11_leastWorkLimit 46 = .ok (.getfield 7, 3) := by decide +kernel
theorem dX11_leastWorkLimit_49 : decode cX11_leastWorkLimit 49 = .ok (.iconst 1, 1) := by decide +kernel
theorem dX11_leastWorkLimit_50 : decode cX11_leastWorkLimit 50 = .ok (.iload_n 3, 1) := by decide +kernel
theorem dX11_leastWorkLimit_51 : decode cX11_leastWorkLimit 51 = .ok (.iastore, 1) := by decide +kernel
theorem dX11_leastWorkLimit_52 : decode cX11_leastWorkLimit 52 = .ok (.aload_n 0, 1) := by decide +kernel
theorem dX11_leastWorkLimit_53 : decode cX11_leastWorkLimit 53 = .ok (.iload_n 2, 1) := by decide +kernel
theorem dX11_leastWorkLimit_54 : decode cX11_leastWorkLimit 54 = .ok (.invokevirtual 218, 3) := by decide +kernel
theorem dX11_leastWorkLimit_57 : decode cX11_leastWorkLimit 57 = .ok (.aload_n 0, 1) := by decide +kernel
theorem dX11_leastWorkLimit_58 : decode cX11_leastWorkLimit 58 = .ok (.aload_n 0, 1) := by decide +kernel
theorem dX11_leastWorkLimit_59 : decode cX11_leastWorkLimit 59 = .ok (.iload_n 1, 1) := by decide +kernel
theorem dX11_leastWorkLimit_60 : decode cX11_leastWorkLimit 60 = .ok (.invokevirtual 411, 3) := by decide +kernel
theorem dX11_leastWorkLimit_63 : decode cX11_leastWorkLimit 63 = .ok (.invokestatic 80, 3) := by decide +kernel
theorem dX11_leastWorkLimit_66 : decode cX11_leastWorkLimit 66 = .ok (.invokevirtual 400, 3) := by decide +kernel
theorem dX11_leastWorkLimit_69 : decode cX11_leastWorkLimit 69 = .ok (.iconst 1, 1) := by decide +kernel
theorem dX11_leastWorkLimit_70 : decode cX11_leastWorkLimit 70 = .ok (.if_icmp .ne 5, 3) := by decide +kernel
theorem dX11_leastWorkLimit_73 : decode cX11_leastWorkLimit 73 = .ok (.iload_n 3, 1) := by decide +kernel
theorem dX11_leastWorkLimit_74 : decode cX11_leastWorkLimit 74 = .ok (.ireturn, 1) := by decide +kernel
theorem dX11_leastWorkLimit_75 : decode cX11_leastWorkLimit 75 = .ok (.iinc 3 1, 3) := by decide +kernel
theorem dX11_leastWorkLimit_78 : decode cX11_leastWorkLimit 78 = .ok (.goto (-43), 3) := by decide +kernel
theorem dX11_leastWorkLimit_81 : decode cX11_leastWorkLimit 81 = .ok (.iconst (-1), 1) := by decide +kernel
theorem dX11_leastWorkLimit_82 : decode cX11_leastWorkLimit 82 = .ok (.ireturn, 1) := by decide +kernel
def st_X11_leastWorkLimit_35 (N : Nat) (l1 : Int32) (l2 : Int32) (l3 : Int32) (t : HV) : Option ((Int32 × HV) ⊕ (Int32 × (HV))) := (if 12 < l3 then some (.inr ((-1), t)) else (ob1 (F_X11_tries N t) fun t4 => (if vpb 1 760 = true then (lt (aw t4 0 1 l3) fun t6 => (ob1 (F_X11_goBy N l2 t6) fun t8 => (ob1 (F_X11_hasNothingLeft N l1 t8) fun v9 => (ob (F_X11_laidBack N (F_X11_truth v9) t8) fun v10 t11 => (if v10 = 1 then some (.inr (l3, t11)) else some (.inl ((l3 + 1), t11))))))) else none)))
def F_X11_leastWorkLimit (N : Nat) (a1 : Int32) (a2 : Int32) (t : HV) : Option (Int32 × (HV)) := (if (F_X11_isGardener a1) = true then (if (F_X11_in ((a2 : Int32).toInt64) (1 : Int64) (60 : Int64)) = true then (lt2 (F_X11_passes true t) fun v14 t15 => (if v14 = true then (lpN N (fun z => st_X11_leastWorkLimit_35 N a1 a2 z.1 z.2) (1, t15)) else some (0, t15))) else (lt2 (F_X11_passes false t) fun v12 t13 => (if v12 = true then (lpN N (fun z => st_X11_leastWorkLimit_35 N a1 a2 z.1 z.2) (1, t13)) else some (0, t13)))) else (lt2 (F_X11_passes false t) fun v1 t2 => (if v1 = true then (lpN N (fun z => st_X11_leastWorkLimit_35 N a1 a2 z.1 z.2) (1, t2)) else some (0, t2))))
theorem lp_X11_leastWorkLimit_35 {w : WP} (hW : gWM w) {Ω : OM}   (l1 : Int32) (l2 : Int32) {N : Nat} {X : CX} (C : gC w X cX11_leastWorkLimit "HedgeMessagesModel" (some .int) 11 4) {v : Int32} {t' : HV}  : ∀ (n : Nat) (l3 : Int32) (t : HV), lpN n (fun z : Int32 × HV => st_X11_leastWorkLimit_35 N l1 l2 z.1 z.2) (l3, t) = some (v, t') → gV w X (some (.int v), cA w (sM Ω t')) (cA w (sM Ω t)) 35 [(0, .ref (wAd w (11, 12, 0, 0))), (1, .int l1), (2, .int l2), (3, .int l3)] [] := by
  intro n
  induction n with
  | zero => intro l3 t hL; exact lpN_0 hL
  | succ n ih =>
    intro l3 t hL
    obtain ⟨q9, hF, hL⟩ := lpN_e hL
    change st_X11_leastWorkLimit_35 N l1 l2 l3 t = some q9 at hF
    unfold st_X11_leastWorkLimit_35 at hF
    refine r_iload_n C (k := 3) rfl rfl dX11_leastWorkLimit_35 ?_
    refine r_bipush C (v := 12) rfl dX11_leastWorkLimit_36 ?_
    refine r_icmp_gt C (tgt := 81) rfl dX11_leastWorkLimit_38 (fun hc => ?_) (fun hc => ?_)
    · rw [if_pos hc] at hF
      refine r_iconst C (v := (-1)) (by decide) dX11_leastWorkLimit_81 ?_
      cases hF
      change some _ = some _ at hL
      cases hL
      exact r_ireturn C dX11_leastWorkLimit_82
    · rw [if_neg hc] at hF
      refine r_aload_n C (k := 0) rfl rfl dX11_leastWorkLimit_41 ?_
      obtain ⟨t4, ht4, hF⟩ := ob1_e hF
      refine r_callV C (d' := 1) [] (c_X11_tries hW (show (sM Ω t).2.1 = t from rfl) N ht4 rfl) myX11_tries wm9_24 ⟨_, _, _, _, (hW.ok k11), rfl, rfl, rfl, rfl⟩ rfl (kR rfl) (by decide) (kR rfl) rfl dX11_leastWorkLimit_42 ?_
      refine r_aload_n C (k := 0) rfl rfl dX11_leastWorkLimit_45 ?_
      refine og_11_0 C (hW.ok k11) wm7_67 dX11_leastWorkLimit_46 ?_
      refine r_iconst C (v := 1) rfl dX11_leastWorkLimit_49 ?_
      refine r_iload_n C (k := 3) rfl rfl dX11_leastWorkLimit_50 ?_
      obtain ⟨b5, hF⟩ := gd_e hF
      obtain ⟨t6, et6, hF⟩ := lt_e hF
      refine m_ast C hW.x (hW.fr (k12 (a := 0) (by unfold okMa; decide))) (show (sM Ω t4).2.1 = t4 from rfl) rfl b5 dX11_leastWorkLimit_51 (congrArg (sM Ω) et6) ?_
      refine r_aload_n C (k := 0) rfl rfl dX11_leastWorkLimit_52 ?_
      refine r_iload_n C (k := 2) rfl rfl dX11_leastWorkLimit_53 ?_
      obtain ⟨t8, ht8, hF⟩ := ob1_e hF
      refine r_callV C (d' := 10) [.int l2] (c_X11_goBy hW (show (sM Ω t6).2.1 = t6 from rfl) N l2 ht8 rfl) myX11_goBy wm8_53 ⟨_, _, _, _, (hW.ok k11), rfl, rfl, rfl, rfl⟩ rfl (kR rfl) (by decide) (kR rfl) rfl dX11_leastWorkLimit_54 ?_
      refine r_aload_n C (k := 0) rfl rfl dX11_leastWorkLimit_57 ?_
      refine r_aload_n C (k := 0) rfl rfl dX11_leastWorkLimit_58 ?_
      refine r_iload_n C (k := 1) rfl rfl dX11_leastWorkLimit_59 ?_
      obtain ⟨v9, hv9, hF⟩ := ob1_e hF
      refine r_callV C (d' := 2) [.int l1] (c_X11_hasNothingLeft hW (show (sM Ω t8).2.1 = t8 from rfl) N l1 hv9) myX11_hasNothingLeft wm9_56 ⟨_, _, _, _, (hW.ok k11), rfl, rfl, rfl, rfl⟩ rfl (kR rfl) (by decide) (kR rfl) rfl dX11_leastWorkLimit_60 ?_
      refine r_callS C (d' := 0) [.int (b2i v9)] (c_X11_truth v9 rfl) myX11_truth wm7_35 rfl (kR rfl) (by decide) (kR rfl) rfl dX11_leastWorkLimit_63 ?_
      obtain ⟨v10, t11, ht11, hF⟩ := ob_e hF
      refine r_callV C (d' := 1) [.int (F_X11_truth v9)] (c_X11_laidBack hW (show (sM Ω t8).2.1 = t8 from rfl) N (F_X11_truth v9) ht11 rfl) myX11_laidBack wm9_28 ⟨_, _, _, _, (hW.ok k11), rfl, rfl, rfl, rfl⟩ rfl (kR rfl) (by decide) (kR rfl) rfl dX11_leastWorkLimit_66 ?_
      refine r_iconst C (v := 1) rfl dX11_leastWorkLimit_69 ?_
      refine r_icmp_ne C (tgt := 75) rfl dX11_leastWorkLimit_70 (fun hc => ?_) (fun hc => ?_)
      · rw [if_neg hc] at hF
        refine r_iinc C (k := 3) (v := (l3 + 1)) (lo' := [(3, .int (l3 + 1)), (0, .ref (wAd w (11, 12, 0, 0))), (1, .int l1), (2, .int l2)]) rfl rfl (by decide) rfl dX11_leastWorkLimit_75 ?_
        refine r_goto C (tgt := 35) rfl dX11_leastWorkLimit_78 ?_
        cases hF
        change lpN n _ _ = some _ at hL
        refine r_lo [1, 2, 3, 0] (lo' := [(0, .ref (wAd w (11, 12, 0, 0))), (1, .int l1), (2, .int l2), (3, .int (l3 + 1))]) rfl ?_
        exact ih (l3 + 1) t11 hL
      · rw [if_pos hc] at hF
        refine r_iload_n C (k := 3) rfl rfl dX11_leastWorkLimit_73 ?_
        cases hF
        change some _ = some _ at hL
        cases hL
        exact r_ireturn C dX11_leastWorkLimit_74
theorem c_X11_leastWorkLimit {w : WP} (hW : gWM w) {Ω : OM}  {t : HV} (e : Ω.2.1 = t) (N : Nat) (a1 : Int32) (a2 : Int32) {v : Int32} {t' : HV} (hF : F_X11_leastWorkLimit N a1 a2 t = some (v, t')) {Ω' : OM} (e2 : (sM Ω t') = Ω') : gM w 11 yX11_leastWorkLimit cX11_leastWorkLimit 4 (some .int) [.ref (wAd w (11, 12, 0, 0)), .int a1, .int a2] (cA w Ω) (some (.int v)) (cA w Ω') := by
  refine gM_of "HedgeMessagesModel" rfl (by decide) (kR rfl) fun X C => ?_
  unfold F_X11_leastWorkLimit at hF
  subst e2
  show gV w X _ _ 0 [(0, .ref (wAd w (11, 12, 0, 0))), (1, .int a1), (2, .int a2)] []
  refine r_ct (ct' := cA w (sM Ω t)) (congrArg (cA w) (sM_i e).symm) ?_
  refine r_aload_n C (k := 0) rfl rfl dX11_leastWorkLimit_0 ?_
  refine r_iload_n C (k := 1) rfl rfl dX11_leastWorkLimit_1 ?_
  refine r_callS C (d' := 1) [.int a1] (c_X11_isGardener a1 rfl) myX11_isGardener wm8_193 rfl (kR rfl) (by decide) (kR rfl) rfl dX11_leastWorkLimit_2 ?_
  refine r_if_eq C (tgt := 24) rfl dX11_leastWorkLimit_5 (fun hc => ?_) (fun hc => ?_)
  · rw [if_neg (b2i_f hc)] at hF
    refine r_iconst C (v := 0) rfl dX11_leastWorkLimit_24 ?_
    obtain ⟨v1, t2, ht2, hF⟩ := lt2_e hF
    refine r_callV C (d' := 0) [.int (b2i false)] (c_X11_passes hW (show (sM Ω t).2.1 = t from rfl) false ht2 rfl) myX11_passes wm7_63 ⟨_, _, _, _, (hW.ok k11), rfl, rfl, rfl, rfl⟩ rfl (kR rfl) (by decide) (kR rfl) rfl dX11_leastWorkLimit_25 ?_
    refine r_if_ne C (tgt := 33) rfl dX11_leastWorkLimit_28 (fun hc => ?_) (fun hc => ?_)
    · rw [if_pos (b2i_t hc)] at hF
      refine r_iconst C (v := 1) rfl dX11_leastWorkLimit_33 ?_
      refine r_istore_n C (lo' := [(3, .int 1), (0, .ref (wAd w (11, 12, 0, 0))), (1, .int a1), (2, .int a2)]) rfl (by decide) rfl dX11_leastWorkLimit_34 ?_
      refine r_lo [1, 2, 3, 0] (lo' := [(0, .ref (wAd w (11, 12, 0, 0))), (1, .int a1), (2, .int a2), (3, .int 1)]) rfl ?_
      exact lp_X11_leastWorkLimit_35 hW a1 a2 C N 1 t2 hF
    · rw [if_neg (b2i_f hc)] at hF
      refine r_iconst C (v := 0) rfl dX11_leastWorkLimit_31 ?_
      cases hF
      exact r_ireturn C dX11_leastWorkLimit_32
  · rw [if_pos (b2i_t hc)] at hF
    refine r_iload_n C (k := 2) rfl rfl dX11_leastWorkLimit_8 ?_
    refine r_i2l C (v := ((a2 : Int32).toInt64)) rfl dX11_leastWorkLimit_9 ?_
    refine r_lconst C (v := 1) rfl dX11_leastWorkLimit_10 ?_
    refine r_ldc2 C wm9_39 dX11_leastWorkLimit_11 ?_
    refine r_callS C (d' := 0) [.long ((a2 : Int32).toInt64), .long (1 : Int64), .long (60 : Int64)] (c_X11_in ((a2 : Int32).toInt64) (1 : Int64) (60 : Int64) rfl) myX11_in wm6_208 rfl (kR rfl) (by decide) (kR rfl) rfl dX11_leastWorkLimit_14 ?_
    refine r_if_eq C (tgt := 24) rfl dX11_leastWorkLimit_17 (fun hc => ?_) (fun hc => ?_)
    · rw [if_neg (b2i_f hc)] at hF
      refine r_iconst C (v := 0) rfl dX11_leastWorkLimit_24 ?_
      obtain ⟨v12, t13, ht13, hF⟩ := lt2_e hF
      refine r_callV C (d' := 0) [.int (b2i false)] (c_X11_passes hW (show (sM Ω t).2.1 = t from rfl) false ht13 rfl) myX11_passes wm7_63 ⟨_, _, _, _, (hW.ok k11), rfl, rfl, rfl, rfl⟩ rfl (kR rfl) (by decide) (kR rfl) rfl dX11_leastWorkLimit_25 ?_
      refine r_if_ne C (tgt := 33) rfl dX11_leastWorkLimit_28 (fun hc => ?_) (fun hc => ?_)
      · rw [if_pos (b2i_t hc)] at hF
        refine r_iconst C (v := 1) rfl dX11_leastWorkLimit_33 ?_
        refine r_istore_n C (lo' := [(3, .int 1), (0, .ref (wAd w (11, 12, 0, 0))), (1, .int a1), (2, .int a2)]) rfl (by decide) rfl dX11_leastWorkLimit_34 ?_
        refine r_lo [1, 2, 3, 0] (lo' := [(0, .ref (wAd w (11, 12, 0, 0))), (1, .int a1), (2, .int a2), (3, .int 1)]) rfl ?_
        exact lp_X11_leastWorkLimit_35 hW a1 a2 C N 1 t13 hF
      · rw [if_neg (b2i_f hc)] at hF
        refine r_iconst C (v := 0) rfl dX11_leastWorkLimit_31 ?_
        cases hF
        exact r_ireturn C dX11_leastWorkLimit_32
    · rw [if_pos (b2i_t hc)] at hF
      refine r_iconst C (v := 1) rfl dX11_leastWorkLimit_20 ?_
      refine r_goto C (tgt := 25) rfl dX11_leastWorkLimit_21 ?_
      obtain ⟨v14, t15, ht15, hF⟩ := lt2_e hF
      refine r_callV C (d' := 0) [.int (b2i true)] (c_X11_passes hW (show (sM Ω t).2.1 = t from rfl) true ht15 rfl) myX11_passes wm7_63 ⟨_, _, _, _, (hW.ok k11), rfl, rfl, rfl, rfl⟩ rfl (kR rfl) (by decide) (kR rfl) rfl dX11_leastWorkLimit_25 ?_
      refine r_if_ne C (tgt := 33) rfl dX11_leastWorkLimit_28 (fun hc => ?_) (fun hc => ?_)
      · rw [if_pos (b2i_t hc)] at hF
        refine r_iconst C (v := 1) rfl dX11_leastWorkLimit_33 ?_
        refine r_istore_n C (lo' := [(3, .int 1), (0, .ref (wAd w (11, 12, 0, 0))), (1, .int a1), (2, .int a2)]) rfl (by decide) rfl dX11_leastWorkLimit_34 ?_
        refine r_lo [1, 2, 3, 0] (lo' := [(0, .ref (wAd w (11, 12, 0, 0))), (1, .int a1), (2, .int a2), (3, .int 1)]) rfl ?_
        exact lp_X11_leastWorkLimit_35 hW a1 a2 C N 1 t15 hF
      · rw [if_neg (b2i_f hc)] at hF
        refine r_iconst C (v := 0) rfl dX11_leastWorkLimit_31 ?_
        cases hF
        exact r_ireturn C dX11_leastWorkLimit_32
theorem dX11_counter_0 : decode cX11_counter 0 = .ok (.aload_n 0, 1) := by decide +kernel
theorem dX11_counter_1 : decode cX11_counter 1 = .ok (.iload_n 1, 1) := by decide +kernel
theorem dX11_counter_2 : decode cX11_counter 2 = .ok (.invokestatic 385, 3) := by decide +kernel
theorem dX11_counter_5 : decode cX11_counter 5 = .ok (.invokevirtual 221, 3) := by decide +kernel
theorem dX11_counter_8 : decode cX11_counter 8 = .ok (.ifCond .eq 14, 3) := by decide +kernel
theorem dX11_counter_11 : decode cX11_counter 11 = .ok (.aload_n 0, 1) := by decide +kernel
theorem dX11_counter_12 : decode cX11_counter 12 = .ok (.getfield 7, 3) := by decide +kernel
theorem dX11_counter_15 : decode cX11_counter 15 = .ok (.iload_n 2, 1) := by decide +kernel
theorem dX11_counter_16 : decode cX11_counter 16 = .ok (.iload_n 1, 1) := by decide +kernel
theorem dX11_counter_17 : decode cX11_counter 17 = .ok (.iadd, 1) := by decide +kernel
theorem dX11_counter_18 : decode cX11_counter 18 = .ok (.iaload, 1) := by decide +kernel
theorem dX11_counter_19 : decode cX11_counter 19 = .ok (.goto 4, 3) := by decide +kernel
theorem dX11_counter_22 : decode cX11_counter 22 = .ok (.iconst 0, 1) := by decide +kernel
theorem dX11_counter_23 : decode cX11_counter 23 = .ok (.ireturn, 1) := by decide +kernel
def F_X11_counter (a1 : Int32) (a2 : Int32) (t : HV) : Option (Int32 × (HV)) := (lt2 (F_X11_passes (F_X11_isGardener a1) t) fun v1 t2 => (if v1 = true then (if vpb (a2 + a1) 760 = true then some ((ag t2 0 (a2 + a1)), t2) else none) else some (0, t2)))
theorem c_X11_counter {w : WP} (hW : gWM w) {Ω : OM}  {t : HV} (e : Ω.2.1 = t) (a1 : Int32) (a2 : Int32) {v : Int32} {t' : HV} (hF : F_X11_counter a1 a2 t = some (v, t')) {Ω' : OM} (e2 : (sM Ω t') = Ω') : gM w 2 yX11_counter cX11_counter 3 (some .int) [.ref (wAd w (11, 12, 0, 0)), .int a1, .int a2] (cA w Ω) (some (.int v)) (cA w Ω') := by
  refine gM_of "HedgeMessagesModel" rfl (by decide) (kR rfl) fun X C => ?_
  unfold F_X11_counter at hF
  subst e2
  show gV w X _ _ 0 [(0, .ref (wAd w (11, 12, 0, 0))), (1, .int a1), (2, .int a2)] []
  refine r_ct (ct' := cA w (sM Ω t)) (congrArg (cA w) (sM_i e).symm) ?_
  refine r_aload_n C (k := 0) rfl rfl dX11_counter_0 ?_
  refine r_iload_n C (k := 1) rfl rfl dX11_counter_1 ?_
  refine r_callS C (d' := 1) [.int a1] (c_X11_isGardener a1 rfl) myX11_isGardener wm8_193 rfl (kR rfl) (by decide) (kR rfl) rfl dX11_counter_2 ?_
  obtain ⟨v1, t2, ht2, hF⟩ := lt2_e hF
  refine r_callV C (d' := 0) [.int (b2i (F_X11_isGardener a1))] (c_X11_passes hW (show (sM Ω t).2.1 = t from rfl) (F_X11_isGardener a1) ht2 rfl) myX11_passes wm7_63 ⟨_, _, _, _, (hW.ok k11), rfl, rfl, rfl, rfl⟩ rfl (kR rfl) (by decide) (kR rfl) rfl dX11_counter_5 ?_
  refine r_if_eq C (tgt := 22) rfl dX11_counter_8 (fun hc => ?_) (fun hc => ?_)
  · rw [if_neg (b2i_f hc)] at hF
    refine r_iconst C (v := 0) rfl dX11_counter_22 ?_
    cases hF
    exact r_ireturn C dX11_counter_23
  · rw [if_pos (b2i_t hc)] at hF
    refine r_aload_n C (k := 0) rfl rfl dX11_counter_11 ?_
    refine og_11_0 C (hW.ok k11) wm7_67 dX11_counter_12 ?_
    refine r_iload_n C (k := 2) rfl rfl dX11_counter_15 ?_
    refine r_iload_n C (k := 1) rfl rfl dX11_counter_16 ?_
    refine r_iadd C dX11_counter_17 ?_
    obtain ⟨b3, hF⟩ := gd_e hF
    refine m_ald C (hW.ok (k12 (a := 0) (by unfold okMa; decide))) (show (sM Ω t2).2.1 = t2 from rfl) rfl b3 dX11_counter_18 ?_
    refine r_goto C (tgt := 23) rfl dX11_counter_19 ?_
    cases hF
    exact r_ireturn C dX11_counter_23
theorem dX11_messagesQueued_0 : decode cX11_messagesQueued 0 = .ok (.aload_n 0, 1) := by decide +kernel
theorem dX11_messagesQueued_1 : decode cX11_messagesQueued 1 = .ok (.iload_n 1, 1) := by decide +kernel
theorem dX11_messagesQueued_2 : decode cX11_messagesQueued 2 = .ok (.bipush 14, 2) := by decide +kernel
theorem dX11_messagesQueued_4 : decode cX11_messagesQueued 4 = .ok (.invokevirtual 414, 3) := by decide +kernel
theorem dX11_messagesQueued_7 : decode cX11_messagesQueued 7 = .ok (.ireturn, 1) := by decide +kernel
def F_X11_messagesQueued (a1 : Int32) (t : HV) : Option (Int32 × (HV)) := (ob (F_X11_counter a1 14 t) fun v1 t2 => some (v1, t2))
theorem c_X11_messagesQueued {w : WP} (hW : gWM w) {Ω : OM}  {t : HV} (e : Ω.2.1 = t) (a1 : Int32) {v : Int32} {t' : HV} (hF : F_X11_messagesQueued a1 t = some (v, t')) {Ω' : OM} (e2 : (sM Ω t') = Ω') : gM w 3 yX11_messagesQueued cX11_messagesQueued 2 (some .int) [.ref (wAd w (11, 12, 0, 0)), .int a1] (cA w Ω) (some (.int v)) (cA w Ω') := by
  refine gM_of "HedgeMessagesModel" rfl (by decide) (kR rfl) fun X C => ?_
  unfold F_X11_messagesQueued at hF
  subst e2
  show gV w X _ _ 0 [(0, .ref (wAd w (11, 12, 0, 0))), (1, .int a1)] []
  refine r_ct (ct' := cA w (sM Ω t)) (congrArg (cA w) (sM_i e).symm) ?_
  refine r_aload_n C (k := 0) rfl rfl dX11_messagesQueued_0 ?_
  refine r_iload_n C (k := 1) rfl rfl dX11_messagesQueued_1 ?_
  refine r_bipush C (v := 14) rfl dX11_messagesQueued_2 ?_
  obtain ⟨v1, t2, ht2, hF⟩ := ob_e hF
  refine r_callV C (d' := 2) [.int a1, .int 14] (c_X11_counter hW (show (sM Ω t).2.1 = t from rfl) a1 14 ht2 rfl) myX11_counter wm9_64 ⟨_, _, _, _, (hW.ok k11), rfl, rfl, rfl, rfl⟩ rfl (kR rfl) (by decide) (kR rfl) rfl dX11_messagesQueued_4 ?_
  cases hF
  exact r_ireturn C dX11_messagesQueued_7
theorem dX11_messagesDelivered_0 : decode cX11_messagesDelivered 0 = .ok (.aload_n 0, 1) := by decide +kernel
theorem dX11_messagesDelivered_1 : decode cX11_messagesDelivered 1 = .ok (.iload_n 1, 1) := by decide +kernel
theorem dX11_messagesDelivered_2 : decode cX11_messagesDelivered 2 = .ok (.bipush 16, 2) := by decide +kernel
theorem dX11_messagesDelivered_4 : decode cX11_messagesDelivered 4 = .ok (.invokevirtual 414, 3) := by decide +kernel
theorem dX11_messagesDelivered_7 : decode cX11_messagesDelivered 7 = .ok (.ireturn, 1) := by decide +kernel
def F_X11_messagesDelivered (a1 : Int32) (t : HV) : Option (Int32 × (HV)) := (ob (F_X11_counter a1 16 t) fun v1 t2 => some (v1, t2))
theorem c_X11_messagesDelivered {w : WP} (hW : gWM w) {Ω : OM}  {t : HV} (e : Ω.2.1 = t) (a1 : Int32) {v : Int32} {t' : HV} (hF : F_X11_messagesDelivered a1 t = some (v, t')) {Ω' : OM} (e2 : (sM Ω t') = Ω') : gM w 3 yX11_messagesDelivered cX11_messagesDelivered 2 (some .int) [.ref (wAd w (11, 12, 0, 0)), .int a1] (cA w Ω) (some (.int v)) (cA w Ω') := by
  refine gM_of "HedgeMessagesModel" rfl (by decide) (kR rfl) fun X C => ?_
  unfold F_X11_messagesDelivered at hF
  subst e2
  show gV w X _ _ 0 [(0, .ref (wAd w (11, 12, 0, 0))), (1, .int a1)] []
  refine r_ct (ct' := cA w (sM Ω t)) (congrArg (cA w) (sM_i e).symm) ?_
  refine r_aload_n C (k := 0) rfl rfl dX11_messagesDelivered_0 ?_
  refine r_iload_n C (k := 1) rfl rfl dX11_messagesDelivered_1 ?_
  refine r_bipush C (v := 16) rfl dX11_messagesDelivered_2 ?_
  obtain ⟨v1, t2, ht2, hF⟩ := ob_e hF
  refine r_callV C (d' := 2) [.int a1, .int 16] (c_X11_counter hW (show (sM Ω t).2.1 = t from rfl) a1 16 ht2 rfl) myX11_counter wm9_64 ⟨_, _, _, _, (hW.ok k11), rfl, rfl, rfl, rfl⟩ rfl (kR rfl) (by decide) (kR rfl) rfl dX11_messagesDelivered_4 ?_
  cases hF
  exact r_ireturn C dX11_messagesDelivered_7
theorem dX11_messagesFailed_0 : decode cX11_messagesFailed 0 = .ok (.aload_n 0, 1) := by decide +kernel
theorem dX11_messagesFailed_1 : decode cX11_messagesFailed 1 = .ok (.iload_n 1, 1) := by decide +kernel
theorem dX11_messagesFailed_2 : decode cX11_messagesFailed 2 = .ok (.bipush 18, 2) := by decide +kernel
theorem dX11_messagesFailed_4 : decode cX11_messagesFailed 4 = .ok (.invokevirtual 414, 3) := by decide +kernel
theorem dX11_messagesFailed_7 : decode cX11_messagesFailed 7 = .ok (.ireturn, 1) := by decide +kernel
def F_X11_messagesFailed (a1 : Int32) (t : HV) : Option (Int32 × (HV)) := (ob (F_X11_counter a1 18 t) fun v1 t2 => some (v1, t2))
theorem c_X11_messagesFailed {w : WP} (hW : gWM w) {Ω : OM}  {t : HV} (e : Ω.2.1 = t) (a1 : Int32) {v : Int32} {t' : HV} (hF : F_X11_messagesFailed a1 t = some (v, t')) {Ω' : OM} (e2 : (sM Ω t') = Ω') : gM w 3 yX11_messagesFailed cX11_messagesFailed 2 (some .int) [.ref (wAd w (11, 12, 0, 0)), .int a1] (cA w Ω) (some (.int v)) (cA w Ω') := by
  refine gM_of "HedgeMessagesModel" rfl (by decide) (kR rfl) fun X C => ?_
  unfold F_X11_messagesFailed at hF
  subst e2
  show gV w X _ _ 0 [(0, .ref (wAd w (11, 12, 0, 0))), (1, .int a1)] []
  refine r_ct (ct' := cA w (sM Ω t)) (congrArg (cA w) (sM_i e).symm) ?_
  refine r_aload_n C (k := 0) rfl rfl dX11_messagesFailed_0 ?_
  refine r_iload_n C (k := 1) rfl rfl dX11_messagesFailed_1 ?_
  refine r_bipush C (v := 18) rfl dX11_messagesFailed_2 ?_
  obtain ⟨v1, t2, ht2, hF⟩ := ob_e hF
  refine r_callV C (d' := 2) [.int a1, .int 18] (c_X11_counter hW (show (sM Ω t).2.1 = t from rfl) a1 18 ht2 rfl) myX11_counter wm9_64 ⟨_, _, _, _, (hW.ok k11), rfl, rfl, rfl, rfl⟩ rfl (kR rfl) (by decide) (kR rfl) rfl dX11_messagesFailed_4 ?_
  cases hF
  exact r_ireturn C dX11_messagesFailed_7
theorem dX11_messagesDropped_0 : decode cX11_messagesDropped 0 = .ok (.aload_n 0, 1) := by decide +kernel
theorem dX11_messagesDropped_1 : decode cX11_messagesDropped 1 = .ok (.iload_n 1, 1) := by decide +kernel
theorem dX11_messagesDropped_2 : decode cX11_messagesDropped 2 = .ok (.bipush 20, 2) := by decide +kernel
theorem dX11_messagesDropped_4 : decode cX11_messagesDropped 4 = .ok (.invokevirtual 414, 3) := by decide +kernel
theorem dX11_messagesDropped_7 : decode cX11_messagesDropped 7 = .ok (.ireturn, 1) := by decide +kernel
def F_X11_messagesDropped (a1 : Int32) (t : HV) : Option (Int32 × (HV)) := (ob (F_X11_counter a1 20 t) fun v1 t2 => some (v1, t2))
theorem c_X11_messagesDropped {w : WP} (hW : gWM w) {Ω : OM}  {t : HV} (e : Ω.2.1 = t) (a1 : Int32) {v : Int32} {t' : HV} (hF : F_X11_messagesDropped a1 t = some (v, t')) {Ω' : OM} (e2 : (sM Ω t') = Ω') : gM w 3 yX11_messagesDropped cX11_messagesDropped 2 (some .int) [.ref (wAd w (11, 12, 0, 0)), .int a1] (cA w Ω) (some (.int v)) (cA w Ω') := by
  refine gM_of "HedgeMessagesModel" rfl (by decide) (kR rfl) fun X C => ?_
  unfold F_X11_messagesDropped at hF
  subst e2
  show gV w X _ _ 0 [(0, .ref (wAd w (11, 12, 0, 0))), (1, .int a1)] []
  refine r_ct (ct' := cA w (sM Ω t)) (congrArg (cA w) (sM_i e).symm) ?_
  refine r_aload_n C (k := 0) rfl rfl dX11_messagesDropped_0 ?_
  refine r_iload_n C (k := 1) rfl rfl dX11_messagesDropped_1 ?_
  refine r_bipush C (v := 20) rfl dX11_messagesDropped_2 ?_
  obtain ⟨v1, t2, ht2, hF⟩ := ob_e hF
  refine r_callV C (d' := 2) [.int a1, .int 20] (c_X11_counter hW (show (sM Ω t).2.1 = t from rfl) a1 20 ht2 rfl) myX11_counter wm9_64 ⟨_, _, _, _, (hW.ok k11), rfl, rfl, rfl, rfl⟩ rfl (kR rfl) (by decide) (kR rfl) rfl dX11_messagesDropped_4 ?_
  cases hF
  exact r_ireturn C dX11_messagesDropped_7
theorem dX11_twigsPlanted_0 : decode cX11_twigsPlanted 0 = .ok (.aload_n 0, 1) := by decide +kernel
theorem dX11_twigsPlanted_1 : decode cX11_twigsPlanted 1 = .ok (.iconst 0, 1) := by decide +kernel
theorem dX11_twigsPlanted_2 : decode cX11_twigsPlanted 2 = .ok (.putfield 58, 3) := by decide +kernel
theorem dX11_twigsPlanted_5 : decode cX11_twigsPlanted 5 = .ok (.aload_n 0, 1) := by decide +kernel
theorem dX11_twigsPlanted_6 : decode cX11_twigsPlanted 6 = .ok (.getfield 7, 3) := by decide +kernel
theorem dX11_twigsPlanted_9 : decode cX11_twigsPlanted 9 = .ok (.bipush 8, 2) := by decide +kernel
theorem dX11_twigsPlanted_11 : decode cX11_twigsPlanted 11 = .ok (.iaload, 1) := by decide +kernel
theorem dX11_twigsPlanted_12 : decode cX11_twigsPlanted 12 = .ok (.ireturn, 1) := by decide +kernel
def F_X11_twigsPlanted (t : HV) : Option (Int32 × (HV)) := (lt (sS t 6 0) fun t1 => (if vpb 8 760 = true then some ((ag t1 0 8), t1) else none))
theorem c_X11_twigsPlanted {w : WP} (hW : gWM w) {Ω : OM}  {t : HV} (e : Ω.2.1 = t)  {v : Int32} {t' : HV} (hF : F_X11_twigsPlanted t = some (v, t')) {Ω' : OM} (e2 : (sM Ω t') = Ω') : gM w 0 yX11_twigsPlanted cX11_twigsPlanted 1 (some .int) [.ref (wAd w (11, 12, 0, 0))] (cA w Ω) (some (.int v)) (cA w Ω') := by
  refine gM_of "HedgeMessagesModel" rfl (by decide) (kR rfl) fun X C => ?_
  unfold F_X11_twigsPlanted at hF
  subst e2
  show gV w X _ _ 0 [(0, .ref (wAd w (11, 12, 0, 0)))] []
  refine r_ct (ct' := cA w (sM Ω t)) (congrArg (cA w) (sM_i e).symm) ?_
  refine r_aload_n C (k := 0) rfl rfl dX11_twigsPlanted_0 ?_
  refine r_iconst C (v := 0) rfl dX11_twigsPlanted_1 ?_
  obtain ⟨t1, et1, hF⟩ := lt_e hF
  refine op_11_6 C hW.x (hW.fr k11) (show (sM Ω t).2.1 = t from rfl) wm7_73 dX11_twigsPlanted_2 (congrArg (sM Ω) et1) ?_
  refine r_aload_n C (k := 0) rfl rfl dX11_twigsPlanted_5 ?_
  refine og_11_0 C (hW.ok k11) wm7_67 dX11_twigsPlanted_6 ?_
  refine r_bipush C (v := 8) rfl dX11_twigsPlanted_9 ?_
  obtain ⟨b2, hF⟩ := gd_e hF
  refine m_ald C (hW.ok (k12 (a := 0) (by unfold okMa; decide))) (show (sM Ω t1).2.1 = t1 from rfl) rfl b2 dX11_twigsPlanted_11 ?_
  cases hF
  exact r_ireturn C dX11_twigsPlanted_12
theorem dX11_twigsPruned_0 : decode cX11_twigsPruned 0 = .ok (.aload_n 0, 1) := by decide +kernel
theorem dX11_twigsPruned_1 : decode cX11_twigsPruned 1 = .ok (.iconst 0, 1) := by decide +kernel
theorem dX11_twigsPruned_2 : decode cX11_twigsPruned 2 = .ok (.putfield 58, 3) := by decide +kernel
theorem dX11_twigsPruned_5 : decode cX11_twigsPruned 5 = .ok (.aload_n 0, 1) := by decide +kernel
theorem dX11_twigsPruned_6 : decode cX11_twigsPruned 6 = .ok (.getfield 7, 3) := by decide +kernel
theorem dX11_twigsPruned_9 : decode cX11_twigsPruned 9 = .ok (.bipush 9, 2) := by decide +kernel
theorem dX11_twigsPruned_11 : decode cX11_twigsPruned 11 = .ok (.iaload, 1) := by decide +kernel
theorem dX11_twigsPruned_12 : decode cX11_twigsPruned 12 = .ok (.ireturn, 1) := by decide +kernel
def F_X11_twigsPruned (t : HV) : Option (Int32 × (HV)) := (lt (sS t 6 0) fun t1 => (if vpb 9 760 = true then some ((ag t1 0 9), t1) else none))
theorem c_X11_twigsPruned {w : WP} (hW : gWM w) {Ω : OM}  {t : HV} (e : Ω.2.1 = t)  {v : Int32} {t' : HV} (hF : F_X11_twigsPruned t = some (v, t')) {Ω' : OM} (e2 : (sM Ω t') = Ω') : gM w 0 yX11_twigsPruned cX11_twigsPruned 1 (some .int) [.ref (wAd w (11, 12, 0, 0))] (cA w Ω) (some (.int v)) (cA w Ω') := by
  refine gM_of "HedgeMessagesModel" rfl (by decide) (kR rfl) fun X C => ?_
  unfold F_X11_twigsPruned at hF
  subst e2
  show gV w X _ _ 0 [(0, .ref (wAd w (11, 12, 0, 0)))] []
  refine r_ct (ct' := cA w (sM Ω t)) (congrArg (cA w) (sM_i e).symm) ?_
  refine r_aload_n C (k := 0) rfl rfl dX11_twigsPruned_0 ?_
  refine r_iconst C (v := 0) rfl dX11_twigsPruned_1 ?_
  obtain ⟨t1, et1, hF⟩ := lt_e hF
  refine op_11_6 C hW.x (hW.fr k11) (show (sM Ω t).2.1 = t from rfl) wm7_73 dX11_twigsPruned_2 (congrArg (sM Ω) et1) ?_
  refine r_aload_n C (k := 0) rfl rfl dX11_twigsPruned_5 ?_
  refine og_11_0 C (hW.ok k11) wm7_67 dX11_twigsPruned_6 ?_
  refine r_bipush C (v := 9) rfl dX11_twigsPruned_9 ?_
  obtain ⟨b2, hF⟩ := gd_e hF
  refine m_ald C (hW.ok (k12 (a := 0) (by unfold okMa; decide))) (show (sM Ω t1).2.1 = t1 from rfl) rfl b2 dX11_twigsPruned_11 ?_
  cases hF
  exact r_ireturn C dX11_twigsPruned_12
theorem dX11_twigsRemoved_0 : decode cX11_twigsRemoved 0 = .ok (.aload_n 0, 1) := by decide +kernel
theorem dX11_twigsRemoved_1 : decode cX11_twigsRemoved 1 = .ok (.iconst 0, 1) := by decide +kernel
theorem dX11_twigsRemoved_2 : decode cX11_twigsRemoved 2 = .ok (.putfield 58, 3) := by decide +kernel
theorem dX11_twigsRemoved_5 : decode cX11_twigsRemoved 5 = .ok (.aload_n 0, 1) := by decide +kernel
theorem dX11_twigsRemoved_6 : decode cX11_twigsRemoved 6 = .ok (.getfield 7, 3) := by decide +kernel
theorem dX11_twigsRemoved_9 : decode cX11_twigsRemoved 9 = .ok (.bipush 10, 2) := by decide +kernel
theorem dX11_twigsRemoved_11 : decode cX11_twigsRemoved 11 = .ok (.iaload, 1) := by decide +kernel
theorem dX11_twigsRemoved_12 : decode cX11_twigsRemoved 12 = .ok (.ireturn, 1) := by decide +kernel
def F_X11_twigsRemoved (t : HV) : Option (Int32 × (HV)) := (lt (sS t 6 0) fun t1 => (if vpb 10 760 = true then some ((ag t1 0 10), t1) else none))
theorem c_X11_twigsRemoved {w : WP} (hW : gWM w) {Ω : OM}  {t : HV} (e : Ω.2.1 = t)  {v : Int32} {t' : HV} (hF : F_X11_twigsRemoved t = some (v, t')) {Ω' : OM} (e2 : (sM Ω t') = Ω') : gM w 0 yX11_twigsRemoved cX11_twigsRemoved 1 (some .int) [.ref (wAd w (11, 12, 0, 0))] (cA w Ω) (some (.int v)) (cA w Ω') := by
  refine gM_of "HedgeMessagesModel" rfl (by decide) (kR rfl) fun X C => ?_
  unfold F_X11_twigsRemoved at hF
  subst e2
  show gV w X _ _ 0 [(0, .ref (wAd w (11, 12, 0, 0)))] []
  refine r_ct (ct' := cA w (sM Ω t)) (congrArg (cA w) (sM_i e).symm) ?_
  refine r_aload_n C (k := 0) rfl rfl dX11_twigsRemoved_0 ?_
  refine r_iconst C (v := 0) rfl dX11_twigsRemoved_1 ?_
  obtain ⟨t1, et1, hF⟩ := lt_e hF
  refine op_11_6 C hW.x (hW.fr k11) (show (sM Ω t).2.1 = t from rfl) wm7_73 dX11_twigsRemoved_2 (congrArg (sM Ω) et1) ?_
  refine r_aload_n C (k := 0) rfl rfl dX11_twigsRemoved_5 ?_
  refine og_11_0 C (hW.ok k11) wm7_67 dX11_twigsRemoved_6 ?_
  refine r_bipush C (v := 10) rfl dX11_twigsRemoved_9 ?_
  obtain ⟨b2, hF⟩ := gd_e hF
  refine m_ald C (hW.ok (k12 (a := 0) (by unfold okMa; decide))) (show (sM Ω t1).2.1 = t1 from rfl) rfl b2 dX11_twigsRemoved_11 ?_
  cases hF
  exact r_ireturn C dX11_twigsRemoved_12
theorem dX11_twigImbalance_0 : decode cX11_twigImbalance 0 = .ok (.aload_n 0, 1) := by decide +kernel
theorem dX11_twigImbalance_1 : decode cX11_twigImbalance 1 = .ok (.iconst 0, 1) := by decide +kernel
theorem dX11_twigImbalance_2 : decode cX11_twigImbalance 2 = .ok (.putfield 58, 3) := by decide +kernel
theorem dX11_twigImbalance_5 : decode cX11_twigImbalance 5 = .ok (.aload_n 0, 1) := by decide +kernel
theorem dX11_twigImbalance_6 : decode cX11_twigImbalance 6 = .ok (.getfield 7, 3) := by decide +kernel
theorem dX11_twigImbalance_9 : decode cX11_twigImbalance 9 = .ok (.bipush 8, 2) := by decide +kernel
theorem dX11_twigImbalance_11 : decode cX11_twigImbalance 11 = .ok (.iaload, 1) := by decide +kernel
theorem dX11_twigImbalance_12 : decode cX11_twigImbalance 12 = .ok (.aload_n 0, 1) := by decide +kernel
theorem dX11_twigImbalance_13 : decode cX11_twigImbalance 13 = .ok (.getfield 7, 3) := by decide +kernel
theorem dX11_twigImbalance_16 : decode cX11_twigImbalance 16 = .ok (.bipush 9, 2) := by decide +kernel
theorem dX11_twigImbalance_18 : decode cX11_twigImbalance 18 = .ok (.iaload, 1) := by decide +kernel
theorem dX11_twigImbalance_19 : decode cX11_twigImbalance 19 = .ok (.isub, 1) := by decide +kernel
theorem dX11_twigImbalance_20 : decode cX11_twigImbalance 20 = .ok (.aload_n 0, 1) := by decide +kernel
theorem dX11_twigImbalance_21 : decode cX11_twigImbalance 21 = .ok (.getfield 7, 3) := by decide +kernel
theorem dX11_twigImbalance_24 : decode cX11_twigImbalance 24 = .ok (.bipush 10, 2) := by decide +kernel
theorem dX11_twigImbalance_26 : decode cX11_twigImbalance 26 = .ok (.iaload, 1) := by decide +kernel
theorem dX11_twigImbalance_27 : decode cX11_twigImbalance 27 = .ok (.isub, 1) := by decide +kernel
theorem dX11_twigImbalance_28 : decode cX11_twigImbalance 28 = .ok (.aload_n 0, 1) := by decide +kernel
theorem dX11_twigImbalance_29 : decode cX11_twigImbalance 29 = .ok (.invokevirtual 197, 3) := by decide +kernel
theorem dX11_twigImbalance_32 : decode cX11_twigImbalance 32 = .ok (.isub, 1) := by decide +kernel
theorem dX11_twigImbalance_33 : decode cX11_twigImbalance 33 = .ok (.ireturn, 1) := by decide +kernel
def F_X11_twigImbalance (N : Nat) (t : HV) : Option (Int32 × (HV)) := (lt (sS t 6 0) fun t1 => (if vpb 8 760 = true then (if vpb 9 760 = true then (if vpb 10 760 = true then (ob1 (F_X11_twigs N t1) fun v5 => some (((((ag t1 0 8) - (ag t1 0 9)) - (ag t1 0 10)) - v5), t1)) else none) else none) else none))
theorem c_X11_twigImbalance {w : WP} (hW : gWM w) {Ω : OM}  {t : HV} (e : Ω.2.1 = t) (N : Nat)  {v : Int32} {t' : HV} (hF : F_X11_twigImbalance N t = some (v, t')) {Ω' : OM} (e2 : (sM Ω t') = Ω') : gM w 3 yX11_twigImbalance cX11_twigImbalance 1 (some .int) [.ref (wAd w (11, 12, 0, 0))] (cA w Ω) (some (.int v)) (cA w Ω') := by
  refine gM_of "HedgeMessagesModel" rfl (by decide) (kR rfl) fun X C => ?_
  unfold F_X11_twigImbalance at hF
  subst e2
  show gV w X _ _ 0 [(0, .ref (wAd w (11, 12, 0, 0)))] []
  refine r_ct (ct' := cA w (sM Ω t)) (congrArg (cA w) (sM_i e).symm) ?_
  refine r_aload_n C (k := 0) rfl rfl dX11_twigImbalance_0 ?_
  refine r_iconst C (v := 0) rfl dX11_twigImbalance_1 ?_
  obtain ⟨t1, et1, hF⟩ := lt_e hF
  refine op_11_6 C hW.x (hW.fr k11) (show (sM Ω t).2.1 = t from rfl) wm7_73 dX11_twigImbalance_2 (congrArg (sM Ω) et1) ?_
  refine r_aload_n C (k := 0) rfl rfl dX11_twigImbalance_5 ?_
  refine og_11_0 C (hW.ok k11) wm7_67 dX11_twigImbalance_6 ?_
  refine r_bipush C (v := 8) rfl dX11_twigImbalance_9 ?_
  obtain ⟨b2, hF⟩ := gd_e hF
  refine m_ald C (hW.ok (k12 (a := 0) (by unfold okMa; decide))) (show (sM Ω t1).2.1 = t1 from rfl) rfl b2 dX11_twigImbalance_11 ?_
  refine r_aload_n C (k := 0) rfl rfl dX11_twigImbalance_12 ?_
  refine og_11_0 C (hW.ok k11) wm7_67 dX11_twigImbalance_13 ?_
  refine r_bipush C (v := 9) rfl dX11_twigImbalance_16 ?_
  obtain ⟨b3, hF⟩ := gd_e hF
  refine m_ald C (hW.ok (k12 (a := 0) (by unfold okMa; decide))) (show (sM Ω t1).2.1 = t1 from rfl) rfl b3 dX11_twigImbalance_18 ?_
  refine r_isub C dX11_twigImbalance_19 ?_
  refine r_aload_n C (k := 0) rfl rfl dX11_twigImbalance_20 ?_
  refine og_11_0 C (hW.ok k11) wm7_67 dX11_twigImbalance_21 ?_
  refine r_bipush C (v := 10) rfl dX11_twigImbalance_24 ?_
  obtain ⟨b4, hF⟩ := gd_e hF
  refine m_ald C (hW.ok (k12 (a := 0) (by unfold okMa; decide))) (show (sM Ω t1).2.1 = t1 from rfl) rfl b4 dX11_twigImbalance_26 ?_
  refine r_isub C dX11_twigImbalance_27 ?_
  refine r_aload_n C (k := 0) rfl rfl dX11_twigImbalance_28 ?_
  obtain ⟨v5, hv5, hF⟩ := ob1_e hF
  refine r_callV C (d' := 2) [] (c_X11_twigs hW (show (sM Ω t1).2.1 = t1 from rfl) N hv5) myX11_twigs wm7_230 ⟨_, _, _, _, (hW.ok k11), rfl, rfl, rfl, rfl⟩ rfl (kR rfl) (by decide) (kR rfl) rfl dX11_twigImbalance_29 ?_
  refine r_isub C dX11_twigImbalance_32 ?_
  cases hF
  exact r_ireturn C dX11_twigImbalance_33
theorem dX11_messageImbalance_0 : decode cX11_messageImbalance 0 = .ok (.aload_n 0, 1) := by decide +kernel
theorem dX11_messageImbalance_1 : decode cX11_messageImbalance 1 = .ok (.iconst 0, 1) := by decide +kernel
theorem dX11_messageImbalance_2 : decode cX11_messageImbalance 2 = .ok (.putfield 58, 3) := by decide +kernel
theorem dX11_messageImbalance_5 : decode cX11_messageImbalance 5 = .ok (.aload_n 0, 1) := by decide +kernel
theorem dX11_messageImbalance_6 : decode cX11_messageImbalance 6 = .ok (.getfield 7, 3) := by decide +kernel
theorem dX11_messageImbalance_9 : decode cX11_messageImbalance 9 = .ok (.bipush 11, 2) := by decide +kernel
theorem dX11_messageImbalance_11 : decode cX11_messageImbalance 11 = .ok (.iaload, 1) := by decide +kernel
theorem dX11_messageImbalance_12 : decode cX11_messageImbalance 12 = .ok (.ineg, 1) := by decide +kernel
theorem dX11_messageImbalance_13 : decode cX11_messageImbalance 13 = .ok (.istore_n 1, 1) := by decide +kernel
theorem dX11_messageImbalance_14 : decode cX11_messageImbalance 14 = .ok (.iconst 0, 1) := by decide +kernel
theorem dX11_messageImbalance_15 : decode cX11_messageImbalance 15 = .ok (.istore_n 2, 1) := by decide +kernel
theorem dX11_messageImbalance_16 : decode cX11_messageImbalance 16 = .ok (.iload_n 2, 1) := by decide +kernel
theorem dX11_messageImbalance_17 : decode cX11_messageImbalance 17 = .ok (.iconst 2, 1) := by decide +kernel
theorem dX11_messageImbalance_18 : decode cX11_messageImbalance 18 = .ok (.if_icmp .ge 60, 3) := by decide +kernel
theorem dX11_messageImbalance_21 : decode cX11_messageImbalance 21 = .ok (.iload_n 1, 1) := by decide +kernel
theorem dX11_messageImbalance_22 : decode cX11_messageImbalance 22 = .ok (.aload_n 0, 1) := by decide +kernel
theorem dX11_messageImbalance_23 : decode cX11_messageImbalance 23 = .ok (.getfield 7, 3) := by decide +kernel
theorem dX11_messageImbalance_26 : decode cX11_messageImbalance 26 = .ok (.bipush 14, 2) := by decide +kernel
theorem dX11_messageImbalance_28 : decode cX11_messageImbalance 28 = .ok (.iload_n 2, 1) := by decide +kernel
theorem dX11_messageImbalance_29 : decode cX11_messageImbalance 29 = .ok (.iadd, 1) := by decide +kernel
theorem dX11_messageImbalance_30 : decode cX11_messageImbalance 30 = .ok (.iaload, 1) := by decide +kernel
theorem dX11_messageImbalance_31 : decode cX11_messageImbalance 31 = .ok (.aload_n 0, 1) := by decide +kernel
theorem dX11_messageImbalance_32 : decode cX11_messageImbalance 32 = .ok (.getfield 7, 3) := by decide +kernel
theorem dX11_messageImbalance_35 : decode cX11_messageImbalance 35 = .ok (.bipush 16, 2) := by decide +kernel
theorem dX11_messageImbalance_37 : decode cX11_messageImbalance 37 = .ok (.iload_n 2, 1) := by decide +kernel
theorem dX11_messageImbalance_38 : decode cX11_messageImbalance 38 = .ok (.iadd, 1) := by decide +kernel
theorem dX11_messageImbalance_39 : decode cX11_messageImbalance 39 = .ok (.iaload, 1) := by decide +kernel
theorem dX11_messageImbalance_40 : decode cX11_messageImbalance 40 = .ok (.isub, 1) := by decide +kernel
theorem dX11_messageImbalance_41 : decode cX11_messageImbalance 41 = .ok (.aload_n 0, 1) := by decide +kernel
theorem dX11_messageImbalance_42 : decode cX11_messageImbalance 42 = .ok (.getfield 7, 3) := by decide +kernel
theorem dX11_messageImbalance_45 : decode cX11_messageImbalance 45 = .ok (.bipush 20, 2) := by decide +kernel
theorem dX11_messageImbalance_47 : decode cX11_messageImbalance 47 = .ok (.iload_n 2, 1) := by decide +kernel
theorem dX11_messageImbalance_48 : decode cX11_messageImbalance 48 = .ok (.iadd, 1) := by decide +kernel
theorem dX11_messageImbalance_49 : decode cX11_messageImbalance 49 = .ok (.iaload, 1) := by decide +kernel
theorem dX11_messageImbalance_50 : decode cX11_messageImbalance 50 = .ok (.isub, 1) := by decide +kernel
theorem dX11_messageImbalance_51 : decode cX11_messageImbalance 51 = .ok (.aload_n 0, 1) := by decide +kernel
theorem dX11_messageImbalance_52 : decode cX11_messageImbalance 52 = .ok (.getfield 7, 3) := by decide +kernel
theorem dX11_messageImbalance_55 : decode cX11_messageImbalance 55 = .ok (.bipush 12, 2) := by decide +kernel
theorem dX11_messageImbalance_57 : decode cX11_messageImbalance 57 = .ok (.iload_n 2, 1) := by decide +kernel
theorem dX11_messageImbalance_58 : decode cX11_messageImbalance 58 = .ok (.iadd, 1) := by decide +kernel
theorem dX11_messageImbalance_59 : decode cX11_messageImbalance 59 = .ok (.iaload, 1) := by decide +kernel
theorem dX11_messageImbalance_60 : decode cX11_messageImbalance 60 = .ok (.isub, 1) := by decide +kernel
theorem dX11_messageImbalance_61 : decode cX11_messageImbalance 61 = .ok (.aload_n 0, 1) := by decide +kernel
theorem dX11_messageImbalance_62 : decode cX11_messageImbalance 62 = .ok (.iload_n 2, 1) := by decide +kernel
theorem dX11_messageImbalance_63 : decode cX11_messageImbalance 63 = .ok (.invokevirtual 134, 3) := by decide +kernel
theorem dX11_messageImbalance_66 : decode cX11_messageImbalance 66 = .ok (.invokestatic 80, 3) := by decide +kernel
theorem dX11_messageImbalance_69 : decode cX11_messageImbalance 69 = .ok (.isub, 1) := by decide +kernel
theorem dX11_messageImbalance_70 : decode cX11_messageImbalance 70 = .ok (.iadd, 1) := by decide +kernel
theorem dX11_messageImbalance_71 : decode cX11_messageImbalance 71 = .ok (.istore_n 1, 1) := by decide +kernel
theorem dX11_messageImbalance_72 : decode cX11_messageImbalance 72 = .ok (.iinc 2 1, 3) := by decide +kernel
theorem dX11_messageImbalance_75 : decode cX11_messageImbalance 75 = .ok (.goto (-59), 3) := by decide +kernel
theorem dX11_messageImbalance_78 : decode cX11_messageImbalance 78 = .ok (.iload_n 1, 1) := by decide +kernel
theorem dX11_messageImbalance_79 : decode cX11_messageImbalance 79 = .ok (.ireturn, 1) := by decide +kernel
def st_X11_messageImbalance_16 (N : Nat) (l1 : Int32) (l2 : Int32) (t : HV) : Option ((Int32 × Int32 × HV) ⊕ (Int32 × (HV))) := (if 2 ≤ l2 then some (.inr (l1, t)) else (if vpb (14 + l2) 760 = true then (if vpb (16 + l2) 760 = true then (if vpb (20 + l2) 760 = true then (if vpb (12 + l2) 760 = true then (ob1 (F_X11_isInProgress l2 t) fun v7 => some (.inl ((l1 + (((((ag t 0 (14 + l2)) - (ag t 0 (16 + l2))) - (ag t 0 (20 + l2))) - (ag t 0 (12 + l2))) - (F_X11_truth v7))), (l2 + 1), t))) else none) else none) else none) else none))
def F_X11_messageImbalance (N : Nat) (t : HV) : Option (Int32 × (HV)) := (lt (sS t 6 0) fun t1 => (if vpb 11 760 = true then (lpN N (fun z => st_X11_messageImbalance_16 N z.1 z.2.1 z.2.2) ((-(ag t1 0 11)), 0, t1)) else none))
theorem lp_X11_messageImbalance_16 {w : WP} (hW : gWM w) {Ω : OM}    {N : Nat} {X : CX} (C : gC w X cX11_messageImbalance "HedgeMessagesModel" (some .int) 2 3) {v : Int32} {t' : HV}  : ∀ (n : Nat) (l1 : Int32) (l2 : Int32) (t : HV), lpN n (fun z : Int32 × Int32 × HV => st_X11_messageImbalance_16 N z.1 z.2.1 z.2.2) (l1, l2, t) = some (v, t') → gV w X (some (.int v), cA w (sM Ω t')) (cA w (sM Ω t)) 16 [(0, .ref (wAd w (11, 12, 0, 0))), (1, .int l1), (2, .int l2)] [] := by
  intro n
  induction n with
  | zero => intro l1 l2 t hL; exact lpN_0 hL
  | succ n ih =>
    intro l1 l2 t hL
    obtain ⟨q9, hF, hL⟩ := lpN_e hL
    change st_X11_messageImbalance_16 N l1 l2 t = some q9 at hF
    unfold st_X11_messageImbalance_16 at hF
    refine r_iload_n C (k := 2) rfl rfl dX11_messageImbalance_16 ?_
    refine r_iconst C (v := 2) rfl dX11_messageImbalance_17 ?_
    refine r_icmp_ge C (tgt := 78) rfl dX11_messageImbalance_18 (fun hc => ?_) (fun hc => ?_)
    · rw [if_pos hc] at hF
      refine r_iload_n C (k := 1) rfl rfl dX11_messageImbalance_78 ?_
      cases hF
      change some _ = some _ at hL
      cases hL
      exact r_ireturn C dX11_messageImbalance_79
    · rw [if_neg hc] at hF
      refine r_iload_n C (k := 1) rfl rfl dX11_messageImbalance_21 ?_
      refine r_aload_n C (k := 0) rfl rfl dX11_messageImbalance_22 ?_
      refine og_11_0 C (hW.ok k11) wm7_67 dX11_messageImbalance_23 ?_
      refine r_bipush C (v := 14) rfl dX11_messageImbalance_26 ?_
      refine r_iload_n C (k := 2) rfl rfl dX11_messageImbalance_28 ?_
      refine r_iadd C dX11_messageImbalance_29 ?_
      obtain ⟨b3, hF⟩ := gd_e hF
      refine m_ald C (hW.ok (k12 (a := 0) (by unfold okMa; decide))) (show (sM Ω t).2.1 = t from rfl) rfl b3 dX11_messageImbalance_30 ?_
      refine r_aload_n C (k := 0) rfl rfl dX11_messageImbalance_31 ?_
      refine og_11_0 C (hW.ok k11) wm7_67 dX11_messageImbalance_32 ?_
      refine r_bipush C (v := 16) rfl dX11_messageImbalance_35 ?_
      refine r_iload_n C (k := 2) rfl rfl dX11_messageImbalance_37 ?_
      refine r_iadd C dX11_messageImbalance_38 ?_
      obtain ⟨b4, hF⟩ := gd_e hF
      refine m_ald C (hW.ok (k12 (a := 0) (by unfold okMa; decide))) (show (sM Ω t).2.1 = t from rfl) rfl b4 dX11_messageImbalance_39 ?_
      refine r_isub C dX11_messageImbalance_40 ?_
      refine r_aload_n C (k := 0) rfl rfl dX11_messageImbalance_41 ?_
      refine og_11_0 C (hW.ok k11) wm7_67 dX11_messageImbalance_42 ?_
      refine r_bipush C (v := 20) rfl dX11_messageImbalance_45 ?_
      refine r_iload_n C (k := 2) rfl rfl dX11_messageImbalance_47 ?_
      refine r_iadd C dX11_messageImbalance_48 ?_
      obtain ⟨b5, hF⟩ := gd_e hF
      refine m_ald C (hW.ok (k12 (a := 0) (by unfold okMa; decide))) (show (sM Ω t).2.1 = t from rfl) rfl b5 dX11_messageImbalance_49 ?_
      refine r_isub C dX11_messageImbalance_50 ?_
      refine r_aload_n C (k := 0) rfl rfl dX11_messageImbalance_51 ?_
      refine og_11_0 C (hW.ok k11) wm7_67 dX11_messageImbalance_52 ?_
      refine r_bipush C (v := 12) rfl dX11_messageImbalance_55 ?_
      refine r_iload_n C (k := 2) rfl rfl dX11_messageImbalance_57 ?_
      refine r_iadd C dX11_messageImbalance_58 ?_
      obtain ⟨b6, hF⟩ := gd_e hF
      refine m_ald C (hW.ok (k12 (a := 0) (by unfold okMa; decide))) (show (sM Ω t).2.1 = t from rfl) rfl b6 dX11_messageImbalance_59 ?_
      refine r_isub C dX11_messageImbalance_60 ?_
      refine r_aload_n C (k := 0) rfl rfl dX11_messageImbalance_61 ?_
      refine r_iload_n C (k := 2) rfl rfl dX11_messageImbalance_62 ?_
      obtain ⟨v7, hv7, hF⟩ := ob1_e hF
      refine r_callV C (d' := 1) [.int l2] (c_X11_isInProgress hW (show (sM Ω t).2.1 = t from rfl) l2 hv7) myX11_isInProgress wm8_81 ⟨_, _, _, _, (hW.ok k11), rfl, rfl, rfl, rfl⟩ rfl (kR rfl) (by decide) (kR rfl) rfl dX11_messageImbalance_63 ?_
      refine r_callS C (d' := 0) [.int (b2i v7)] (c_X11_truth v7 rfl) myX11_truth wm7_35 rfl (kR rfl) (by decide) (kR rfl) rfl dX11_messageImbalance_66 ?_
      refine r_isub C dX11_messageImbalance_69 ?_
      refine r_iadd C dX11_messageImbalance_70 ?_
      refine r_istore_n C (lo' := [(1, .int (l1 + (((((ag t 0 (14 + l2)) - (ag t 0 (16 + l2))) - (ag t 0 (20 + l2))) - (ag t 0 (12 + l2))) - (F_X11_truth v7)))), (0, .ref (wAd w (11, 12, 0, 0))), (2, .int l2)]) rfl (by decide) rfl dX11_messageImbalance_71 ?_
      refine r_iinc C (k := 2) (v := (l2 + 1)) (lo' := [(2, .int (l2 + 1)), (1, .int (l1 + (((((ag t 0 (14 + l2)) - (ag t 0 (16 + l2))) - (ag t 0 (20 + l2))) - (ag t 0 (12 + l2))) - (F_X11_truth v7)))), (0, .ref (wAd w (11, 12, 0, 0)))]) rfl rfl (by decide) rfl dX11_messageImbalance_72 ?_
      refine r_goto C (tgt := 16) rfl dX11_messageImbalance_75 ?_
      cases hF
      change lpN n _ _ = some _ at hL
      refine r_lo [2, 1, 0] (lo' := [(0, .ref (wAd w (11, 12, 0, 0))), (1, .int (l1 + (((((ag t 0 (14 + l2)) - (ag t 0 (16 + l2))) - (ag t 0 (20 + l2))) - (ag t 0 (12 + l2))) - (F_X11_truth v7)))), (2, .int (l2 + 1))]) rfl ?_
      exact ih (l1 + (((((ag t 0 (14 + l2)) - (ag t 0 (16 + l2))) - (ag t 0 (20 + l2))) - (ag t 0 (12 + l2))) - (F_X11_truth v7))) (l2 + 1) t hL
theorem c_X11_messageImbalance {w : WP} (hW : gWM w) {Ω : OM}  {t : HV} (e : Ω.2.1 = t) (N : Nat)  {v : Int32} {t' : HV} (hF : F_X11_messageImbalance N t = some (v, t')) {Ω' : OM} (e2 : (sM Ω t') = Ω') : gM w 2 yX11_messageImbalance cX11_messageImbalance 3 (some .int) [.ref (wAd w (11, 12, 0, 0))] (cA w Ω) (some (.int v)) (cA w Ω') := by
  refine gM_of "HedgeMessagesModel" rfl (by decide) (kR rfl) fun X C => ?_
  unfold F_X11_messageImbalance at hF
  subst e2
  show gV w X _ _ 0 [(0, .ref (wAd w (11, 12, 0, 0)))] []
  refine r_ct (ct' := cA w (sM Ω t)) (congrArg (cA w) (sM_i e).symm) ?_
  refine r_aload_n C (k := 0) rfl rfl dX11_messageImbalance_0 ?_
  refine r_iconst C (v := 0) rfl dX11_messageImbalance_1 ?_
  obtain ⟨t1, et1, hF⟩ := lt_e hF
  refine op_11_6 C hW.x (hW.fr k11) (show (sM Ω t).2.1 = t from rfl) wm7_73 dX11_messageImbalance_2 (congrArg (sM Ω) et1) ?_
  refine r_aload_n C (k := 0) rfl rfl dX11_messageImbalance_5 ?_
  refine og_11_0 C (hW.ok k11) wm7_67 dX11_messageImbalance_6 ?_
  refine r_bipush C (v := 11) rfl dX11_messageImbalance_9 ?_
  obtain ⟨b2, hF⟩ := gd_e hF
  refine m_ald C (hW.ok (k12 (a := 0) (by unfold okMa; decide))) (show (sM Ω t1).2.1 = t1 from rfl) rfl b2 dX11_messageImbalance_11 ?_
  refine r_ineg C dX11_messageImbalance_12 ?_
  refine r_istore_n C (lo' := [(1, .int (-(ag t1 0 11))), (0, .ref (wAd w (11, 12, 0, 0)))]) rfl (by decide) rfl dX11_messageImbalance_13 ?_
  refine r_iconst C (v := 0) rfl dX11_messageImbalance_14 ?_
  refine r_istore_n C (lo' := [(2, .int 0), (1, .int (-(ag t1 0 11))), (0, .ref (wAd w (11, 12, 0, 0)))]) rfl (by decide) rfl dX11_messageImbalance_15 ?_
  refine r_lo [2, 1, 0] (lo' := [(0, .ref (wAd w (11, 12, 0, 0))), (1, .int (-(ag t1 0 11))), (2, .int 0)]) rfl ?_
  exact lp_X11_messageImbalance_16 hW C N (-(ag t1 0 11)) 0 t1 hF
theorem dX11_wrongIn_0 : decode cX11_wrongIn 0 = .ok (.iconst 0, 1) := by decide +kernel
theorem dX11_wrongIn_1 : decode cX11_wrongIn 1 = .ok (.istore 4, 2) := by decide +kernel
theorem dX11_wrongIn_3 : decode cX11_wrongIn 3 = .ok (.iconst 0, 1) := by decide +kernel
theorem dX11_wrongIn_4 : decode cX11_wrongIn 4 = .ok (.istore 5, 2) := by decide +kernel
theorem dX11_wrongIn_6 : decode cX11_wrongIn 6 = .ok (.iload 5, 2) := by decide +kernel
theorem dX11_wrongIn_8 : decode cX11_wrongIn 8 = .ok (.iload_n 2, 1) := by decide +kernel
theorem dX11_wrongIn_9 : decode cX11_wrongIn 9 = .ok (.if_icmp .ge 68, 3) := by decide +kernel
theorem dX11_wrongIn_12 : decode cX11_wrongIn 12 = .ok (.aload_n 0, 1) := by decide +kernel
theorem dX11_wrongIn_13 : decode cX11_wrongIn 13 = .ok (.getfield 7, 3) := by decide +kernel
theorem dX11_wrongIn_16 : decode cX11_wrongIn 16 = .ok (.iload_n 1, 1) := by decide +kernel
theorem dX11_wrongIn_17 : decode cX11_wrongIn 17 = .ok (.bipush 13, 2) := by decide +kernel
theorem dX11_wrongIn_19 : decode cX11_wrongIn 19 = .ok (.iadd, 1) := by decide +kernel
theorem dX11_wrongIn_20 : decode cX11_wrongIn 20 = .ok (.iaload, 1) := by decide +kernel
theorem dX11_wrongIn_21 : decode cX11_wrongIn 21 = .ok (.iload 5, 2) := by decide +kernel
theorem dX11_wrongIn_23 : decode cX11_wrongIn 23 = .ok (.iadd, 1) := by decide +kernel
theorem dX11_wrongIn_24 : decode cX11_wrongIn 24 = .ok (.istore 6, 2) := by decide +kernel
theorem dX11_wrongIn_26 : decode cX11_wrongIn 26 = .ok (.iload 4, 2) := by decide +kernel
theorem dX11_wrongIn_28 : decode cX11_wrongIn 28 = .ok (.aload_n 0, 1) := by decide +kernel
theorem dX11_wrongIn_29 : decode cX11_wrongIn 29 = .ok (.iload 6, 2) := by decide +kernel
theorem dX11_wrongIn_31 : decode cX11_wrongIn 31 = .ok (.iconst 0, 1) := by decide +kernel
theorem dX11_wrongIn_32 : decode cX11_wrongIn 32 = .ok (.invokevirtual 69, 3) := by decide +kernel
theorem dX11_wrongIn_35 : decode cX11_wrongIn 35 = .ok (.aload_n 0, 1) := by decide +kernel
theorem dX11_wrongIn_36 : decode cX11_wrongIn 36 = .ok (.getfield 7, 3) := by decide +kernel
theorem dX11_wrongIn_39 : decode cX11_wrongIn 39 = .ok (.iload_n 1, 1) := by decide +kernel
theorem dX11_wrongIn_40 : decode cX11_wrongIn 40 = .ok (.iconst 1, 1) := by decide +kernel
theorem dX11_wrongIn_41 : decode cX11_wrongIn 41 = .ok (.iadd, 1) := by decide +kernel
theorem dX11_wrongIn_42 : decode cX11_wrongIn 42 = .ok (.iload 5, 2) := by decide +kernel
theorem dX11_wrongIn_44 : decode cX11_wrongIn 44 = .ok (.iadd, 1) := by decide +kernel
theorem dX11_wrongIn_45 : decode cX11_wrongIn 45 = .ok (.iaload, 1) := by decide +kernel
theorem dX11_wrongIn_46 : decode cX11_wrongIn 46 = .ok (.if_icmp .ne 14, 3) := by decide +kernel
theorem dX11_wrongIn_49 : decode cX11_wrongIn 49 = .ok (.aload_n 0, 1) := by decide +kernel
theorem dX11_wrongIn_50 : decode cX11_wrongIn 50 = .ok (.iload 6, 2) := by decide +kernel
theorem dX11_wrongIn_52 : decode cX11_wrongIn 52 = .ok (.iconst 1, 1) := by decide +kernel
theorem dX11_wrongIn_53 : decode cX11_wrongIn 53 = .ok (.invokevirtual 69, 3) := by decide +kernel
theorem dX11_wrongIn_56 : decode cX11_wrongIn 56 = .ok (.iload_n 3, 1) := by decide +kernel
theorem dX11_wrongIn_57 : decode cX11_wrongIn 57 = .ok (.if_icmp .eq 7, 3) := by decide +kernel
theorem dX11_wrongIn_60 : decode cX11_wrongIn 60 = .ok (.iconst 1, 1) := by decide +kernel
theorem dX11_wrongIn_61 : decode cX11_wrongIn 61 = .ok (.goto 4, 3) := by decide +kernel
theorem dX11_wrongIn_64 : decode cX11_wrongIn 64 = .ok (.iconst 0, 1) := by decide +kernel
theorem dX11_wrongIn_65 : decode cX11_wrongIn 65 = .ok (.invokestatic 80, 3) := by decide +kernel
theorem dX11_wrongIn_68 : decode cX11_wrongIn 68 = .ok (.iadd, 1) := by decide +kernel
theorem dX11_wrongIn_69 : decode cX11_wrongIn 69 = .ok (.istore 4, 2) := by decide +kernel
theorem dX11_wrongIn_71 : decode cX11_wrongIn 71 = .ok (.iinc 5 1, 3) := by decide +kernel
theorem dX11_wrongIn_74 : decode cX11_wrongIn 74 = .ok (.goto (-68), 3) := by decide +kernel
theorem dX11_wrongIn_77 : decode cX11_wrongIn 77 = .ok (.iload 4, 2) := by decide +kernel
theorem dX11_wrongIn_79 : decode cX11_wrongIn 79 = .ok (.ireturn, 1) := by decide +kernel
def st_X11_wrongIn_6 (N : Nat) (l1 : Int32) (l2 : Int32) (l3 : Int32) (l4 : Int32) (l5 : Int32) (t : HV) : Option ((Int32 × Int32) ⊕ (Int32)) := (if l2 ≤ l5 then some (.inr l4) else (if vpb (l1 + 13) 760 = true then (ob1 (F_X11_of ((ag t 0 (l1 + 13)) + l5) 0 t) fun v2 => (if vpb ((l1 + 1) + l5) 760 = true then (if v2 = (ag t 0 ((l1 + 1) + l5)) then (ob1 (F_X11_of ((ag t 0 (l1 + 13)) + l5) 1 t) fun v4 => (if v4 = l3 then some (.inl ((l4 + (F_X11_truth false)), (l5 + 1))) else some (.inl ((l4 + (F_X11_truth true)), (l5 + 1))))) else some (.inl ((l4 + (F_X11_truth true)), (l5 + 1)))) else none)) else none))
def F_X11_wrongIn (N : Nat) (a1 : Int32) (a2 : Int32) (a3 : Int32) (t : HV) : Option (Int32) := (lpN N (fun z => st_X11_wrongIn_6 N a1 a2 a3 z.1 z.2 t) (0, 0))
theorem lp_X11_wrongIn_6 {w : WP} (hW : gWM w) {Ω : OM}  {t : HV} (e : Ω.2.1 = t)  (l1 : Int32) (l2 : Int32) (l3 : Int32) {N : Nat} {X : CX} (C : gC w X cX11_wrongIn "HedgeMessagesModel" (some .int) 1 7) {v : Int32}  : ∀ (n : Nat) (l4 : Int32) (l5 : Int32), lpN n (fun z : Int32 × Int32 => st_X11_wrongIn_6 N l1 l2 l3 z.1 z.2 t) (l4, l5) = some v → gV w X (some (.int v), cA w Ω) (cA w Ω) 6 [(0, .ref (wAd w (11, 12, 0, 0))), (1, .int l1), (2, .int l2), (3, .int l3), (4, .int l4), (5, .int l5)] [] := by
  intro n
  induction n with
  | zero => intro l4 l5 hL; exact lpN_0 hL
  | succ n ih =>
    intro l4 l5 hL
    obtain ⟨q9, hF, hL⟩ := lpN_e hL
    change st_X11_wrongIn_6 N l1 l2 l3 l4 l5 t = some q9 at hF
    unfold st_X11_wrongIn_6 at hF
    refine r_iload C (k := 5) rfl dX11_wrongIn_6 ?_
    refine r_iload_n C (k := 2) rfl rfl dX11_wrongIn_8 ?_
    refine r_icmp_ge C (tgt := 77) rfl dX11_wrongIn_9 (fun hc => ?_) (fun hc => ?_)
    · rw [if_pos hc] at hF
      refine r_iload C (k := 4) rfl dX11_wrongIn_77 ?_
      cases hF
      change some _ = some _ at hL
      cases hL
      exact r_ireturn C dX11_wrongIn_79
    · rw [if_neg hc] at hF
      refine r_aload_n C (k := 0) rfl rfl dX11_wrongIn_12 ?_
      refine og_11_0 C (hW.ok k11) wm7_67 dX11_wrongIn_13 ?_
      refine r_iload_n C (k := 1) rfl rfl dX11_wrongIn_16 ?_
      refine r_bipush C (v := 13) rfl dX11_wrongIn_17 ?_
      refine r_iadd C dX11_wrongIn_19 ?_
      obtain ⟨b1, hF⟩ := gd_e hF
      refine m_ald C (hW.ok (k12 (a := 0) (by unfold okMa; decide))) e rfl b1 dX11_wrongIn_20 ?_
      refine r_iload C (k := 5) rfl dX11_wrongIn_21 ?_
      refine r_iadd C dX11_wrongIn_23 ?_
      refine r_istore C (lo' := [(6, .int ((ag t 0 (l1 + 13)) + l5)), (0, .ref (wAd w (11, 12, 0, 0))), (1, .int l1), (2, .int l2), (3, .int l3), (4, .int l4), (5, .int l5)]) (by decide) rfl dX11_wrongIn_24 ?_
      refine r_iload C (k := 5) rfl dX11_wrongIn_26 ?_
      refine r_aload_n C (k := 1) rfl rfl dX11_wrongIn_28 ?_
      refine r_iload C (k := 0) rfl dX11_wrongIn_29 ?_
      refine r_iconst C (v := 0) rfl dX11_wrongIn_31 ?_
      obtain ⟨v2, hv2, hF⟩ := ob1_e hF
      refine r_callV C (d' := 0) [.int ((ag t 0 (l1 + 13)) + l5), .int 0] (c_X11_of hW e ((ag t 0 (l1 + 13)) + l5) 0 hv2) myX11_of wm7_2 ⟨_, _, _, _, (hW.ok k11), rfl, rfl, rfl, rfl⟩ rfl (kR rfl) (by decide) (kR rfl) rfl dX11_wrongIn_32 ?_
      refine r_aload_n C (k := 1) rfl rfl dX11_wrongIn_35 ?_
      refine og_11_0 C (hW.ok k11) wm7_67 dX11_wrongIn_36 ?_
      refine r_iload_n C (k := 2) rfl rfl dX11_wrongIn_39 ?_
      refine r_iconst C (v := 1) rfl dX11_wrongIn_40 ?_
      refine r_iadd C dX11_wrongIn_41 ?_
      refine r_iload C (k := 6) rfl dX11_wrongIn_42 ?_
      refine r_iadd C dX11_wrongIn_44 ?_
      obtain ⟨b3, hF⟩ := gd_e hF
      refine m_ald C (hW.ok (k12 (a := 0) (by unfold okMa; decide))) e rfl b3 dX11_wrongIn_45 ?_
      refine r_icmp_ne C (tgt := 60) rfl dX11_wrongIn_46 (fun hc => ?_) (fun hc => ?_)
      · rw [if_neg hc] at hF
        refine r_iconst C (v := 1) rfl dX11_wrongIn_60 ?_
        refine r_goto C (tgt := 65) rfl dX11_wrongIn_61 ?_
        refine r_callS C (d' := 0) [.int (b2i true)] (c_X11_truth true rfl) myX11_truth wm7_35 rfl (kR rfl) (by decide) (kR rfl) rfl dX11_wrongIn_65 ?_
        refine r_iadd C dX11_wrongIn_68 ?_
        refine r_istore C (lo' := [(4, .int (l4 + (F_X11_truth true))), (6, .int ((ag t 0 (l1 + 13)) + l5)), (0, .ref (wAd w (11, 12, 0, 0))), (1, .int l1), (2, .int l2), (3, .int l3), (5, .int l5)]) (by decide) rfl dX11_wrongIn_69 ?_
        refine r_iinc C (k := 6) (v := (l5 + 1)) (lo' := [(5, .int (l5 + 1)), (4, .int (l4 + (F_X11_truth true))), (6, .int ((ag t 0 (l1 + 13)) + l5)), (0, .ref (wAd w (11, 12, 0, 0))), (1, .int l1), (2, .int l2), (3, .int l3)]) rfl rfl (by decide) rfl dX11_wrongIn_71 ?_
        refine r_goto C (tgt := 6) rfl dX11_wrongIn_74 ?_
        cases hF
        change lpN n _ _ = some _ at hL
        refine r_lo [3, 4, 5, 6, 1, 0] (lo' := [(0, .ref (wAd w (11, 12, 0, 0))), (1, .int l1), (2, .int l2), (3, .int l3), (4, .int (l4 + (F_X11_truth true))), (5, .int (l5 + 1))]) rfl ?_
        exact ih (l4 + (F_X11_truth true)) (l5 + 1) hL
      · rw [if_pos hc] at hF
        refine r_aload_n C (k := 1) rfl rfl dX11_wrongIn_49 ?_
        refine r_iload C (k := 0) rfl dX11_wrongIn_50 ?_
        refine r_iconst C (v := 1) rfl dX11_wrongIn_52 ?_
        obtain ⟨v4, hv4, hF⟩ := ob1_e hF
        refine r_callV C (d' := 0) [.int ((ag t 0 (l1 + 13)) + l5), .int 1] (c_X11_of hW e ((ag t 0 (l1 + 13)) + l5) 1 hv4) myX11_of wm7_2 ⟨_, _, _, _, (hW.ok k11), rfl, rfl, rfl, rfl⟩ rfl (kR rfl) (by decide) (kR rfl) rfl dX11_wrongIn_53 ?_
        refine r_iload_n C (k := 4) rfl rfl dX11_wrongIn_56 ?_
        refine r_icmp_eq C (tgt := 64) rfl dX11_wrongIn_57 (fun hc => ?_) (fun hc => ?_)
        · rw [if_pos hc] at hF
          refine r_iconst C (v := 0) rfl dX11_wrongIn_64 ?_
          refine r_callS C (d' := 0) [.int (b2i false)] (c_X11_truth false rfl) myX11_truth wm7_35 rfl (kR rfl) (by decide) (kR rfl) rfl dX11_wrongIn_65 ?_
          refine r_iadd C dX11_wrongIn_68 ?_
          refine r_istore C (lo' := [(4, .int (l4 + (F_X11_truth false))), (6, .int ((ag t 0 (l1 + 13)) + l5)), (0, .ref (wAd w (11, 12, 0, 0))), (1, .int l1), (2, .int l2), (3, .int l3), (5, .int l5)]) (by decide) rfl dX11_wrongIn_69 ?_
          refine r_iinc C (k := 6) (v := (l5 + 1)) (lo' := [(5, .int (l5 + 1)), (4, .int (l4 + (F_X11_truth false))), (6, .int ((ag t 0 (l1 + 13)) + l5)), (0, .ref (wAd w (11, 12, 0, 0))), (1, .int l1), (2, .int l2), (3, .int l3)]) rfl rfl (by decide) rfl dX11_wrongIn_71 ?_
          refine r_goto C (tgt := 6) rfl dX11_wrongIn_74 ?_
          cases hF
          change lpN n _ _ = some _ at hL
          refine r_lo [3, 4, 5, 6, 1, 0] (lo' := [(0, .ref (wAd w (11, 12, 0, 0))), (1, .int l1), (2, .int l2), (3, .int l3), (4, .int (l4 + (F_X11_truth false))), (5, .int (l5 + 1))]) rfl ?_
          exact ih (l4 + (F_X11_truth false)) (l5 + 1) hL
        · rw [if_neg hc] at hF
          refine r_iconst C (v := 1) rfl dX11_wrongIn_60 ?_
          refine r_goto C (tgt := 65) rfl dX11_wrongIn_61 ?_
          refine r_callS C (d' := 0) [.int (b2i true)] (c_X11_truth true rfl) myX11_truth wm7_35 rfl (kR rfl) (by decide) (kR rfl) rfl dX11_wrongIn_65 ?_
          refine r_iadd C dX11_wrongIn_68 ?_
          refine r_istore C (lo' := [(4, .int (l4 + (F_X11_truth true))), (6, .int ((ag t 0 (l1 + 13)) + l5)), (0, .ref (wAd w (11, 12, 0, 0))), (1, .int l1), (2, .int l2), (3, .int l3), (5, .int l5)]) (by decide) rfl dX11_wrongIn_69 ?_
          refine r_iinc C (k := 6) (v := (l5 + 1)) (lo' := [(5, .int (l5 + 1)), (4, .int (l4 + (F_X11_truth true))), (6, .int ((ag t 0 (l1 + 13)) + l5)), (0, .ref (wAd w (11, 12, 0, 0))), (1, .int l1), (2, .int l2), (3, .int l3)]) rfl rfl (by decide) rfl dX11_wrongIn_71 ?_
          refine r_goto C (tgt := 6) rfl dX11_wrongIn_74 ?_
          cases hF
          change lpN n _ _ = some _ at hL
          refine r_lo [3, 4, 5, 6, 1, 0] (lo' := [(0, .ref (wAd w (11, 12, 0, 0))), (1, .int l1), (2, .int l2), (3, .int l3), (4, .int (l4 + (F_X11_truth true))), (5, .int (l5 + 1))]) rfl ?_
          exact ih (l4 + (F_X11_truth true)) (l5 + 1) hL
theorem c_X11_wrongIn {w : WP} (hW : gWM w) {Ω : OM}  {t : HV} (e : Ω.2.1 = t) (N : Nat) (a1 : Int32) (a2 : Int32) (a3 : Int32) {v : Int32} (hF : F_X11_wrongIn N a1 a2 a3 t = some v) : gM w 1 yX11_wrongIn cX11_wrongIn 7 (some .int) [.ref (wAd w (11, 12, 0, 0)), .int a1, .int a2, .int a3] (cA w Ω) (some (.int v)) (cA w Ω) := by
  refine gM_of "HedgeMessagesModel" rfl (by decide) (kR rfl) fun X C => ?_
  unfold F_X11_wrongIn at hF
  show gV w X _ _ 0 [(0, .ref (wAd w (11, 12, 0, 0))), (1, .int a1), (2, .int a2), (3, .int a3)] []
  refine r_iconst C (v := 0) rfl dX11_wrongIn_0 ?_
  refine r_istore C (lo' := [(4, .int 0), (0, .ref (wAd w (11, 12, 0, 0))), (1, .int a1), (2, .int a2), (3, .int a3)]) (by decide) rfl dX11_wrongIn_1 ?_
  refine r_iconst C (v := 0) rfl dX11_wrongIn_3 ?_
  refine r_istore C (lo' := [(5, .int 0), (4, .int 0), (0, .ref (wAd w (11, 12, 0, 0))), (1, .int a1), (2, .int a2), (3, .int a3)]) (by decide) rfl dX11_wrongIn_4 ?_
  refine r_lo [2, 3, 4, 5, 1, 0] (lo' := [(0, .ref (wAd w (11, 12, 0, 0))), (1, .int a1), (2, .int a2), (3, .int a3), (4, .int 0), (5, .int 0)]) rfl ?_
  exact lp_X11_wrongIn_6 hW e a1 a2 a3 C N 0 0 hF
theorem dX11_wrongLetters_0 : decode cX11_wrongLetters 0 = .ok (.aload_n 0, 1) := by decide +kernel
theorem dX11_wrongLetters_1 : decode cX11_wrongLetters 1 = .ok (.iconst 0, 1) := by decide +kernel
theorem dX11_wrongLetters_2 : decode cX11_wrongLetters 2 = .ok (.putfield 58, 3) := by decide +kernel
theorem dX11_wrongLetters_5 : decode cX11_wrongLetters 5 = .ok (.iconst 0, 1) := by decide +kernel
theorem dX11_wrongLetters_6 : decode cX11_wrongLetters 6 = .ok (.istore_n 1, 1) := by decide +kernel
theorem dX11_wrongLetters_7 : decode cX11_wrongLetters 7 = .ok (.iconst 0, 1) := by decide +kernel
theorem dX11_wrongLetters_8 : decode cX11_wrongLetters 8 = .ok (.istore_n 2, 1) := by decide +kernel
theorem dX11_wrongLetters_9 : decode cX11_wrongLetters 9 = .ok (.iload_n 2, 1) := by decide +kernel
theorem dX11_wrongLetters_10 : decode cX11_wrongLetters 10 = .ok (.iconst 2, 1) := by decide +kernel
theorem dX11_wrongLetters_11 : decode cX11_wrongLetters 11 = .ok (.if_icmp .ge 44, 3) := by decide +kernel
theorem dX11_wrongLetters_14 : decode cX11_wrongLetters 14 = .ok (.iload_n 2, 1) := by decide +kernel
theorem dX11_wrongLetters_15 : decode cX11_wrongLetters 15 = .ok (.invokestatic 91, 3) := by decide +kernel
theorem dX11_wrongLetters_18 : decode cX11_wrongLetters 18 = .ok (.istore_n 3, 1) := by decide +kernel
theorem dX11_wrongLetters_19 : decode cX11_wrongLetters 19 = .ok (.iload_n 1, 1) := by decide +kernel
theorem dX11_wrongLetters_20 : decode cX11_wrongLetters 20 = .ok (.aload_n 0, 1) := by decide +kernel
theorem dX11_wrongLetters_21 : decode cX11_wrongLetters 21 = .ok (.iload_n 2, 1) := by decide +kernel
theorem dX11_wrongLetters_22 : decode cX11_wrongLetters 22 = .ok (.invokevirtual 134, 3) := by decide +kernel
theorem dX11_wrongLetters_25 : decode cX11_wrongLetters 25 = .ok (.ifCond .eq 21, 3) := by decide +kernel
theorem dX11_wrongLetters_28 : decode cX11_wrongLetters 28 = .ok (.aload_n 0, 1) := by decide +kernel
theorem dX11_wrongLetters_29 : decode cX11_wrongLetters 29 = .ok (.iload_n 3, 1) := by decide +kernel
theorem dX11_wrongLetters_30 : decode cX11_wrongLetters 30 = .ok (.aload_n 0, 1) := by decide +kernel
theorem dX11_wrongLetters_31 : decode cX11_wrongLetters 31 = .ok (.getfield 7, 3) := by decide +kernel
theorem dX11_wrongLetters_34 : decode cX11_wrongLetters 34 = .ok (.iload_n 3, 1) := by decide +kernel
theorem dX11_wrongLetters_35 : decode cX11_wrongLetters 35 = .ok (.bipush 14, 2) := by decide +kernel
theorem dX11_wrongLetters_37 : decode cX11_wrongLetters 37 = .ok (.iadd, 1) := by decide +kernel
theorem dX11_wrongLetters_38 : decode cX11_wrongLetters 38 = .ok (.iaload, 1) := by decide +kernel
theorem dX11_wrongLetters_39 : decode cX11_wrongLetters 39 = .ok (.iload_n 2, 1) := by decide +kernel
theorem dX11_wrongLetters_40 : decode cX11_wrongLetters 40 = .ok (.invokevirtual 417, 3) := by decide +kernel
theorem dX11_wrongLetters_43 : decode cX11_wrongLetters 43 = .ok (.goto 4, 3) := by decide +kernel
theorem dX11_wrongLetters_46 : decode cX11_wrongLetters 46 = .ok (.iconst 0, 1) := by decide +kernel
theorem dX11_wrongLetters_47 : decode cX11_wrongLetters 47 = .ok (.iadd, 1) := by decide +kernel
theorem dX11_wrongLetters_48 : decode cX11_wrongLetters 48 = .ok (.istore_n 1, 1) := by decide +kernel
theorem dX11_wrongLetters_49 : decode cX11_wrongLetters 49 = .ok (.iinc 2 1, 3) := by decide +kernel
theorem dX11_wrongLetters_52 : decode cX11_wrongLetters 52 = .ok (.goto (-43), 3) := by decide +kernel
theorem dX11_wrongLetters_55 : decode cX11_wrongLetters 55 = .ok (.iconst 0, 1) := by decide +kernel
theorem dX11_wrongLetters_56 : decode cX11_wrongLetters 56 = .ok (.istore_n 2, 1) := by decide +kernel
theorem dX11_wrongLetters_57 : decode cX11_wrongLetters 57 = .ok (.iload_n 2, 1) := by decide +kernel
theorem dX11_wrongLetters_58 : decode cX11_wrongLetters 58 = .ok (.aload_n 0, 1) := by decide +kernel
theorem dX11_wrongLetters_59 : decode cX11_wrongLetters 59 = .ok (.getfield 7, 3) := by decide +kernel
theorem dX11_wrongLetters_62 : decode cX11_wrongLetters 62 = .ok (.bipush 11, 2) := by decide +kernel
theorem dX11_wrongLetters_64 : decode cX11_wrongLetters 64 = .ok (.iaload, 1) := by decide +kernel
theorem dX11_wrongLetters_65 : decode cX11_wrongLetters 65 = .ok (.if_icmp .ge 37, 3) := by decide +kernel
theorem dX11_wrongLetters_68 : decode cX11_wrongLetters 68 = .ok (.iload_n 2, 1) := by decide +kernel
theorem dX11_wrongLetters_69 : decode cX11_wrongLetters 69 = .ok (.invokestatic 95, 3) := by decide +kernel
theorem dX11_wrongLetters_72 : decode cX11_wrongLetters 72 = .ok (.istore_n 3, 1) := by decide +kernel
theorem dX11_wrongLetters_73 : decode cX11_wrongLetters 73 = .ok (.iload_n 1, 1) := by decide +kernel
theorem dX11_wrongLetters_74 : decode cX11_wrongLetters 74 = .ok (.aload_n 0, 1) := by decide +kernel
theorem dX11_wrongLetters_75 : decode cX11_wrongLetters 75 = .ok (.iload_n 3, 1) := by decide +kernel
theorem dX11_wrongLetters_76 : decode cX11_wrongLetters 76 = .ok (.aload_n 0, 1) := by decide +kernel
theorem dX11_wrongLetters_77 : decode cX11_wrongLetters 77 = .ok (.getfield 7, 3) := by decide +kernel
theorem dX11_wrongLetters_80 : decode cX11_wrongLetters 80 = .ok (.iload_n 3, 1) := by decide +kernel
theorem dX11_wrongLetters_81 : decode cX11_wrongLetters 81 = .ok (.iaload, 1) := by decide +kernel
theorem dX11_wrongLetters_82 : decode cX11_wrongLetters 82 = .ok (.aload_n 0, 1) := by decide +kernel
theorem dX11_wrongLetters_83 : decode cX11_wrongLetters 83 = .ok (.getfield 7, 3) := by decide +kernel
theorem dX11_wrongLetters_86 : decode cX11_wrongLetters 86 = .ok (.iload_n 3, 1) := by decide +kernel
theorem dX11_wrongLetters_87 : decode cX11_wrongLetters 87 = .ok (.bipush 14, 2) := by decide +kernel
theorem dX11_wrongLetters_89 : decode cX11_wrongLetters 89 = .ok (.iadd, 1) := by decide +kernel
theorem dX11_wrongLetters_90 : decode cX11_wrongLetters 90 = .ok (.iaload, 1) := by decide +kernel
theorem dX11_wrongLetters_91 : decode cX11_wrongLetters 91 = .ok (.invokevirtual 417, 3) := by decide +kernel
theorem dX11_wrongLetters_94 : decode cX11_wrongLetters 94 = .ok (.iadd, 1) := by decide +kernel
theorem dX11_wrongLetters_95 : decode cX11_wrongLetters 95 = .ok (.istore_n 1, 1) := by decide +kernel
theorem dX11_wrongLetters_96 : decode cX11_wrongLetters 96 = .ok (.iinc 2 1, 3) := by decide +kernel
theorem dX11_wrongLetters_99 : decode cX11_wrongLetters 99 = .ok (.goto (-42), 3) := by decide +kernel
theorem dX11_wrongLetters_102 : decode cX11_wrongLetters 102 = .ok (.iload_n 1, 1) := by decide +kernel
theorem dX11_wrongLetters_103 : decode cX11_wrongLetters 103 = .ok (.ireturn, 1) := by decide +kernel
def st_X11_wrongLetters_57 (N : Nat) (l1 : Int32) (l2 : Int32) (t : HV) : Option ((Int32 × Int32 × HV) ⊕ (Int32 × (HV))) := (if vpb 11 760 = true then (if (ag t 0 11) ≤ l2 then some (.inr (l1, t)) else (if vpb (F_X11_postAt l2) 760 = true then (if vpb ((F_X11_postAt l2) + 14) 760 = true then (ob1 (F_X11_wrongIn N (F_X11_postAt l2) (ag t 0 (F_X11_postAt l2)) (ag t 0 ((F_X11_postAt l2) + 14)) t) fun v5 => some (.inl ((l1 + v5), (l2 + 1), t))) else none) else none)) else none)
def st_X11_wrongLetters_9 (N : Nat) (l1 : Int32) (l2 : Int32) (t : HV) : Option ((Int32 × Int32 × HV) ⊕ (Int32 × (HV))) := (if 2 ≤ l2 then (ob1 (lpN N (fun z => st_X11_wrongLetters_57 N z.1 z.2.1 z.2.2) (l1, 0, t)) fun q9 => some (.inr q9)) else (ob1 (F_X11_isInProgress l2 t) fun v6 => (if v6 = true then (if vpb ((F_X11_progressOf l2) + 14) 760 = true then (ob1 (F_X11_wrongIn N (F_X11_progressOf l2) (ag t 0 ((F_X11_progressOf l2) + 14)) l2 t) fun v8 => some (.inl ((l1 + v8), (l2 + 1), t))) else none) else some (.inl ((l1 + 0), (l2 + 1), t)))))
def F_X11_wrongLetters (N : Nat) (t : HV) : Option (Int32 × (HV)) := (lt (sS t 6 0) fun t1 => (lpN N (fun z => st_X11_wrongLetters_9 N z.1 z.2.1 z.2.2) (0, 0, t1)))
theorem lp_X11_wrongLetters_57 {w : WP} (hW : gWM w) {Ω : OM}    {N : Nat} {X : CX} (C : gC w X cX11_wrongLetters "HedgeMessagesModel" (some .int) 2 4) {v : Int32} {t' : HV}  : ∀ (n : Nat) (l1 : Int32) (l2 : Int32) (t : HV), lpN n (fun z : Int32 × Int32 × HV => st_X11_wrongLetters_57 N z.1 z.2.1 z.2.2) (l1, l2, t) = some (v, t') → gV w X (some (.int v), cA w (sM Ω t')) (cA w (sM Ω t)) 57 [(0, .ref (wAd w (11, 12, 0, 0))), (1, .int l1), (2, .int l2)] [] := by
  intro n
  induction n with
  | zero => intro l1 l2 t hL; exact lpN_0 hL
  | succ n ih =>
    intro l1 l2 t hL
    obtain ⟨q9, hF, hL⟩ := lpN_e hL
    change st_X11_wrongLetters_57 N l1 l2 t = some q9 at hF
    unfold st_X11_wrongLetters_57 at hF
    refine r_iload_n C (k := 2) rfl rfl dX11_wrongLetters_57 ?_
    refine r_aload_n C (k := 0) rfl rfl dX11_wrongLetters_58 ?_
    refine og_11_0 C (hW.ok k11) wm7_67 dX11_wrongLetters_59 ?_
    refine r_bipush C (v := 11) rfl dX11_wrongLetters_62 ?_
    obtain ⟨b2, hF⟩ := gd_e hF
    refine m_ald C (hW.ok (k12 (a := 0) (by unfold okMa; decide))) (show (sM Ω t).2.1 = t from rfl) rfl b2 dX11_wrongLetters_64 ?_
    refine r_icmp_ge C (tgt := 102) rfl dX11_wrongLetters_65 (fun hc => ?_) (fun hc => ?_)
    · rw [if_pos hc] at hF
      refine r_iload_n C (k := 1) rfl rfl dX11_wrongLetters_102 ?_
      cases hF
      change some _ = some _ at hL
      cases hL
      exact r_ireturn C dX11_wrongLetters_103
    · rw [if_neg hc] at hF
      refine r_iload_n C (k := 2) rfl rfl dX11_wrongLetters_68 ?_
      refine r_callS C (d' := 0) [.int l2] (c_X11_postAt l2 rfl) myX11_postAt wm7_216 rfl (kR rfl) (by decide) (kR rfl) rfl dX11_wrongLetters_69 ?_
      refine r_istore_n C (lo' := [(3, .int (F_X11_postAt l2)), (0, .ref (wAd w (11, 12, 0, 0))), (1, .int l1), (2, .int l2)]) rfl (by decide) rfl dX11_wrongLetters_72 ?_
      refine r_iload_n C (k := 2) rfl rfl dX11_wrongLetters_73 ?_
      refine r_aload_n C (k := 1) rfl rfl dX11_wrongLetters_74 ?_
      refine r_iload_n C (k := 0) rfl rfl dX11_wrongLetters_75 ?_
      refine r_aload_n C (k := 1) rfl rfl dX11_wrongLetters_76 ?_
      refine og_11_0 C (hW.ok k11) wm7_67 dX11_wrongLetters_77 ?_
      refine r_iload_n C (k := 0) rfl rfl dX11_wrongLetters_80 ?_
      obtain ⟨b3, hF⟩ := gd_e hF
      refine m_ald C (hW.ok (k12 (a := 0) (by unfold okMa; decide))) (show (sM Ω t).2.1 = t from rfl) rfl b3 dX11_wrongLetters_81 ?_
      refine r_aload_n C (k := 1) rfl rfl dX11_wrongLetters_82 ?_
      refine og_11_0 C (hW.ok k11) wm7_67 dX11_wrongLetters_83 ?_
      refine r_iload_n C (k := 0) rfl rfl dX11_wrongLetters_86 ?_
      refine r_bipush C (v := 14) rfl dX11_wrongLetters_87 ?_
      refine r_iadd C dX11_wrongLetters_89 ?_
      obtain ⟨b4, hF⟩ := gd_e hF
      refine m_ald C (hW.ok (k12 (a := 0) (by unfold okMa; decide))) (show (sM Ω t).2.1 = t from rfl) rfl b4 dX11_wrongLetters_90 ?_
      obtain ⟨v5, hv5, hF⟩ := ob1_e hF
      refine r_callV C (d' := 1) [.int (F_X11_postAt l2), .int (ag t 0 (F_X11_postAt l2)), .int (ag t 0 ((F_X11_postAt l2) + 14))] (c_X11_wrongIn hW (show (sM Ω t).2.1 = t from rfl) N (F_X11_postAt l2) (ag t 0 (F_X11_postAt l2)) (ag t 0 ((F_X11_postAt l2) + 14)) hv5) myX11_wrongIn wm9_104 ⟨_, _, _, _, (hW.ok k11), rfl, rfl, rfl, rfl⟩ rfl (kR rfl) (by decide) (kR rfl) rfl dX11_wrongLetters_91 ?_
      refine r_iadd C dX11_wrongLetters_94 ?_
      refine r_istore_n C (lo' := [(1, .int (l1 + v5)), (3, .int (F_X11_postAt l2)), (0, .ref (wAd w (11, 12, 0, 0))), (2, .int l2)]) rfl (by decide) rfl dX11_wrongLetters_95 ?_
      refine r_iinc C (k := 3) (v := (l2 + 1)) (lo' := [(2, .int (l2 + 1)), (1, .int (l1 + v5)), (3, .int (F_X11_postAt l2)), (0, .ref (wAd w (11, 12, 0, 0)))]) rfl rfl (by decide) rfl dX11_wrongLetters_96 ?_
      refine r_goto C (tgt := 57) rfl dX11_wrongLetters_99 ?_
      cases hF
      change lpN n _ _ = some _ at hL
      refine r_lo [3, 1, 0] (lo' := [(0, .ref (wAd w (11, 12, 0, 0))), (1, .int (l1 + v5)), (2, .int (l2 + 1))]) rfl ?_
      exact ih (l1 + v5) (l2 + 1) t hL
theorem lp_X11_wrongLetters_9 {w : WP} (hW : gWM w) {Ω : OM}    {N : Nat} {X : CX} (C : gC w X cX11_wrongLetters "HedgeMessagesModel" (some .int) 2 4) {v : Int32} {t' : HV}  : ∀ (n : Nat) (l1 : Int32) (l2 : Int32) (t : HV), lpN n (fun z : Int32 × Int32 × HV => st_X11_wrongLetters_9 N z.1 z.2.1 z.2.2) (l1, l2, t) = some (v, t') → gV w X (some (.int v), cA w (sM Ω t')) (cA w (sM Ω t)) 9 [(0, .ref (wAd w (11, 12, 0, 0))), (1, .int l1), (2, .int l2)] [] := by
  intro n
  induction n with
  | zero => intro l1 l2 t hL; exact lpN_0 hL
  | succ n ih =>
    intro l1 l2 t hL
    obtain ⟨q9, hF, hL⟩ := lpN_e hL
    change st_X11_wrongLetters_9 N l1 l2 t = some q9 at hF
    unfold st_X11_wrongLetters_9 at hF
    refine r_iload_n C (k := 2) rfl rfl dX11_wrongLetters_9 ?_
    refine r_iconst C (v := 2) rfl dX11_wrongLetters_10 ?_
    refine r_icmp_ge C (tgt := 55) rfl dX11_wrongLetters_11 (fun hc => ?_) (fun hc => ?_)
    · rw [if_pos hc] at hF
      refine r_iconst C (v := 0) rfl dX11_wrongLetters_55 ?_
      refine r_istore_n C (lo' := [(2, .int 0), (0, .ref (wAd w (11, 12, 0, 0))), (1, .int l1)]) rfl (by decide) rfl dX11_wrongLetters_56 ?_
      obtain ⟨q9, h9, hF⟩ := ob1_e hF
      cases hF
      change some _ = some _ at hL
      cases hL
      refine r_lo [1, 2, 0] (lo' := [(0, .ref (wAd w (11, 12, 0, 0))), (1, .int l1), (2, .int 0)]) rfl ?_
      exact lp_X11_wrongLetters_57 hW C N l1 0 t h9
    · rw [if_neg hc] at hF
      refine r_iload_n C (k := 2) rfl rfl dX11_wrongLetters_14 ?_
      refine r_callS C (d' := 0) [.int l2] (c_X11_progressOf l2 rfl) myX11_progressOf wm7_223 rfl (kR rfl) (by decide) (kR rfl) rfl dX11_wrongLetters_15 ?_
      refine r_istore_n C (lo' := [(3, .int (F_X11_progressOf l2)), (0, .ref (wAd w (11, 12, 0, 0))), (1, .int l1), (2, .int l2)]) rfl (by decide) rfl dX11_wrongLetters_18 ?_
      refine r_iload_n C (k := 2) rfl rfl dX11_wrongLetters_19 ?_
      refine r_aload_n C (k := 1) rfl rfl dX11_wrongLetters_20 ?_
      refine r_iload_n C (k := 3) rfl rfl dX11_wrongLetters_21 ?_
      obtain ⟨v6, hv6, hF⟩ := ob1_e hF
      refine r_callV C (d' := 1) [.int l2] (c_X11_isInProgress hW (show (sM Ω t).2.1 = t from rfl) l2 hv6) myX11_isInProgress wm8_81 ⟨_, _, _, _, (hW.ok k11), rfl, rfl, rfl, rfl⟩ rfl (kR rfl) (by decide) (kR rfl) rfl dX11_wrongLetters_22 ?_
      refine r_if_eq C (tgt := 46) rfl dX11_wrongLetters_25 (fun hc => ?_) (fun hc => ?_)
      · rw [if_neg (b2i_f hc)] at hF
        refine r_iconst C (v := 0) rfl dX11_wrongLetters_46 ?_
        refine r_iadd C dX11_wrongLetters_47 ?_
        refine r_istore_n C (lo' := [(1, .int (l1 + 0)), (3, .int (F_X11_progressOf l2)), (0, .ref (wAd w (11, 12, 0, 0))), (2, .int l2)]) rfl (by decide) rfl dX11_wrongLetters_48 ?_
        refine r_iinc C (k := 3) (v := (l2 + 1)) (lo' := [(2, .int (l2 + 1)), (1, .int (l1 + 0)), (3, .int (F_X11_progressOf l2)), (0, .ref (wAd w (11, 12, 0, 0)))]) rfl rfl (by decide) rfl dX11_wrongLetters_49 ?_
        refine r_goto C (tgt := 9) rfl dX11_wrongLetters_52 ?_
        cases hF
        change lpN n _ _ = some _ at hL
        refine r_lo [3, 1, 0] (lo' := [(0, .ref (wAd w (11, 12, 0, 0))), (1, .int (l1 + 0)), (2, .int (l2 + 1))]) rfl ?_
        exact ih (l1 + 0) (l2 + 1) t hL
      · rw [if_pos (b2i_t hc)] at hF
        refine r_aload_n C (k := 1) rfl rfl dX11_wrongLetters_28 ?_
        refine r_iload_n C (k := 0) rfl rfl dX11_wrongLetters_29 ?_
        refine r_aload_n C (k := 1) rfl rfl dX11_wrongLetters_30 ?_
        refine og_11_0 C (hW.ok k11) wm7_67 dX11_wrongLetters_31 ?_
        refine r_iload_n C (k := 0) rfl rfl dX11_wrongLetters_34 ?_
        refine r_bipush C (v := 14) rfl dX11_wrongLetters_35 ?_
        refine r_iadd C dX11_wrongLetters_37 ?_
        obtain ⟨b7, hF⟩ := gd_e hF
        refine m_ald C (hW.ok (k12 (a := 0) (by unfold okMa; decide))) (show (sM Ω t).2.1 = t from rfl) rfl b7 dX11_wrongLetters_38 ?_
        refine r_iload_n C (k := 3) rfl rfl dX11_wrongLetters_39 ?_
        obtain ⟨v8, hv8, hF⟩ := ob1_e hF
        refine r_callV C (d' := 1) [.int (F_X11_progressOf l2), .int (ag t 0 ((F_X11_progressOf l2) + 14)), .int l2] (c_X11_wrongIn hW (show (sM Ω t).2.1 = t from rfl) N (F_X11_progressOf l2) (ag t 0 ((F_X11_progressOf l2) + 14)) l2 hv8) myX11_wrongIn wm9_104 ⟨_, _, _, _, (hW.ok k11), rfl, rfl, rfl, rfl⟩ rfl (kR rfl) (by decide) (kR rfl) rfl dX11_wrongLetters_40 ?_
        refine r_goto C (tgt := 47) rfl dX11_wrongLetters_43 ?_
        refine r_iadd C dX11_wrongLetters_47 ?_
        refine r_istore_n C (lo' := [(1, .int (l1 + v8)), (3, .int (F_X11_progressOf l2)), (0, .ref (wAd w (11, 12, 0, 0))), (2, .int l2)]) rfl (by decide) rfl dX11_wrongLetters_48 ?_
        refine r_iinc C (k := 3) (v := (l2 + 1)) (lo' := [(2, .int (l2 + 1)), (1, .int (l1 + v8)), (3, .int (F_X11_progressOf l2)), (0, .ref (wAd w (11, 12, 0, 0)))]) rfl rfl (by decide) rfl dX11_wrongLetters_49 ?_
        refine r_goto C (tgt := 9) rfl dX11_wrongLetters_52 ?_
        cases hF
        change lpN n _ _ = some _ at hL
        refine r_lo [3, 1, 0] (lo' := [(0, .ref (wAd w (11, 12, 0, 0))), (1, .int (l1 + v8)), (2, .int (l2 + 1))]) rfl ?_
        exact ih (l1 + v8) (l2 + 1) t hL
theorem c_X11_wrongLetters {w : WP} (hW : gWM w) {Ω : OM}  {t : HV} (e : Ω.2.1 = t) (N : Nat)  {v : Int32} {t' : HV} (hF : F_X11_wrongLetters N t = some (v, t')) {Ω' : OM} (e2 : (sM Ω t') = Ω') : gM w 2 yX11_wrongLetters cX11_wrongLetters 4 (some .int) [.ref (wAd w (11, 12, 0, 0))] (cA w Ω) (some (.int v)) (cA w Ω') := by
  refine gM_of "HedgeMessagesModel" rfl (by decide) (kR rfl) fun X C => ?_
  unfold F_X11_wrongLetters at hF
  subst e2
  show gV w X _ _ 0 [(0, .ref (wAd w (11, 12, 0, 0)))] []
  refine r_ct (ct' := cA w (sM Ω t)) (congrArg (cA w) (sM_i e).symm) ?_
  refine r_aload_n C (k := 0) rfl rfl dX11_wrongLetters_0 ?_
  refine r_iconst C (v := 0) rfl dX11_wrongLetters_1 ?_
  obtain ⟨t1, et1, hF⟩ := lt_e hF
  refine op_11_6 C hW.x (hW.fr k11) (show (sM Ω t).2.1 = t from rfl) wm7_73 dX11_wrongLetters_2 (congrArg (sM Ω) et1) ?_
  refine r_iconst C (v := 0) rfl dX11_wrongLetters_5 ?_
  refine r_istore_n C (lo' := [(1, .int 0), (0, .ref (wAd w (11, 12, 0, 0)))]) rfl (by decide) rfl dX11_wrongLetters_6 ?_
  refine r_iconst C (v := 0) rfl dX11_wrongLetters_7 ?_
  refine r_istore_n C (lo' := [(2, .int 0), (1, .int 0), (0, .ref (wAd w (11, 12, 0, 0)))]) rfl (by decide) rfl dX11_wrongLetters_8 ?_
  refine r_lo [2, 1, 0] (lo' := [(0, .ref (wAd w (11, 12, 0, 0))), (1, .int 0), (2, .int 0)]) rfl ?_
  exact lp_X11_wrongLetters_9 hW C N 0 0 t1 hF
theorem dX11_done_0 : decode cX11_done 0 = .ok (.aload_n 0, 1) := by decide +kernel
theorem dX11_done_1 : decode cX11_done 1 = .ok (.aload_n 0, 1) := by decide +kernel
theorem dX11_done_2 : decode cX11_done 2 = .ok (.getfield 16, 3) := by decide +kernel
theorem dX11_done_5 : decode cX11_done 5 = .ok (.invokevirtual 378, 3) := by decide +kernel
theorem dX11_done_8 : decode cX11_done 8 = .ok (.aload_n 0, 1) := by decide +kernel
theorem dX11_done_9 : decode cX11_done 9 = .ok (.getfield 200, 3) := by decide +kernel
theorem dX11_done_12 : decode cX11_done 12 = .ok (.ireturn, 1) := by decide +kernel
def F_X11_done (N : Nat) (a1 : Bool) (t : HV) : Option (Int32 × (HV)) := (ob1 (F_X11_keeps N 2 t) fun t2 => some ((t2.1 8), t2))
theorem c_X11_done {w : WP} (hW : gWM w) {Ω : OM}  {t : HV} (e : Ω.2.1 = t) (N : Nat) (a1 : Bool) {v : Int32} {t' : HV} (hF : F_X11_done N a1 t = some (v, t')) {Ω' : OM} (e2 : (sM Ω t') = Ω') : gM w 2 yX11_done cX11_done 2 (some .int) [.ref (wAd w (11, 12, 0, 0)), .int (b2i a1)] (cA w Ω) (some (.int v)) (cA w Ω') := by
  refine gM_of "HedgeMessagesModel" rfl (by decide) (kR rfl) fun X C => ?_
  unfold F_X11_done at hF
  subst e2
  show gV w X _ _ 0 [(0, .ref (wAd w (11, 12, 0, 0))), (1, .int (b2i a1))] []
  refine r_ct (ct' := cA w (sM Ω t)) (congrArg (cA w) (sM_i e).symm) ?_
  refine r_aload_n C (k := 0) rfl rfl dX11_done_0 ?_
  refine r_aload_n C (k := 0) rfl rfl dX11_done_1 ?_
  refine og_11_2 C (hW.ok k11) wm7_69 dX11_done_2 ?_
  obtain ⟨t2, ht2, hF⟩ := ob1_e hF
  refine r_callV C (d' := 1) [.ref (wAd w (12, 12, 0, 2))] (c_X11_keeps hW (show (sM Ω t).2.1 = t from rfl) N 2 (by unfold okMa; decide) ht2 rfl) myX11_keeps wm7_196 ⟨_, _, _, _, (hW.ok k11), rfl, rfl, rfl, rfl⟩ rfl (kR rfl) (by decide) (kR rfl) rfl dX11_done_5 ?_
  refine r_aload_n C (k := 0) rfl rfl dX11_done_8 ?_
  refine og_11_8 C (hW.ok k11) (show (sM Ω t2).2.1 = t2 from rfl) wm7_75 dX11_done_9 ?_
  cases hF
  exact r_ireturn C dX11_done_12
theorem dX11_tried_0 : decode cX11_tried 0 = .ok (.iload_n 1, 1) := by decide +kernel
theorem dX11_tried_1 : decode cX11_tried 1 = .ok (.ifCond .eq 16, 3) := by decide +kernel
theorem dX11_tried_4 : decode cX11_tried 4 = .ok (.aload_n 0, 1) := by decide +kernel
theorem dX11_tried_5 : decode cX11_tried 5 = .ok (.getfield 7, 3) := by decide +kernel
theorem dX11_tried_8 : decode cX11_tried 8 = .ok (.iconst 0, 1) := by decide +kernel
theorem dX11_tried_9 : decode cX11_tried 9 = .ok (.aload_n 0, 1) := by decide +kernel
theorem dX11_tried_10 : decode cX11_tried 10 = .ok (.getfield 16, 3) := by decide +kernel
theorem dX11_tried_13 : decode cX11_tried 13 = .ok (.iconst 0, 1) := by decide +kernel
theorem dX11_tried_14 : decode cX11_tried 14 = .ok (.invokestatic 61, 3) := by decide +kernel
theorem dX11_tried_17 : decode cX11_tried 17 = .ok (.iload_n 1, 1) := by decide +kernel
theorem dX11_tried_18 : decode cX11_tried 18 = .ok (.ireturn, 1) := by decide +kernel
def F_X11_tried (N : Nat) (a1 : Bool) (t : HV) : Option (Bool × (HV)) := (if a1 = true then (ob1 (F_X11_copies N 0 0 2 0 t) fun t2 => some (a1, t2)) else some (a1, t))
theorem c_X11_tried {w : WP} (hW : gWM w) {Ω : OM}  {t : HV} (e : Ω.2.1 = t) (N : Nat) (a1 : Bool) {v : Bool} {t' : HV} (hF : F_X11_tried N a1 t = some (v, t')) {Ω' : OM} (e2 : (sM Ω t') = Ω') : gM w 1 yX11_tried cX11_tried 2 (some .boolean) [.ref (wAd w (11, 12, 0, 0)), .int (b2i a1)] (cA w Ω) (some (.int (b2i v))) (cA w Ω') := by
  refine gM_of "HedgeMessagesModel" rfl (by decide) (kR rfl) fun X C => ?_
  unfold F_X11_tried at hF
  subst e2
  show gV w X _ _ 0 [(0, .ref (wAd w (11, 12, 0, 0))), (1, .int (b2i a1))] []
  refine r_ct (ct' := cA w (sM Ω t)) (congrArg (cA w) (sM_i e).symm) ?_
  refine r_iload_n C (k := 1) rfl rfl dX11_tried_0 ?_
  refine r_if_eq C (tgt := 17) rfl dX11_tried_1 (fun hc => ?_) (fun hc => ?_)
  · rw [if_neg (b2i_f hc)] at hF
    refine r_iload_n C (k := 1) rfl rfl dX11_tried_17 ?_
    cases hF
    exact r_zreturn C _ rfl dX11_tried_18
  · rw [if_pos (b2i_t hc)] at hF
    refine r_aload_n C (k := 0) rfl rfl dX11_tried_4 ?_
    refine og_11_0 C (hW.ok k11) wm7_67 dX11_tried_5 ?_
    refine r_iconst C (v := 0) rfl dX11_tried_8 ?_
    refine r_aload_n C (k := 0) rfl rfl dX11_tried_9 ?_
    refine og_11_2 C (hW.ok k11) wm7_69 dX11_tried_10 ?_
    refine r_iconst C (v := 0) rfl dX11_tried_13 ?_
    obtain ⟨t2, ht2, hF⟩ := ob1_e hF
    refine r_callS C (d' := 0) [.ref (wAd w (12, 12, 0, 0)), .int 0, .ref (wAd w (12, 12, 0, 2)), .int 0] (c_X11_copies hW (show (sM Ω t).2.1 = t from rfl) N 0 (by unfold okMa; decide) 0 2 (by unfold okMa; decide) 0 ht2 rfl) myX11_copies wm6_182 rfl (kR rfl) (by decide) (kR rfl) rfl dX11_tried_14 ?_
    refine r_iload_n C (k := 1) rfl rfl dX11_tried_17 ?_
    cases hF
    exact r_zreturn C _ rfl dX11_tried_18
theorem dX11_plant_0 : decode cX11_plant 0 = .ok (.aload_n 0, 1) := by decide +kernel
theorem dX11_plant_1 : decode cX11_plant 1 = .ok (.iload_n 1, 1) := by decide +kernel
theorem dX11_plant_2 : decode cX11_plant 2 = .ok (.invokevirtual 73, 3) := by decide +kernel
theorem dX11_plant_5 : decode cX11_plant 5 = .ok (.ifCond .eq 15, 3) := by decide +kernel
theorem dX11_plant_8 : decode cX11_plant 8 = .ok (.aload_n 0, 1) := by decide +kernel
theorem dX11_plant_9 : decode cX11_plant 9 = .ok (.iload_n 1, 1) := by decide +kernel
theorem dX11_plant_10 : decode cX11_plant 10 = .ok (.invokevirtual 194, 3) := by decide +kernel
theorem dX11_plant_13 : decode cX11_plant 13 = .ok (.ifCond .ne 7, 3) := by decide +kernel
theorem dX11_plant_16 : decode cX11_plant 16 = .ok (.iconst 1, 1) := by decide +kernel
theorem dX11_plant_17 : decode cX11_plant 17 = .ok (.goto 4, 3) := by decide +kernel
theorem dX11_plant_20 : decode cX11_plant 20 = .ok (.iconst 0, 1) := by decide +kernel
theorem dX11_plant_21 : decode cX11_plant 21 = .ok (.istore_n 3, 1) := by decide +kernel
theorem dX11_plant_22 : decode cX11_plant 22 = .ok (.aload_n 0, 1) := by decide +kernel
theorem dX11_plant_23 : decode cX11_plant 23 = .ok (.aload_n 0, 1) := by decide +kernel
theorem dX11_plant_24 : decode cX11_plant 24 = .ok (.aload_n 0, 1) := by decide +kernel
theorem dX11_plant_25 : decode cX11_plant 25 = .ok (.iload_n 1, 1) := by decide +kernel
theorem dX11_plant_26 : decode cX11_plant 26 = .ok (.invokevirtual 73, 3) := by decide +kernel
theorem dX11_plant_29 : decode cX11_plant 29 = .ok (.iload_n 2, 1) := by decide +kernel
theorem dX11_plant_30 : decode cX11_plant 30 = .ok (.i2l, 1) := by decide +kernel
theorem dX11_plant_31 : decode cX11_plant 31 = .ok (.ldc2_w 240, 3) := by decide +kernel
theorem dX11_plant_34 : decode cX11_plant 34 = .ok (.ldc2_w 242, 3) := by decide +kernel
theorem dX11_plant_37 : decode cX11_plant 37 = .ok (.invokestatic 65, 3) := by decide +kernel
theorem dX11_plant_40 : decode cX11_plant 40 = .ok (.iload_n 3, 1) := by decide +kernel
theorem dX11_plant_41 : decode cX11_plant 41 = .ok (.invokevirtual 421, 3) := by decide +kernel
theorem dX11_plant_44 : decode cX11_plant 44 = .ok (.invokevirtual 425, 3) := by decide +kernel
theorem dX11_plant_47 : decode cX11_plant 47 = .ok (.ifCond .eq 16, 3) := by decide +kernel
theorem dX11_plant_50 : decode cX11_plant 50 = .ok (.aload_n 0, 1) := by decide +kernel
theorem dX11_plant_51 : decode cX11_plant 51 = .ok (.aload_n 0, 1) := by decide +kernel
theorem dX11_plant_52 : decode cX11_plant 52 = .ok (.iload_n 1, 1) := by decide +kernel
theorem dX11_plant_53 : decode cX11_plant 53 = .ok (.iload_n 2, 1) := by decide +kernel
theorem dX11_plant_54 : decode cX11_plant 54 = .ok (.invokevirtual 354, 3) := by decide +kernel
theorem dX11_plant_57 : decode cX11_plant 57 = .ok (.invokevirtual 428, 3) := by decide +kernel
theorem dX11_plant_60 : decode cX11_plant 60 = .ok (.goto 4, 3) := by decide +kernel
theorem dX11_plant_63 : decode cX11_plant 63 = .ok (.iconst 0, 1) := by decide +kernel
theorem dX11_plant_64 : decode cX11_plant 64 = .ok (.ireturn, 1) := by decide +kernel
def F_X11_plant (N : Nat) (a1 : Int32) (a2 : Int32) (t : HV) : Option (Int32 × (HV)) := (ob1 (F_X11_isSlot a1 t) fun v1 => (if v1 = true then (ob1 (F_X11_whyNotPlant N a1 t) fun v11 => (if v11 = 0 then (ob1 (F_X11_isSlot a1 t) fun v21 => (lt2 (F_X11_passesAll v21 (F_X11_in ((a2 : Int32).toInt64) (97 : Int64) (122 : Int64)) true t) fun v22 t23 => (ob (F_X11_tried N v22 t23) fun v24 t25 => (if v24 = true then (ob (F_X11_plantNow N a1 a2 t25) fun v26 t27 => (ob (F_X11_done N v26 t27) fun v28 t29 => some (v28, t29))) else some (0, t25))))) else (ob1 (F_X11_isSlot a1 t) fun v12 => (lt2 (F_X11_passesAll v12 (F_X11_in ((a2 : Int32).toInt64) (97 : Int64) (122 : Int64)) false t) fun v13 t14 => (ob (F_X11_tried N v13 t14) fun v15 t16 => (if v15 = true then (ob (F_X11_plantNow N a1 a2 t16) fun v17 t18 => (ob (F_X11_done N v17 t18) fun v19 t20 => some (v19, t20))) else some (0, t16))))))) else (ob1 (F_X11_isSlot a1 t) fun v2 => (lt2 (F_X11_passesAll v2 (F_X11_in ((a2 : Int32).toInt64) (97 : Int64) (122 : Int64)) false t) fun v3 t4 => (ob (F_X11_tried N v3 t4) fun v5 t6 => (if v5 = true then (ob (F_X11_plantNow N a1 a2 t6) fun v7 t8 => (ob (F_X11_done N v7 t8) fun v9 t10 => some (v9, t10))) else some (0, t6)))))))
theorem c_X11_plant {w : WP} (hW : gWM w) {Ω : OM}  {t : HV} (e : Ω.2.1 = t) (N : Nat) (a1 : Int32) (a2 : Int32) {v : Int32} {t' : HV} (hF : F_X11_plant N a1 a2 t = some (v, t')) {Ω' : OM} (e2 : (sM Ω t') = Ω') : gM w 5 yX11_plant cX11_plant 4 (some .int) [.ref (wAd w (11, 12, 0, 0)), .int a1, .int a2] (cA w Ω) (some (.int v)) (cA w Ω') := by
  refine gM_of "HedgeMessagesModel" rfl (by decide) (kR rfl) fun X C => ?_
  unfold F_X11_plant at hF
  subst e2
  show gV w X _ _ 0 [(0, .ref (wAd w (11, 12, 0, 0))), (1, .int a1), (2, .int a2)] []
  refine r_ct (ct' := cA w (sM Ω t)) (congrArg (cA w) (sM_i e).symm) ?_
  refine r_aload_n C (k := 0) rfl rfl dX11_plant_0 ?_
  refine r_iload_n C (k := 1) rfl rfl dX11_plant_1 ?_
  obtain ⟨v1, hv1, hF⟩ := ob1_e hF
  refine r_callV C (d' := 1) [.int a1] (c_X11_isSlot hW (show (sM Ω t).2.1 = t from rfl) a1 hv1) myX11_isSlot wm7_27 ⟨_, _, _, _, (hW.ok k11), rfl, rfl, rfl, rfl⟩ rfl (kR rfl) (by decide) (kR rfl) rfl dX11_plant_2 ?_
  refine r_if_eq C (tgt := 20) rfl dX11_plant_5 (fun hc => ?_) (fun hc => ?_)
  · rw [if_neg (b2i_f hc)] at hF
    refine r_iconst C (v := 0) rfl dX11_plant_20 ?_
    refine r_istore_n C (lo' := [(3, .int 0), (0, .ref (wAd w (11, 12, 0, 0))), (1, .int a1), (2, .int a2)]) rfl (by decide) rfl dX11_plant_21 ?_
    refine r_aload_n C (k := 1) rfl rfl dX11_plant_22 ?_
    refine r_aload_n C (k := 1) rfl rfl dX11_plant_23 ?_
    refine r_aload_n C (k := 1) rfl rfl dX11_plant_24 ?_
    refine r_iload_n C (k := 2) rfl rfl dX11_plant_25 ?_
    obtain ⟨v2, hv2, hF⟩ := ob1_e hF
    refine r_callV C (d' := 1) [.int a1] (c_X11_isSlot hW (show (sM Ω t).2.1 = t from rfl) a1 hv2) myX11_isSlot wm7_27 ⟨_, _, _, _, (hW.ok k11), rfl, rfl, rfl, rfl⟩ rfl (kR rfl) (by decide) (kR rfl) rfl dX11_plant_26 ?_
    refine r_iload_n C (k := 3) rfl rfl dX11_plant_29 ?_
    refine r_i2l C (v := ((a2 : Int32).toInt64)) rfl dX11_plant_30 ?_
    refine r_ldc2 C wm6_206 dX11_plant_31 ?_
    refine r_ldc2 C wm6_207 dX11_plant_34 ?_
    refine r_callS C (d' := 0) [.long ((a2 : Int32).toInt64), .long (97 : Int64), .long (122 : Int64)] (c_X11_in ((a2 : Int32).toInt64) (97 : Int64) (122 : Int64) rfl) myX11_in wm6_208 rfl (kR rfl) (by decide) (kR rfl) rfl dX11_plant_37 ?_
    refine r_iload_n C (k := 0) rfl rfl dX11_plant_40 ?_
    obtain ⟨v3, t4, ht4, hF⟩ := lt2_e hF
    refine r_callV C (d' := 0) [.int (b2i v2), .int (b2i (F_X11_in ((a2 : Int32).toInt64) (97 : Int64) (122 : Int64))), .int (b2i false)] (c_X11_passesAll hW (show (sM Ω t).2.1 = t from rfl) v2 (F_X11_in ((a2 : Int32).toInt64) (97 : Int64) (122 : Int64)) false ht4 rfl) myX11_passesAll wm9_120 ⟨_, _, _, _, (hW.ok k11), rfl, rfl, rfl, rfl⟩ rfl (kR rfl) (by decide) (kR rfl) rfl dX11_plant_41 ?_
    obtain ⟨v5, t6, ht6, hF⟩ := ob_e hF
    refine r_callV C (d' := 1) [.int (b2i v3)] (c_X11_tried hW (show (sM Ω t4).2.1 = t4 from rfl) N v3 ht6 rfl) myX11_tried wm9_124 ⟨_, _, _, _, (hW.ok k11), rfl, rfl, rfl, rfl⟩ rfl (kR rfl) (by decide) (kR rfl) rfl dX11_plant_44 ?_
    refine r_if_eq C (tgt := 63) rfl dX11_plant_47 (fun hc => ?_) (fun hc => ?_)
    · rw [if_neg (b2i_f hc)] at hF
      refine r_iconst C (v := 0) rfl dX11_plant_63 ?_
      cases hF
      exact r_ireturn C dX11_plant_64
    · rw [if_pos (b2i_t hc)] at hF
      refine r_aload_n C (k := 1) rfl rfl dX11_plant_50 ?_
      refine r_aload_n C (k := 1) rfl rfl dX11_plant_51 ?_
      refine r_iload_n C (k := 2) rfl rfl dX11_plant_52 ?_
      refine r_iload_n C (k := 3) rfl rfl dX11_plant_53 ?_
      obtain ⟨v7, t8, ht8, hF⟩ := ob_e hF
      refine r_callV C (d' := 4) [.int a1, .int a2] (c_X11_plantNow hW (show (sM Ω t6).2.1 = t6 from rfl) N a1 a2 ht8 rfl) myX11_plantNow wm7_204 ⟨_, _, _, _, (hW.ok k11), rfl, rfl, rfl, rfl⟩ rfl (kR rfl) (by decide) (kR rfl) rfl dX11_plant_54 ?_
      obtain ⟨v9, t10, ht10, hF⟩ := ob_e hF
      refine r_callV C (d' := 2) [.int (b2i v7)] (c_X11_done hW (show (sM Ω t8).2.1 = t8 from rfl) N v7 ht10 rfl) myX11_done wm9_128 ⟨_, _, _, _, (hW.ok k11), rfl, rfl, rfl, rfl⟩ rfl (kR rfl) (by decide) (kR rfl) rfl dX11_plant_57 ?_
      refine r_goto C (tgt := 64) rfl dX11_plant_60 ?_
      cases hF
      exact r_ireturn C dX11_plant_64
  · rw [if_pos (b2i_t hc)] at hF
    refine r_aload_n C (k := 0) rfl rfl dX11_plant_8 ?_
    refine r_iload_n C (k := 1) rfl rfl dX11_plant_9 ?_
    obtain ⟨v11, hv11, hF⟩ := ob1_e hF
    refine r_callV C (d' := 3) [.int a1] (c_X11_whyNotPlant hW (show (sM Ω t).2.1 = t from rfl) N a1 hv11) myX11_whyNotPlant wm7_208 ⟨_, _, _, _, (hW.ok k11), rfl, rfl, rfl, rfl⟩ rfl (kR rfl) (by decide) (kR rfl) rfl dX11_plant_10 ?_
    refine r_if_ne C (tgt := 20) rfl dX11_plant_13 (fun hc => ?_) (fun hc => ?_)
    · rw [if_neg hc] at hF
      refine r_iconst C (v := 0) rfl dX11_plant_20 ?_
      refine r_istore_n C (lo' := [(3, .int 0), (0, .ref (wAd w (11, 12, 0, 0))), (1, .int a1), (2, .int a2)]) rfl (by decide) rfl dX11_plant_21 ?_
      refine r_aload_n C (k := 1) rfl rfl dX11_plant_22 ?_
      refine r_aload_n C (k := 1) rfl rfl dX11_plant_23 ?_
      refine r_aload_n C (k := 1) rfl rfl dX11_plant_24 ?_
      refine r_iload_n C (k := 2) rfl rfl dX11_plant_25 ?_
      obtain ⟨v12, hv12, hF⟩ := ob1_e hF
      refine r_callV C (d' := 1) [.int a1] (c_X11_isSlot hW (show (sM Ω t).2.1 = t from rfl) a1 hv12) myX11_isSlot wm7_27 ⟨_, _, _, _, (hW.ok k11), rfl, rfl, rfl, rfl⟩ rfl (kR rfl) (by decide) (kR rfl) rfl dX11_plant_26 ?_
      refine r_iload_n C (k := 3) rfl rfl dX11_plant_29 ?_
      refine r_i2l C (v := ((a2 : Int32).toInt64)) rfl dX11_plant_30 ?_
      refine r_ldc2 C wm6_206 dX11_plant_31 ?_
      refine r_ldc2 C wm6_207 dX11_plant_34 ?_
      refine r_callS C (d' := 0) [.long ((a2 : Int32).toInt64), .long (97 : Int64), .long (122 : Int64)] (c_X11_in ((a2 : Int32).toInt64) (97 : Int64) (122 : Int64) rfl) myX11_in wm6_208 rfl (kR rfl) (by decide) (kR rfl) rfl dX11_plant_37 ?_
      refine r_iload_n C (k := 0) rfl rfl dX11_plant_40 ?_
      obtain ⟨v13, t14, ht14, hF⟩ := lt2_e hF
      refine r_callV C (d' := 0) [.int (b2i v12), .int (b2i (F_X11_in ((a2 : Int32).toInt64) (97 : Int64) (122 : Int64))), .int (b2i false)] (c_X11_passesAll hW (show (sM Ω t).2.1 = t from rfl) v12 (F_X11_in ((a2 : Int32).toInt64) (97 : Int64) (122 : Int64)) false ht14 rfl) myX11_passesAll wm9_120 ⟨_, _, _, _, (hW.ok k11), rfl, rfl, rfl, rfl⟩ rfl (kR rfl) (by decide) (kR rfl) rfl dX11_plant_41 ?_
      obtain ⟨v15, t16, ht16, hF⟩ := ob_e hF
      refine r_callV C (d' := 1) [.int (b2i v13)] (c_X11_tried hW (show (sM Ω t14).2.1 = t14 from rfl) N v13 ht16 rfl) myX11_tried wm9_124 ⟨_, _, _, _, (hW.ok k11), rfl, rfl, rfl, rfl⟩ rfl (kR rfl) (by decide) (kR rfl) rfl dX11_plant_44 ?_
      refine r_if_eq C (tgt := 63) rfl dX11_plant_47 (fun hc => ?_) (fun hc => ?_)
      · rw [if_neg (b2i_f hc)] at hF
        refine r_iconst C (v := 0) rfl dX11_plant_63 ?_
        cases hF
        exact r_ireturn C dX11_plant_64
      · rw [if_pos (b2i_t hc)] at hF
        refine r_aload_n C (k := 1) rfl rfl dX11_plant_50 ?_
        refine r_aload_n C (k := 1) rfl rfl dX11_plant_51 ?_
        refine r_iload_n C (k := 2) rfl rfl dX11_plant_52 ?_
        refine r_iload_n C (k := 3) rfl rfl dX11_plant_53 ?_
        obtain ⟨v17, t18, ht18, hF⟩ := ob_e hF
        refine r_callV C (d' := 4) [.int a1, .int a2] (c_X11_plantNow hW (show (sM Ω t16).2.1 = t16 from rfl) N a1 a2 ht18 rfl) myX11_plantNow wm7_204 ⟨_, _, _, _, (hW.ok k11), rfl, rfl, rfl, rfl⟩ rfl (kR rfl) (by decide) (kR rfl) rfl dX11_plant_54 ?_
        obtain ⟨v19, t20, ht20, hF⟩ := ob_e hF
        refine r_callV C (d' := 2) [.int (b2i v17)] (c_X11_done hW (show (sM Ω t18).2.1 = t18 from rfl) N v17 ht20 rfl) myX11_done wm9_128 ⟨_, _, _, _, (hW.ok k11), rfl, rfl, rfl, rfl⟩ rfl (kR rfl) (by decide) (kR rfl) rfl dX11_plant_57 ?_
        refine r_goto C (tgt := 64) rfl dX11_plant_60 ?_
        cases hF
        exact r_ireturn C dX11_plant_64
    · rw [if_pos hc] at hF
      refine r_iconst C (v := 1) rfl dX11_plant_16 ?_
      refine r_goto C (tgt := 21) rfl dX11_plant_17 ?_
      refine r_istore_n C (lo' := [(3, .int 1), (0, .ref (wAd w (11, 12, 0, 0))), (1, .int a1), (2, .int a2)]) rfl (by decide) rfl dX11_plant_21 ?_
      refine r_aload_n C (k := 1) rfl rfl dX11_plant_22 ?_
      refine r_aload_n C (k := 1) rfl rfl dX11_plant_23 ?_
      refine r_aload_n C (k := 1) rfl rfl dX11_plant_24 ?_
      refine r_iload_n C (k := 2) rfl rfl dX11_plant_25 ?_
      obtain ⟨v21, hv21, hF⟩ := ob1_e hF
      refine r_callV C (d' := 1) [.int a1] (c_X11_isSlot hW (show (sM Ω t).2.1 = t from rfl) a1 hv21) myX11_isSlot wm7_27 ⟨_, _, _, _, (hW.ok k11), rfl, rfl, rfl, rfl⟩ rfl (kR rfl) (by decide) (kR rfl) rfl dX11_plant_26 ?_
      refine r_iload_n C (k := 3) rfl rfl dX11_plant_29 ?_
      refine r_i2l C (v := ((a2 : Int32).toInt64)) rfl dX11_plant_30 ?_
      refine r_ldc2 C wm6_206 dX11_plant_31 ?_
      refine r_ldc2 C wm6_207 dX11_plant_34 ?_
      refine r_callS C (d' := 0) [.long ((a2 : Int32).toInt64), .long (97 : Int64), .long (122 : Int64)] (c_X11_in ((a2 : Int32).toInt64) (97 : Int64) (122 : Int64) rfl) myX11_in wm6_208 rfl (kR rfl) (by decide) (kR rfl) rfl dX11_plant_37 ?_
      refine r_iload_n C (k := 0) rfl rfl dX11_plant_40 ?_
      obtain ⟨v22, t23, ht23, hF⟩ := lt2_e hF
      refine r_callV C (d' := 0) [.int (b2i v21), .int (b2i (F_X11_in ((a2 : Int32).toInt64) (97 : Int64) (122 : Int64))), .int (b2i true)] (c_X11_passesAll hW (show (sM Ω t).2.1 = t from rfl) v21 (F_X11_in ((a2 : Int32).toInt64) (97 : Int64) (122 : Int64)) true ht23 rfl) myX11_passesAll wm9_120 ⟨_, _, _, _, (hW.ok k11), rfl, rfl, rfl, rfl⟩ rfl (kR rfl) (by decide) (kR rfl) rfl dX11_plant_41 ?_
      obtain ⟨v24, t25, ht25, hF⟩ := ob_e hF
      refine r_callV C (d' := 1) [.int (b2i v22)] (c_X11_tried hW (show (sM Ω t23).2.1 = t23 from rfl) N v22 ht25 rfl) myX11_tried wm9_124 ⟨_, _, _, _, (hW.ok k11), rfl, rfl, rfl, rfl⟩ rfl (kR rfl) (by decide) (kR rfl) rfl dX11_plant_44 ?_
      refine r_if_eq C (tgt := 63) rfl dX11_plant_47 (fun hc => ?_) (fun hc => ?_)
      · rw [if_neg (b2i_f hc)] at hF
        refine r_iconst C (v := 0) rfl dX11_plant_63 ?_
        cases hF
        exact r_ireturn C dX11_plant_64
      · rw [if_pos (b2i_t hc)] at hF
        refine r_aload_n C (k := 1) rfl rfl dX11_plant_50 ?_
        refine r_aload_n C (k := 1) rfl rfl dX11_plant_51 ?_
        refine r_iload_n C (k := 2) rfl rfl dX11_plant_52 ?_
        refine r_iload_n C (k := 3) rfl rfl dX11_plant_53 ?_
        obtain ⟨v26, t27, ht27, hF⟩ := ob_e hF
        refine r_callV C (d' := 4) [.int a1, .int a2] (c_X11_plantNow hW (show (sM Ω t25).2.1 = t25 from rfl) N a1 a2 ht27 rfl) myX11_plantNow wm7_204 ⟨_, _, _, _, (hW.ok k11), rfl, rfl, rfl, rfl⟩ rfl (kR rfl) (by decide) (kR rfl) rfl dX11_plant_54 ?_
        obtain ⟨v28, t29, ht29, hF⟩ := ob_e hF
        refine r_callV C (d' := 2) [.int (b2i v26)] (c_X11_done hW (show (sM Ω t27).2.1 = t27 from rfl) N v26 ht29 rfl) myX11_done wm9_128 ⟨_, _, _, _, (hW.ok k11), rfl, rfl, rfl, rfl⟩ rfl (kR rfl) (by decide) (kR rfl) rfl dX11_plant_57 ?_
        refine r_goto C (tgt := 64) rfl dX11_plant_60 ?_
        cases hF
        exact r_ireturn C dX11_plant_64
theorem dX11_remove_0 : decode cX11_remove 0 = .ok (.aload_n 0, 1) := by decide +kernel
theorem dX11_remove_1 : decode cX11_remove 1 = .ok (.aload_n 0, 1) := by decide +kernel
theorem dX11_remove_2 : decode cX11_remove 2 = .ok (.aload_n 0, 1) := by decide +kernel
theorem dX11_remove_3 : decode cX11_remove 3 = .ok (.iload_n 1, 1) := by decide +kernel
theorem dX11_remove_4 : decode cX11_remove 4 = .ok (.invokevirtual 73, 3) := by decide +kernel
theorem dX11_remove_7 : decode cX11_remove 7 = .ok (.aload_n 0, 1) := by decide +kernel
theorem dX11_remove_8 : decode cX11_remove 8 = .ok (.iload_n 1, 1) := by decide +kernel
theorem dX11_remove_9 : decode cX11_remove 9 = .ok (.invokevirtual 73, 3) := by decide +kernel
theorem dX11_remove_12 : decode cX11_remove 12 = .ok (.ifCond .eq 15, 3) := by decide +kernel
theorem dX11_remove_15 : decode cX11_remove 15 = .ok (.aload_n 0, 1) := by decide +kernel
theorem dX11_remove_16 : decode cX11_remove 16 = .ok (.iload_n 1, 1) := by decide +kernel
theorem dX11_remove_17 : decode cX11_remove 17 = .ok (.invokevirtual 203, 3) := by decide +kernel
theorem dX11_remove_20 : decode cX11_remove 20 = .ok (.ifCond .ne 7, 3) := by decide +kernel
theorem dX11_remove_23 : decode cX11_remove 23 = .ok (.iconst 1, 1) := by decide +kernel
theorem dX11_remove_24 : decode cX11_remove 24 = .ok (.goto 4, 3) := by decide +kernel
theorem dX11_remove_27 : decode cX11_remove 27 = .ok (.iconst 0, 1) := by decide +kernel
theorem dX11_remove_28 : decode cX11_remove 28 = .ok (.invokevirtual 431, 3) := by decide +kernel
theorem dX11_remove_31 : decode cX11_remove 31 = .ok (.invokevirtual 425, 3) := by decide +kernel
theorem dX11_remove_34 : decode cX11_remove 34 = .ok (.ifCond .eq 15, 3) := by decide +kernel
theorem dX11_remove_37 : decode cX11_remove 37 = .ok (.aload_n 0, 1) := by decide +kernel
theorem dX11_remove_38 : decode cX11_remove 38 = .ok (.aload_n 0, 1) := by decide +kernel
theorem dX11_remove_39 : decode cX11_remove 39 = .ok (.iload_n 1, 1) := by decide +kernel
theorem dX11_remove_40 : decode cX11_remove 40 = .ok (.invokevirtual 357, 3) := by decide +kernel
theorem dX11_remove_43 : decode cX11_remove 43 = .ok (.invokevirtual 428, 3) := by decide +kernel
theorem dX11_remove_46 : decode cX11_remove 46 = .ok (.goto 4, 3) := by decide +kernel
theorem dX11_remove_49 : decode cX11_remove 49 = .ok (.iconst 0, 1) := by decide +kernel
theorem dX11_remove_50 : decode cX11_remove 50 = .ok (.ireturn, 1) := by decide +kernel
def F_X11_remove (N : Nat) (a1 : Int32) (t : HV) : Option (Int32 × (HV)) := (ob1 (F_X11_isSlot a1 t) fun v1 => (ob1 (F_X11_isSlot a1 t) fun v2 => (if v2 = true then (ob1 (F_X11_whyNotRemove a1 t) fun v11 => (if v11 = 0 then (lt2 (F_X11_passesBoth v1 true t) fun v20 t21 => (ob (F_X11_tried N v20 t21) fun v22 t23 => (if v22 = true then (ob (F_X11_removeNow N a1 t23) fun v24 t25 => (ob (F_X11_done N v24 t25) fun v26 t27 => some (v26, t27))) else some (0, t23)))) else (lt2 (F_X11_passesBoth v1 false t) fun v12 t13 => (ob (F_X11_tried N v12 t13) fun v14 t15 => (if v14 = true then (ob (F_X11_removeNow N a1 t15) fun v16 t17 => (ob (F_X11_done N v16 t17) fun v18 t19 => some (v18, t19))) else some (0, t15)))))) else (lt2 (F_X11_passesBoth v1 false t) fun v3 t4 => (ob (F_X11_tried N v3 t4) fun v5 t6 => (if v5 = true then (ob (F_X11_removeNow N a1 t6) fun v7 t8 => (ob (F_X11_done N v7 t8) fun v9 t10 => some (v9, t10))) else some (0, t6)))))))
theorem c_X11_remove {w : WP} (hW : gWM w) {Ω : OM}  {t : HV} (e : Ω.2.1 = t) (N : Nat) (a1 : Int32) {v : Int32} {t' : HV} (hF : F_X11_remove N a1 t = some (v, t')) {Ω' : OM} (e2 : (sM Ω t') = Ω') : gM w 6 yX11_remove cX11_remove 2 (some .int) [.ref (wAd w (11, 12, 0, 0)), .int a1] (cA w Ω) (some (.int v)) (cA w Ω') := by
  refine gM_of "HedgeMessagesModel" rfl (by decide) (kR rfl) fun X C => ?_
  unfold F_X11_remove at hF
  subst e2
  show gV w X _ _ 0 [(0, .ref (wAd w (11, 12, 0, 0))), (1, .int a1)] []
  refine r_ct (ct' := cA w (sM Ω t)) (congrArg (cA w) (sM_i e).symm) ?_
  refine r_aload_n C (k := 0) rfl rfl dX11_remove_0 ?_
  refine r_aload_n C (k := 0) rfl rfl dX11_remove_1 ?_
  refine r_aload_n C (k := 0) rfl rfl dX11_remove_2 ?_
  refine r_iload_n C (k := 1) rfl rfl dX11_remove_3 ?_
  obtain ⟨v1, hv1, hF⟩ := ob1_e hF
  refine r_callV C (d' := 1) [.int a1] (c_X11_isSlot hW (show (sM Ω t).2.1 = t from rfl) a1 hv1) myX11_isSlot wm7_27 ⟨_, _, _, _, (hW.ok k11), rfl, rfl, rfl, rfl⟩ rfl (kR rfl) (by decide) (kR rfl) rfl dX11_remove_4 ?_
  refine r_aload_n C (k := 0) rfl rfl dX11_remove_7 ?_
  refine r_iload_n C (k := 1) rfl rfl dX11_remove_8 ?_
  obtain ⟨v2, hv2, hF⟩ := ob1_e hF
  refine r_callV C (d' := 1) [.int a1] (c_X11_isSlot hW (show (sM Ω t).2.1 = t from rfl) a1 hv2) myX11_isSlot wm7_27 ⟨_, _, _, _, (hW.ok k11), rfl, rfl, rfl, rfl⟩ rfl (kR rfl) (by decide) (kR rfl) rfl dX11_remove_9 ?_
  refine r_if_eq C (tgt := 27) rfl dX11_remove_12 (fun hc => ?_) (fun hc => ?_)
  · rw [if_neg (b2i_f hc)] at hF
    refine r_iconst C (v := 0) rfl dX11_remove_27 ?_
    obtain ⟨v3, t4, ht4, hF⟩ := lt2_e hF
    refine r_callV C (d' := 0) [.int (b2i v1), .int (b2i false)] (c_X11_passesBoth hW (show (sM Ω t).2.1 = t from rfl) v1 false ht4 rfl) myX11_passesBoth wm9_136 ⟨_, _, _, _, (hW.ok k11), rfl, rfl, rfl, rfl⟩ rfl (kR rfl) (by decide) (kR rfl) rfl dX11_remove_28 ?_
    obtain ⟨v5, t6, ht6, hF⟩ := ob_e hF
    refine r_callV C (d' := 1) [.int (b2i v3)] (c_X11_tried hW (show (sM Ω t4).2.1 = t4 from rfl) N v3 ht6 rfl) myX11_tried wm9_124 ⟨_, _, _, _, (hW.ok k11), rfl, rfl, rfl, rfl⟩ rfl (kR rfl) (by decide) (kR rfl) rfl dX11_remove_31 ?_
    refine r_if_eq C (tgt := 49) rfl dX11_remove_34 (fun hc => ?_) (fun hc => ?_)
    · rw [if_neg (b2i_f hc)] at hF
      refine r_iconst C (v := 0) rfl dX11_remove_49 ?_
      cases hF
      exact r_ireturn C dX11_remove_50
    · rw [if_pos (b2i_t hc)] at hF
      refine r_aload_n C (k := 0) rfl rfl dX11_remove_37 ?_
      refine r_aload_n C (k := 0) rfl rfl dX11_remove_38 ?_
      refine r_iload_n C (k := 1) rfl rfl dX11_remove_39 ?_
      obtain ⟨v7, t8, ht8, hF⟩ := ob_e hF
      refine r_callV C (d' := 5) [.int a1] (c_X11_removeNow hW (show (sM Ω t6).2.1 = t6 from rfl) N a1 ht8 rfl) myX11_removeNow wm7_234 ⟨_, _, _, _, (hW.ok k11), rfl, rfl, rfl, rfl⟩ rfl (kR rfl) (by decide) (kR rfl) rfl dX11_remove_40 ?_
      obtain ⟨v9, t10, ht10, hF⟩ := ob_e hF
      refine r_callV C (d' := 2) [.int (b2i v7)] (c_X11_done hW (show (sM Ω t8).2.1 = t8 from rfl) N v7 ht10 rfl) myX11_done wm9_128 ⟨_, _, _, _, (hW.ok k11), rfl, rfl, rfl, rfl⟩ rfl (kR rfl) (by decide) (kR rfl) rfl dX11_remove_43 ?_
      refine r_goto C (tgt := 50) rfl dX11_remove_46 ?_
      cases hF
      exact r_ireturn C dX11_remove_50
  · rw [if_pos (b2i_t hc)] at hF
    refine r_aload_n C (k := 0) rfl rfl dX11_remove_15 ?_
    refine r_iload_n C (k := 1) rfl rfl dX11_remove_16 ?_
    obtain ⟨v11, hv11, hF⟩ := ob1_e hF
    refine r_callV C (d' := 4) [.int a1] (c_X11_whyNotRemove hW (show (sM Ω t).2.1 = t from rfl) a1 hv11) myX11_whyNotRemove wm7_238 ⟨_, _, _, _, (hW.ok k11), rfl, rfl, rfl, rfl⟩ rfl (kR rfl) (by decide) (kR rfl) rfl dX11_remove_17 ?_
    refine r_if_ne C (tgt := 27) rfl dX11_remove_20 (fun hc => ?_) (fun hc => ?_)
    · rw [if_neg hc] at hF
      refine r_iconst C (v := 0) rfl dX11_remove_27 ?_
      obtain ⟨v12, t13, ht13, hF⟩ := lt2_e hF
      refine r_callV C (d' := 0) [.int (b2i v1), .int (b2i false)] (c_X11_passesBoth hW (show (sM Ω t).2.1 = t from rfl) v1 false ht13 rfl) myX11_passesBoth wm9_136 ⟨_, _, _, _, (hW.ok k11), rfl, rfl, rfl, rfl⟩ rfl (kR rfl) (by decide) (kR rfl) rfl dX11_remove_28 ?_
      obtain ⟨v14, t15, ht15, hF⟩ := ob_e hF
      refine r_callV C (d' := 1) [.int (b2i v12)] (c_X11_tried hW (show (sM Ω t13).2.1 = t13 from rfl) N v12 ht15 rfl) myX11_tried wm9_124 ⟨_, _, _, _, (hW.ok k11), rfl, rfl, rfl, rfl⟩ rfl (kR rfl) (by decide) (kR rfl) rfl dX11_remove_31 ?_
      refine r_if_eq C (tgt := 49) rfl dX11_remove_34 (fun hc => ?_) (fun hc => ?_)
      · rw [if_neg (b2i_f hc)] at hF
        refine r_iconst C (v := 0) rfl dX11_remove_49 ?_
        cases hF
        exact r_ireturn C dX11_remove_50
      · rw [if_pos (b2i_t hc)] at hF
        refine r_aload_n C (k := 0) rfl rfl dX11_remove_37 ?_
        refine r_aload_n C (k := 0) rfl rfl dX11_remove_38 ?_
        refine r_iload_n C (k := 1) rfl rfl dX11_remove_39 ?_
        obtain ⟨v16, t17, ht17, hF⟩ := ob_e hF
        refine r_callV C (d' := 5) [.int a1] (c_X11_removeNow hW (show (sM Ω t15).2.1 = t15 from rfl) N a1 ht17 rfl) myX11_removeNow wm7_234 ⟨_, _, _, _, (hW.ok k11), rfl, rfl, rfl, rfl⟩ rfl (kR rfl) (by decide) (kR rfl) rfl dX11_remove_40 ?_
        obtain ⟨v18, t19, ht19, hF⟩ := ob_e hF
        refine r_callV C (d' := 2) [.int (b2i v16)] (c_X11_done hW (show (sM Ω t17).2.1 = t17 from rfl) N v16 ht19 rfl) myX11_done wm9_128 ⟨_, _, _, _, (hW.ok k11), rfl, rfl, rfl, rfl⟩ rfl (kR rfl) (by decide) (kR rfl) rfl dX11_remove_43 ?_
        refine r_goto C (tgt := 50) rfl dX11_remove_46 ?_
        cases hF
        exact r_ireturn C dX11_remove_50
    · rw [if_pos hc] at hF
      refine r_iconst C (v := 1) rfl dX11_remove_23 ?_
      refine r_goto C (tgt := 28) rfl dX11_remove_24 ?_
      obtain ⟨v20, t21, ht21, hF⟩ := lt2_e hF
      refine r_callV C (d' := 0) [.int (b2i v1), .int (b2i true)] (c_X11_passesBoth hW (show (sM Ω t).2.1 = t from rfl) v1 true ht21 rfl) myX11_passesBoth wm9_136 ⟨_, _, _, _, (hW.ok k11), rfl, rfl, rfl, rfl⟩ rfl (kR rfl) (by decide) (kR rfl) rfl dX11_remove_28 ?_
      obtain ⟨v22, t23, ht23, hF⟩ := ob_e hF
      refine r_callV C (d' := 1) [.int (b2i v20)] (c_X11_tried hW (show (sM Ω t21).2.1 = t21 from rfl) N v20 ht23 rfl) myX11_tried wm9_124 ⟨_, _, _, _, (hW.ok k11), rfl, rfl, rfl, rfl⟩ rfl (kR rfl) (by decide) (kR rfl) rfl dX11_remove_31 ?_
      refine r_if_eq C (tgt := 49) rfl dX11_remove_34 (fun hc => ?_) (fun hc => ?_)
      · rw [if_neg (b2i_f hc)] at hF
        refine r_iconst C (v := 0) rfl dX11_remove_49 ?_
        cases hF
        exact r_ireturn C dX11_remove_50
      · rw [if_pos (b2i_t hc)] at hF
        refine r_aload_n C (k := 0) rfl rfl dX11_remove_37 ?_
        refine r_aload_n C (k := 0) rfl rfl dX11_remove_38 ?_
        refine r_iload_n C (k := 1) rfl rfl dX11_remove_39 ?_
        obtain ⟨v24, t25, ht25, hF⟩ := ob_e hF
        refine r_callV C (d' := 5) [.int a1] (c_X11_removeNow hW (show (sM Ω t23).2.1 = t23 from rfl) N a1 ht25 rfl) myX11_removeNow wm7_234 ⟨_, _, _, _, (hW.ok k11), rfl, rfl, rfl, rfl⟩ rfl (kR rfl) (by decide) (kR rfl) rfl dX11_remove_40 ?_
        obtain ⟨v26, t27, ht27, hF⟩ := ob_e hF
        refine r_callV C (d' := 2) [.int (b2i v24)] (c_X11_done hW (show (sM Ω t25).2.1 = t25 from rfl) N v24 ht27 rfl) myX11_done wm9_128 ⟨_, _, _, _, (hW.ok k11), rfl, rfl, rfl, rfl⟩ rfl (kR rfl) (by decide) (kR rfl) rfl dX11_remove_43 ?_
        refine r_goto C (tgt := 50) rfl dX11_remove_46 ?_
        cases hF
        exact r_ireturn C dX11_remove_50
theorem dX11_trim_0 : decode cX11_trim 0 = .ok (.aload_n 0, 1) := by decide +kernel
theorem dX11_trim_1 : decode cX11_trim 1 = .ok (.iload_n 1, 1) := by decide +kernel
theorem dX11_trim_2 : decode cX11_trim 2 = .ok (.invokevirtual 73, 3) := by decide +kernel
theorem dX11_trim_5 : decode cX11_trim 5 = .ok (.ifCond .eq 15, 3) := by decide +kernel
theorem dX11_trim_8 : decode cX11_trim 8 = .ok (.aload_n 0, 1) := by decide +kernel
theorem dX11_trim_9 : decode cX11_trim 9 = .ok (.iload_n 1, 1) := by decide +kernel
theorem dX11_trim_10 : decode cX11_trim 10 = .ok (.invokevirtual 206, 3) := by decide +kernel
theorem dX11_trim_13 : decode cX11_trim 13 = .ok (.ifCond .ne 7, 3) := by decide +kernel
theorem dX11_trim_16 : decode cX11_trim 16 = .ok (.iconst 1, 1) := by decide +kernel
theorem dX11_trim_17 : decode cX11_trim 17 = .ok (.goto 4, 3) := by decide +kernel
theorem dX11_trim_20 : decode cX11_trim 20 = .ok (.iconst 0, 1) := by decide +kernel
theorem dX11_trim_21 : decode cX11_trim 21 = .ok (.istore_n 3, 1) := by decide +kernel
theorem dX11_trim_22 : decode cX11_trim 22 = .ok (.aload_n 0, 1) := by decide +kernel
theorem dX11_trim_23 : decode cX11_trim 23 = .ok (.aload_n 0, 1) := by decide +kernel
theorem dX11_trim_24 : decode cX11_trim 24 = .ok (.aload_n 0, 1) := by decide +kernel
theorem dX11_trim_25 : decode cX11_trim 25 = .ok (.iload_n 1, 1) := by decide +kernel
theorem dX11_trim_26 : decode cX11_trim 26 = .ok (.invokevirtual 73, 3) := by decide +kernel
theorem dX11_trim_29 : decode cX11_trim 29 = .ok (.iload_n 2, 1) := by decide +kernel
theorem dX11_trim_30 : decode cX11_trim 30 = .ok (.i2l, 1) := by decide +kernel
theorem dX11_trim_31 : decode cX11_trim 31 = .ok (.lconst 1, 1) := by decide +kernel
theorem dX11_trim_32 : decode cX11_trim 32 = .ok (.ldc2_w 435, 3) := by decide +kernel
theorem dX11_trim_35 : decode cX11_trim 35 = .ok (.invokestatic 65, 3) := by decide +kernel
theorem dX11_trim_38 : decode cX11_trim 38 = .ok (.iload_n 3, 1) := by decide +kernel
theorem dX11_trim_39 : decode cX11_trim 39 = .ok (.invokevirtual 421, 3) := by decide +kernel
theorem dX11_trim_42 : decode cX11_trim 42 = .ok (.invokevirtual 425, 3) := by decide +kernel
theorem dX11_trim_45 : decode cX11_trim 45 = .ok (.ifCond .eq 16, 3) := by decide +kernel
theorem dX11_trim_48 : decode cX11_trim 48 = .ok (.aload_n 0, 1) := by decide +kernel
theorem dX11_trim_49 : decode cX11_trim 49 = .ok (.aload_n 0, 1) := by decide +kernel
theorem dX11_trim_50 : decode cX11_trim 50 = .ok (.iload_n 1, 1) := by decide +kernel
theorem dX11_trim_51 : decode cX11_trim 51 = .ok (.iload_n 2, 1) := by decide +kernel
theorem dX11_trim_52 : decode cX11_trim 52 = .ok (.invokevirtual 360, 3) := by decide +kernel
theorem dX11_trim_55 : decode cX11_trim 55 = .ok (.invokevirtual 428, 3) := by decide +kernel
theorem dX11_trim_58 : decode cX11_trim 58 = .ok (.goto 4, 3) := by decide +kernel
theorem dX11_trim_61 : decode cX11_trim 61 = .ok (.iconst 0, 1) := by decide +kernel
theorem dX11_trim_62 : decode cX11_trim 62 = .ok (.ireturn, 1) := by decide +kernel
def F_X11_trim (N : Nat) (a1 : Int32) (a2 : Int32) (t : HV) : Option (Int32 × (HV)) := (ob1 (F_X11_isSlot a1 t) fun v1 => (if v1 = true then (ob1 (F_X11_whyNotTrim a1 t) fun v11 => (if v11 = 0 then (ob1 (F_X11_isSlot a1 t) fun v21 => (lt2 (F_X11_passesAll v21 (F_X11_in ((a2 : Int32).toInt64) (1 : Int64) (99 : Int64)) true t) fun v22 t23 => (ob (F_X11_tried N v22 t23) fun v24 t25 => (if v24 = true then (ob (F_X11_trimNow a1 a2 t25) fun v26 t27 => (ob (F_X11_done N v26 t27) fun v28 t29 => some (v28, t29))) else some (0, t25))))) else (ob1 (F_X11_isSlot a1 t) fun v12 => (lt2 (F_X11_passesAll v12 (F_X11_in ((a2 : Int32).toInt64) (1 : Int64) (99 : Int64)) false t) fun v13 t14 => (ob (F_X11_tried N v13 t14) fun v15 t16 => (if v15 = true then (ob (F_X11_trimNow a1 a2 t16) fun v17 t18 => (ob (F_X11_done N v17 t18) fun v19 t20 => some (v19, t20))) else some (0, t16))))))) else (ob1 (F_X11_isSlot a1 t) fun v2 => (lt2 (F_X11_passesAll v2 (F_X11_in ((a2 : Int32).toInt64) (1 : Int64) (99 : Int64)) false t) fun v3 t4 => (ob (F_X11_tried N v3 t4) fun v5 t6 => (if v5 = true then (ob (F_X11_trimNow a1 a2 t6) fun v7 t8 => (ob (F_X11_done N v7 t8) fun v9 t10 => some (v9, t10))) else some (0, t6)))))))
theorem c_X11_trim {w : WP} (hW : gWM w) {Ω : OM}  {t : HV} (e : Ω.2.1 = t) (N : Nat) (a1 : Int32) (a2 : Int32) {v : Int32} {t' : HV} (hF : F_X11_trim N a1 a2 t = some (v, t')) {Ω' : OM} (e2 : (sM Ω t') = Ω') : gM w 6 yX11_trim cX11_trim 4 (some .int) [.ref (wAd w (11, 12, 0, 0)), .int a1, .int a2] (cA w Ω) (some (.int v)) (cA w Ω') := by
  refine gM_of "HedgeMessagesModel" rfl (by decide) (kR rfl) fun X C => ?_
  unfold F_X11_trim at hF
  subst e2
  show gV w X _ _ 0 [(0, .ref (wAd w (11, 12, 0, 0))), (1, .int a1), (2, .int a2)] []
  refine r_ct (ct' := cA w (sM Ω t)) (congrArg (cA w) (sM_i e).symm) ?_
  refine r_aload_n C (k := 0) rfl rfl dX11_trim_0 ?_
  refine r_iload_n C (k := 1) rfl rfl dX11_trim_1 ?_
  obtain ⟨v1, hv1, hF⟩ := ob1_e hF
  refine r_callV C (d' := 1) [.int a1] (c_X11_isSlot hW (show (sM Ω t).2.1 = t from rfl) a1 hv1) myX11_isSlot wm7_27 ⟨_, _, _, _, (hW.ok k11), rfl, rfl, rfl, rfl⟩ rfl (kR rfl) (by decide) (kR rfl) rfl dX11_trim_2 ?_
  refine r_if_eq C (tgt := 20) rfl dX11_trim_5 (fun hc => ?_) (fun hc => ?_)
  · rw [if_neg (b2i_f hc)] at hF
    refine r_iconst C (v := 0) rfl dX11_trim_20 ?_
    refine r_istore_n C (lo' := [(3, .int 0), (0, .ref (wAd w (11, 12, 0, 0))), (1, .int a1), (2, .int a2)]) rfl (by decide) rfl dX11_trim_21 ?_
    refine r_aload_n C (k := 1) rfl rfl dX11_trim_22 ?_
    refine r_aload_n C (k := 1) rfl rfl dX11_trim_23 ?_
    refine r_aload_n C (k := 1) rfl rfl dX11_trim_24 ?_
    refine r_iload_n C (k := 2) rfl rfl dX11_trim_25 ?_
    obtain ⟨v2, hv2, hF⟩ := ob1_e hF
    refine r_callV C (d' := 1) [.int a1] (c_X11_isSlot hW (show (sM Ω t).2.1 = t from rfl) a1 hv2) myX11_isSlot wm7_27 ⟨_, _, _, _, (hW.ok k11), rfl, rfl, rfl, rfl⟩ rfl (kR rfl) (by decide) (kR rfl) rfl dX11_trim_26 ?_
    refine r_iload_n C (k := 3) rfl rfl dX11_trim_29 ?_
    refine r_i2l C (v := ((a2 : Int32).toInt64)) rfl dX11_trim_30 ?_
    refine r_lconst C (v := 1) rfl dX11_trim_31 ?_
    refine r_ldc2 C wm9_144 dX11_trim_32 ?_
    refine r_callS C (d' := 0) [.long ((a2 : Int32).toInt64), .long (1 : Int64), .long (99 : Int64)] (c_X11_in ((a2 : Int32).toInt64) (1 : Int64) (99 : Int64) rfl) myX11_in wm6_208 rfl (kR rfl) (by decide) (kR rfl) rfl dX11_trim_35 ?_
    refine r_iload_n C (k := 0) rfl rfl dX11_trim_38 ?_
    obtain ⟨v3, t4, ht4, hF⟩ := lt2_e hF
    refine r_callV C (d' := 0) [.int (b2i v2), .int (b2i (F_X11_in ((a2 : Int32).toInt64) (1 : Int64) (99 : Int64))), .int (b2i false)] (c_X11_passesAll hW (show (sM Ω t).2.1 = t from rfl) v2 (F_X11_in ((a2 : Int32).toInt64) (1 : Int64) (99 : Int64)) false ht4 rfl) myX11_passesAll wm9_120 ⟨_, _, _, _, (hW.ok k11), rfl, rfl, rfl, rfl⟩ rfl (kR rfl) (by decide) (kR rfl) rfl dX11_trim_39 ?_
    obtain ⟨v5, t6, ht6, hF⟩ := ob_e hF
    refine r_callV C (d' := 1) [.int (b2i v3)] (c_X11_tried hW (show (sM Ω t4).2.1 = t4 from rfl) N v3 ht6 rfl) myX11_tried wm9_124 ⟨_, _, _, _, (hW.ok k11), rfl, rfl, rfl, rfl⟩ rfl (kR rfl) (by decide) (kR rfl) rfl dX11_trim_42 ?_
    refine r_if_eq C (tgt := 61) rfl dX11_trim_45 (fun hc => ?_) (fun hc => ?_)
    · rw [if_neg (b2i_f hc)] at hF
      refine r_iconst C (v := 0) rfl dX11_trim_61 ?_
      cases hF
      exact r_ireturn C dX11_trim_62
    · rw [if_pos (b2i_t hc)] at hF
      refine r_aload_n C (k := 1) rfl rfl dX11_trim_48 ?_
      refine r_aload_n C (k := 1) rfl rfl dX11_trim_49 ?_
      refine r_iload_n C (k := 2) rfl rfl dX11_trim_50 ?_
      refine r_iload_n C (k := 3) rfl rfl dX11_trim_51 ?_
      obtain ⟨v7, t8, ht8, hF⟩ := ob_e hF
      refine r_callV C (d' := 5) [.int a1, .int a2] (c_X11_trimNow hW (show (sM Ω t6).2.1 = t6 from rfl) a1 a2 ht8 rfl) myX11_trimNow wm8_14 ⟨_, _, _, _, (hW.ok k11), rfl, rfl, rfl, rfl⟩ rfl (kR rfl) (by decide) (kR rfl) rfl dX11_trim_52 ?_
      obtain ⟨v9, t10, ht10, hF⟩ := ob_e hF
      refine r_callV C (d' := 2) [.int (b2i v7)] (c_X11_done hW (show (sM Ω t8).2.1 = t8 from rfl) N v7 ht10 rfl) myX11_done wm9_128 ⟨_, _, _, _, (hW.ok k11), rfl, rfl, rfl, rfl⟩ rfl (kR rfl) (by decide) (kR rfl) rfl dX11_trim_55 ?_
      refine r_goto C (tgt := 62) rfl dX11_trim_58 ?_
      cases hF
      exact r_ireturn C dX11_trim_62
  · rw [if_pos (b2i_t hc)] at hF
    refine r_aload_n C (k := 0) rfl rfl dX11_trim_8 ?_
    refine r_iload_n C (k := 1) rfl rfl dX11_trim_9 ?_
    obtain ⟨v11, hv11, hF⟩ := ob1_e hF
    refine r_callV C (d' := 4) [.int a1] (c_X11_whyNotTrim hW (show (sM Ω t).2.1 = t from rfl) a1 hv11) myX11_whyNotTrim wm8_18 ⟨_, _, _, _, (hW.ok k11), rfl, rfl, rfl, rfl⟩ rfl (kR rfl) (by decide) (kR rfl) rfl dX11_trim_10 ?_
    refine r_if_ne C (tgt := 20) rfl dX11_trim_13 (fun hc => ?_) (fun hc => ?_)
    · rw [if_neg hc] at hF
      refine r_iconst C (v := 0) rfl dX11_trim_20 ?_
      refine r_istore_n C (lo' := [(3, .int 0), (0, .ref (wAd w (11, 12, 0, 0))), (1, .int a1), (2, .int a2)]) rfl (by decide) rfl dX11_trim_21 ?_
      refine r_aload_n C (k := 1) rfl rfl dX11_trim_22 ?_
      refine r_aload_n C (k := 1) rfl rfl dX11_trim_23 ?_
      refine r_aload_n C (k := 1) rfl rfl dX11_trim_24 ?_
      refine r_iload_n C (k := 2) rfl rfl dX11_trim_25 ?_
      obtain ⟨v12, hv12, hF⟩ := ob1_e hF
      refine r_callV C (d' := 1) [.int a1] (c_X11_isSlot hW (show (sM Ω t).2.1 = t from rfl) a1 hv12) myX11_isSlot wm7_27 ⟨_, _, _, _, (hW.ok k11), rfl, rfl, rfl, rfl⟩ rfl (kR rfl) (by decide) (kR rfl) rfl dX11_trim_26 ?_
      refine r_iload_n C (k := 3) rfl rfl dX11_trim_29 ?_
      refine r_i2l C (v := ((a2 : Int32).toInt64)) rfl dX11_trim_30 ?_
      refine r_lconst C (v := 1) rfl dX11_trim_31 ?_
      refine r_ldc2 C wm9_144 dX11_trim_32 ?_
      refine r_callS C (d' := 0) [.long ((a2 : Int32).toInt64), .long (1 : Int64), .long (99 : Int64)] (c_X11_in ((a2 : Int32).toInt64) (1 : Int64) (99 : Int64) rfl) myX11_in wm6_208 rfl (kR rfl) (by decide) (kR rfl) rfl dX11_trim_35 ?_
      refine r_iload_n C (k := 0) rfl rfl dX11_trim_38 ?_
      obtain ⟨v13, t14, ht14, hF⟩ := lt2_e hF
      refine r_callV C (d' := 0) [.int (b2i v12), .int (b2i (F_X11_in ((a2 : Int32).toInt64) (1 : Int64) (99 : Int64))), .int (b2i false)] (c_X11_passesAll hW (show (sM Ω t).2.1 = t from rfl) v12 (F_X11_in ((a2 : Int32).toInt64) (1 : Int64) (99 : Int64)) false ht14 rfl) myX11_passesAll wm9_120 ⟨_, _, _, _, (hW.ok k11), rfl, rfl, rfl, rfl⟩ rfl (kR rfl) (by decide) (kR rfl) rfl dX11_trim_39 ?_
      obtain ⟨v15, t16, ht16, hF⟩ := ob_e hF
      refine r_callV C (d' := 1) [.int (b2i v13)] (c_X11_tried hW (show (sM Ω t14).2.1 = t14 from rfl) N v13 ht16 rfl) myX11_tried wm9_124 ⟨_, _, _, _, (hW.ok k11), rfl, rfl, rfl, rfl⟩ rfl (kR rfl) (by decide) (kR rfl) rfl dX11_trim_42 ?_
      refine r_if_eq C (tgt := 61) rfl dX11_trim_45 (fun hc => ?_) (fun hc => ?_)
      · rw [if_neg (b2i_f hc)] at hF
        refine r_iconst C (v := 0) rfl dX11_trim_61 ?_
        cases hF
        exact r_ireturn C dX11_trim_62
      · rw [if_pos (b2i_t hc)] at hF
        refine r_aload_n C (k := 1) rfl rfl dX11_trim_48 ?_
        refine r_aload_n C (k := 1) rfl rfl dX11_trim_49 ?_
        refine r_iload_n C (k := 2) rfl rfl dX11_trim_50 ?_
        refine r_iload_n C (k := 3) rfl rfl dX11_trim_51 ?_
        obtain ⟨v17, t18, ht18, hF⟩ := ob_e hF
        refine r_callV C (d' := 5) [.int a1, .int a2] (c_X11_trimNow hW (show (sM Ω t16).2.1 = t16 from rfl) a1 a2 ht18 rfl) myX11_trimNow wm8_14 ⟨_, _, _, _, (hW.ok k11), rfl, rfl, rfl, rfl⟩ rfl (kR rfl) (by decide) (kR rfl) rfl dX11_trim_52 ?_
        obtain ⟨v19, t20, ht20, hF⟩ := ob_e hF
        refine r_callV C (d' := 2) [.int (b2i v17)] (c_X11_done hW (show (sM Ω t18).2.1 = t18 from rfl) N v17 ht20 rfl) myX11_done wm9_128 ⟨_, _, _, _, (hW.ok k11), rfl, rfl, rfl, rfl⟩ rfl (kR rfl) (by decide) (kR rfl) rfl dX11_trim_55 ?_
        refine r_goto C (tgt := 62) rfl dX11_trim_58 ?_
        cases hF
        exact r_ireturn C dX11_trim_62
    · rw [if_pos hc] at hF
      refine r_iconst C (v := 1) rfl dX11_trim_16 ?_
      refine r_goto C (tgt := 21) rfl dX11_trim_17 ?_
      refine r_istore_n C (lo' := [(3, .int 1), (0, .ref (wAd w (11, 12, 0, 0))), (1, .int a1), (2, .int a2)]) rfl (by decide) rfl dX11_trim_21 ?_
      refine r_aload_n C (k := 1) rfl rfl dX11_trim_22 ?_
      refine r_aload_n C (k := 1) rfl rfl dX11_trim_23 ?_
      refine r_aload_n C (k := 1) rfl rfl dX11_trim_24 ?_
      refine r_iload_n C (k := 2) rfl rfl dX11_trim_25 ?_
      obtain ⟨v21, hv21, hF⟩ := ob1_e hF
      refine r_callV C (d' := 1) [.int a1] (c_X11_isSlot hW (show (sM Ω t).2.1 = t from rfl) a1 hv21) myX11_isSlot wm7_27 ⟨_, _, _, _, (hW.ok k11), rfl, rfl, rfl, rfl⟩ rfl (kR rfl) (by decide) (kR rfl) rfl dX11_trim_26 ?_
      refine r_iload_n C (k := 3) rfl rfl dX11_trim_29 ?_
      refine r_i2l C (v := ((a2 : Int32).toInt64)) rfl dX11_trim_30 ?_
      refine r_lconst C (v := 1) rfl dX11_trim_31 ?_
      refine r_ldc2 C wm9_144 dX11_trim_32 ?_
      refine r_callS C (d' := 0) [.long ((a2 : Int32).toInt64), .long (1 : Int64), .long (99 : Int64)] (c_X11_in ((a2 : Int32).toInt64) (1 : Int64) (99 : Int64) rfl) myX11_in wm6_208 rfl (kR rfl) (by decide) (kR rfl) rfl dX11_trim_35 ?_
      refine r_iload_n C (k := 0) rfl rfl dX11_trim_38 ?_
      obtain ⟨v22, t23, ht23, hF⟩ := lt2_e hF
      refine r_callV C (d' := 0) [.int (b2i v21), .int (b2i (F_X11_in ((a2 : Int32).toInt64) (1 : Int64) (99 : Int64))), .int (b2i true)] (c_X11_passesAll hW (show (sM Ω t).2.1 = t from rfl) v21 (F_X11_in ((a2 : Int32).toInt64) (1 : Int64) (99 : Int64)) true ht23 rfl) myX11_passesAll wm9_120 ⟨_, _, _, _, (hW.ok k11), rfl, rfl, rfl, rfl⟩ rfl (kR rfl) (by decide) (kR rfl) rfl dX11_trim_39 ?_
      obtain ⟨v24, t25, ht25, hF⟩ := ob_e hF
      refine r_callV C (d' := 1) [.int (b2i v22)] (c_X11_tried hW (show (sM Ω t23).2.1 = t23 from rfl) N v22 ht25 rfl) myX11_tried wm9_124 ⟨_, _, _, _, (hW.ok k11), rfl, rfl, rfl, rfl⟩ rfl (kR rfl) (by decide) (kR rfl) rfl dX11_trim_42 ?_
      refine r_if_eq C (tgt := 61) rfl dX11_trim_45 (fun hc => ?_) (fun hc => ?_)
      · rw [if_neg (b2i_f hc)] at hF
        refine r_iconst C (v := 0) rfl dX11_trim_61 ?_
        cases hF
        exact r_ireturn C dX11_trim_62
      · rw [if_pos (b2i_t hc)] at hF
        refine r_aload_n C (k := 1) rfl rfl dX11_trim_48 ?_
        refine r_aload_n C (k := 1) rfl rfl dX11_trim_49 ?_
        refine r_iload_n C (k := 2) rfl rfl dX11_trim_50 ?_
        refine r_iload_n C (k := 3) rfl rfl dX11_trim_51 ?_
        obtain ⟨v26, t27, ht27, hF⟩ := ob_e hF
        refine r_callV C (d' := 5) [.int a1, .int a2] (c_X11_trimNow hW (show (sM Ω t25).2.1 = t25 from rfl) a1 a2 ht27 rfl) myX11_trimNow wm8_14 ⟨_, _, _, _, (hW.ok k11), rfl, rfl, rfl, rfl⟩ rfl (kR rfl) (by decide) (kR rfl) rfl dX11_trim_52 ?_
        obtain ⟨v28, t29, ht29, hF⟩ := ob_e hF
        refine r_callV C (d' := 2) [.int (b2i v26)] (c_X11_done hW (show (sM Ω t27).2.1 = t27 from rfl) N v26 ht29 rfl) myX11_done wm9_128 ⟨_, _, _, _, (hW.ok k11), rfl, rfl, rfl, rfl⟩ rfl (kR rfl) (by decide) (kR rfl) rfl dX11_trim_55 ?_
        refine r_goto C (tgt := 62) rfl dX11_trim_58 ?_
        cases hF
        exact r_ireturn C dX11_trim_62
theorem dX11_addNest_0 : decode cX11_addNest 0 = .ok (.aload_n 0, 1) := by decide +kernel
theorem dX11_addNest_1 : decode cX11_addNest 1 = .ok (.aload_n 0, 1) := by decide +kernel
theorem dX11_addNest_2 : decode cX11_addNest 2 = .ok (.aload_n 0, 1) := by decide +kernel
theorem dX11_addNest_3 : decode cX11_addNest 3 = .ok (.iload_n 1, 1) := by decide +kernel
theorem dX11_addNest_4 : decode cX11_addNest 4 = .ok (.invokevirtual 73, 3) := by decide +kernel
theorem dX11_addNest_7 : decode cX11_addNest 7 = .ok (.iload_n 2, 1) := by decide +kernel
theorem dX11_addNest_8 : decode cX11_addNest 8 = .ok (.i2l, 1) := by decide +kernel
theorem dX11_addNest_9 : decode cX11_addNest 9 = .ok (.lconst 1, 1) := by decide +kernel
theorem dX11_addNest_10 : decode cX11_addNest 10 = .ok (.ldc2_w 437, 3) := by decide +kernel
theorem dX11_addNest_13 : decode cX11_addNest 13 = .ok (.invokestatic 65, 3) := by decide +kernel
theorem dX11_addNest_16 : decode cX11_addNest 16 = .ok (.aload_n 0, 1) := by decide +kernel
theorem dX11_addNest_17 : decode cX11_addNest 17 = .ok (.iload_n 1, 1) := by decide +kernel
theorem dX11_addNest_18 : decode cX11_addNest 18 = .ok (.invokevirtual 212, 3) := by decide +kernel
theorem dX11_addNest_21 : decode cX11_addNest 21 = .ok (.invokevirtual 421, 3) := by decide +kernel
theorem dX11_addNest_24 : decode cX11_addNest 24 = .ok (.invokevirtual 425, 3) := by decide +kernel
theorem dX11_addNest_27 : decode cX11_addNest 27 = .ok (.ifCond .eq 16, 3) := by decide +kernel
theorem dX11_addNest_30 : decode cX11_addNest 30 = .ok (.aload_n 0, 1) := by decide +kernel
theorem dX11_addNest_31 : decode cX11_addNest 31 = .ok (.aload_n 0, 1) := by decide +kernel
theorem dX11_addNest_32 : decode cX11_addNest 32 = .ok (.iload_n 1, 1) := by decide +kernel
theorem dX11_addNest_33 : decode cX11_addNest 33 = .ok (.iload_n 2, 1) := by decide +kernel
theorem dX11_addNest_34 : decode cX11_addNest 34 = .ok (.invokevirtual 363, 3) := by decide +kernel
theorem dX11_addNest_37 : decode cX11_addNest 37 = .ok (.invokevirtual 428, 3) := by decide +kernel
theorem dX11_addNest_40 : decode cX11_addNest 40 = .ok (.goto 4, 3) := by decide +kernel
theorem dX11_addNest_43 : decode cX11_addNest 43 = .ok (.iconst 0, 1) := by decide +kernel
theorem dX11_addNest_44 : decode cX11_addNest 44 = .ok (.ireturn, 1) := by decide +kernel
def F_X11_addNest (N : Nat) (a1 : Int32) (a2 : Int32) (t : HV) : Option (Int32 × (HV)) := (ob1 (F_X11_isSlot a1 t) fun v1 => (ob1 (F_X11_canNest N a1 t) fun v2 => (lt2 (F_X11_passesAll v1 (F_X11_in ((a2 : Int32).toInt64) (1 : Int64) (30 : Int64)) v2 t) fun v3 t4 => (ob (F_X11_tried N v3 t4) fun v5 t6 => (if v5 = true then (ob (F_X11_nestNow N a1 a2 t6) fun v7 t8 => (ob (F_X11_done N v7 t8) fun v9 t10 => some (v9, t10))) else some (0, t6))))))
theorem c_X11_addNest {w : WP} (hW : gWM w) {Ω : OM}  {t : HV} (e : Ω.2.1 = t) (N : Nat) (a1 : Int32) (a2 : Int32) {v : Int32} {t' : HV} (hF : F_X11_addNest N a1 a2 t = some (v, t')) {Ω' : OM} (e2 : (sM Ω t') = Ω') : gM w 5 yX11_addNest cX11_addNest 3 (some .int) [.ref (wAd w (11, 12, 0, 0)), .int a1, .int a2] (cA w Ω) (some (.int v)) (cA w Ω') := by
  refine gM_of "HedgeMessagesModel" rfl (by decide) (kR rfl) fun X C => ?_
  unfold F_X11_addNest at hF
  subst e2
  show gV w X _ _ 0 [(0, .ref (wAd w (11, 12, 0, 0))), (1, .int a1), (2, .int a2)] []
  refine r_ct (ct' := cA w (sM Ω t)) (congrArg (cA w) (sM_i e).symm) ?_
  refine r_aload_n C (k := 0) rfl rfl dX11_addNest_0 ?_
  refine r_aload_n C (k := 0) rfl rfl dX11_addNest_1 ?_
  refine r_aload_n C (k := 0) rfl rfl dX11_addNest_2 ?_
  refine r_iload_n C (k := 1) rfl rfl dX11_addNest_3 ?_
  obtain ⟨v1, hv1, hF⟩ := ob1_e hF
  refine r_callV C (d' := 1) [.int a1] (c_X11_isSlot hW (show (sM Ω t).2.1 = t from rfl) a1 hv1) myX11_isSlot wm7_27 ⟨_, _, _, _, (hW.ok k11), rfl, rfl, rfl, rfl⟩ rfl (kR rfl) (by decide) (kR rfl) rfl dX11_addNest_4 ?_
  refine r_iload_n C (k := 2) rfl rfl dX11_addNest_7 ?_
  refine r_i2l C (v := ((a2 : Int32).toInt64)) rfl dX11_addNest_8 ?_
  refine r_lconst C (v := 1) rfl dX11_addNest_9 ?_
  refine r_ldc2 C wm9_149 dX11_addNest_10 ?_
  refine r_callS C (d' := 0) [.long ((a2 : Int32).toInt64), .long (1 : Int64), .long (30 : Int64)] (c_X11_in ((a2 : Int32).toInt64) (1 : Int64) (30 : Int64) rfl) myX11_in wm6_208 rfl (kR rfl) (by decide) (kR rfl) rfl dX11_addNest_13 ?_
  refine r_aload_n C (k := 0) rfl rfl dX11_addNest_16 ?_
  refine r_iload_n C (k := 1) rfl rfl dX11_addNest_17 ?_
  obtain ⟨v2, hv2, hF⟩ := ob1_e hF
  refine r_callV C (d' := 3) [.int a1] (c_X11_canNest hW (show (sM Ω t).2.1 = t from rfl) N a1 hv2) myX11_canNest wm8_29 ⟨_, _, _, _, (hW.ok k11), rfl, rfl, rfl, rfl⟩ rfl (kR rfl) (by decide) (kR rfl) rfl dX11_addNest_18 ?_
  obtain ⟨v3, t4, ht4, hF⟩ := lt2_e hF
  refine r_callV C (d' := 0) [.int (b2i v1), .int (b2i (F_X11_in ((a2 : Int32).toInt64) (1 : Int64) (30 : Int64))), .int (b2i v2)] (c_X11_passesAll hW (show (sM Ω t).2.1 = t from rfl) v1 (F_X11_in ((a2 : Int32).toInt64) (1 : Int64) (30 : Int64)) v2 ht4 rfl) myX11_passesAll wm9_120 ⟨_, _, _, _, (hW.ok k11), rfl, rfl, rfl, rfl⟩ rfl (kR rfl) (by decide) (kR rfl) rfl dX11_addNest_21 ?_
  obtain ⟨v5, t6, ht6, hF⟩ := ob_e hF
  refine r_callV C (d' := 1) [.int (b2i v3)] (c_X11_tried hW (show (sM Ω t4).2.1 = t4 from rfl) N v3 ht6 rfl) myX11_tried wm9_124 ⟨_, _, _, _, (hW.ok k11), rfl, rfl, rfl, rfl⟩ rfl (kR rfl) (by decide) (kR rfl) rfl dX11_addNest_24 ?_
  refine r_if_eq C (tgt := 43) rfl dX11_addNest_27 (fun hc => ?_) (fun hc => ?_)
  · rw [if_neg (b2i_f hc)] at hF
    refine r_iconst C (v := 0) rfl dX11_addNest_43 ?_
    cases hF
    exact r_ireturn C dX11_addNest_44
  · rw [if_pos (b2i_t hc)] at hF
    refine r_aload_n C (k := 0) rfl rfl dX11_addNest_30 ?_
    refine r_aload_n C (k := 0) rfl rfl dX11_addNest_31 ?_
    refine r_iload_n C (k := 1) rfl rfl dX11_addNest_32 ?_
    refine r_iload_n C (k := 2) rfl rfl dX11_addNest_33 ?_
    obtain ⟨v7, t8, ht8, hF⟩ := ob_e hF
    refine r_callV C (d' := 4) [.int a1, .int a2] (c_X11_nestNow hW (show (sM Ω t6).2.1 = t6 from rfl) N a1 a2 ht8 rfl) myX11_nestNow wm8_25 ⟨_, _, _, _, (hW.ok k11), rfl, rfl, rfl, rfl⟩ rfl (kR rfl) (by decide) (kR rfl) rfl dX11_addNest_34 ?_
    obtain ⟨v9, t10, ht10, hF⟩ := ob_e hF
    refine r_callV C (d' := 2) [.int (b2i v7)] (c_X11_done hW (show (sM Ω t8).2.1 = t8 from rfl) N v7 ht10 rfl) myX11_done wm9_128 ⟨_, _, _, _, (hW.ok k11), rfl, rfl, rfl, rfl⟩ rfl (kR rfl) (by decide) (kR rfl) rfl dX11_addNest_37 ?_
    refine r_goto C (tgt := 44) rfl dX11_addNest_40 ?_
    cases hF
    exact r_ireturn C dX11_addNest_44
