/-! ===== 22.model: printed by wip/whole/genmodel.py ===== -/
theorem dX11_whyNotTrim_0 : decode cX11_whyNotTrim 0 = .ok (.aload_n 0, 1) := by decide +kernel
theorem dX11_whyNotTrim_1 : decode cX11_whyNotTrim 1 = .ok (.iload_n 1, 1) := by decide +kernel
theorem dX11_whyNotTrim_2 : decode cX11_whyNotTrim 2 = .ok (.invokevirtual 191, 3) := by decide +kernel
theorem dX11_whyNotTrim_5 : decode cX11_whyNotTrim 5 = .ok (.istore_n 2, 1) := by decide +kernel
theorem dX11_whyNotTrim_6 : decode cX11_whyNotTrim 6 = .ok (.iload_n 2, 1) := by decide +kernel
theorem dX11_whyNotTrim_7 : decode cX11_whyNotTrim 7 = .ok (.ifCond .eq 5, 3) := by decide +kernel
theorem dX11_whyNotTrim_10 : decode cX11_whyNotTrim 10 = .ok (.iload_n 2, 1) := by decide +kernel
theorem dX11_whyNotTrim_11 : decode cX11_whyNotTrim 11 = .ok (.ireturn, 1) := by decide +kernel
theorem dX11_whyNotTrim_12 : decode cX11_whyNotTrim 12 = .ok (.aload_n 0, 1) := by decide +kernel
theorem dX11_whyNotTrim_13 : decode cX11_whyNotTrim 13 = .ok (.iload_n 1, 1) := by decide +kernel
theorem dX11_whyNotTrim_14 : decode cX11_whyNotTrim 14 = .ok (.invokevirtual 158, 3) := by decide +kernel
theorem dX11_whyNotTrim_17 : decode cX11_whyNotTrim 17 = .ok (.ifCond .eq 8, 3) := by decide +kernel
theorem dX11_whyNotTrim_20 : decode cX11_whyNotTrim 20 = .ok (.bipush 8, 2) := by decide +kernel
theorem dX11_whyNotTrim_22 : decode cX11_whyNotTrim 22 = .ok (.goto 4, 3) := by decide +kernel
theorem dX11_whyNotTrim_25 : decode cX11_whyNotTrim 25 = .ok (.iconst 0, 1) := by decide +kernel
theorem dX11_whyNotTrim_26 : decode cX11_whyNotTrim 26 = .ok (.ireturn, 1) := by decide +kernel
def F_X11_whyNotTrim (a1 : Int32) (t : HV) : Option (Int32) := (ob1 (F_X11_whyNotTouch a1 t) fun v1 => (if v1 = 0 then (ob1 (F_X11_isSafe a1 t) fun v2 => (if v2 = true then some 8 else some 0)) else some v1))
theorem c_X11_whyNotTrim {w : WP} (hW : gWM w) {Ω : OM}  {t : HV} (e : Ω.2.1 = t) (a1 : Int32) {v : Int32} (hF : F_X11_whyNotTrim a1 t = some v) : gM w 4 yX11_whyNotTrim cX11_whyNotTrim 3 (some .int) [.ref (wAd w (11, 12, 0, 0)), .int a1] (cA w Ω) (some (.int v)) (cA w Ω) := by
  refine gM_of "HedgeMessagesModel" rfl (by decide) (kR rfl) fun X C => ?_
  unfold F_X11_whyNotTrim at hF
  show gV w X _ _ 0 [(0, .ref (wAd w (11, 12, 0, 0))), (1, .int a1)] []
  refine r_aload_n C (k := 0) rfl rfl dX11_whyNotTrim_0 ?_
  refine r_iload_n C (k := 1) rfl rfl dX11_whyNotTrim_1 ?_
  obtain ⟨v1, hv1, hF⟩ := ob1_e hF
  refine r_callV C (d' := 2) [.int a1] (c_X11_whyNotTouch hW e a1 hv1) myX11_whyNotTouch wm8_2 ⟨_, _, _, _, (hW.ok k11), rfl, rfl, rfl, rfl⟩ rfl (kR rfl) (by decide) (kR rfl) rfl dX11_whyNotTrim_2 ?_
  refine r_istore_n C (lo' := [(2, .int v1), (0, .ref (wAd w (11, 12, 0, 0))), (1, .int a1)]) rfl (by decide) rfl dX11_whyNotTrim_5 ?_
  refine r_iload_n C (k := 0) rfl rfl dX11_whyNotTrim_6 ?_
  refine r_if_eq C (tgt := 12) rfl dX11_whyNotTrim_7 (fun hc => ?_) (fun hc => ?_)
  · rw [if_pos hc] at hF
    refine r_aload_n C (k := 1) rfl rfl dX11_whyNotTrim_12 ?_
    refine r_iload_n C (k := 2) rfl rfl dX11_whyNotTrim_13 ?_
    obtain ⟨v2, hv2, hF⟩ := ob1_e hF
    refine r_callV C (d' := 3) [.int a1] (c_X11_isSafe hW e a1 hv2) myX11_isSafe wm8_6 ⟨_, _, _, _, (hW.ok k11), rfl, rfl, rfl, rfl⟩ rfl (kR rfl) (by decide) (kR rfl) rfl dX11_whyNotTrim_14 ?_
    refine r_if_eq C (tgt := 25) rfl dX11_whyNotTrim_17 (fun hc => ?_) (fun hc => ?_)
    · rw [if_neg (b2i_f hc)] at hF
      refine r_iconst C (v := 0) rfl dX11_whyNotTrim_25 ?_
      cases hF
      exact r_ireturn C dX11_whyNotTrim_26
    · rw [if_pos (b2i_t hc)] at hF
      refine r_bipush C (v := 8) rfl dX11_whyNotTrim_20 ?_
      refine r_goto C (tgt := 26) rfl dX11_whyNotTrim_22 ?_
      cases hF
      exact r_ireturn C dX11_whyNotTrim_26
  · rw [if_neg hc] at hF
    refine r_iload_n C (k := 0) rfl rfl dX11_whyNotTrim_10 ?_
    cases hF
    exact r_ireturn C dX11_whyNotTrim_11
theorem dX11_whyNotWrite_0 : decode cX11_whyNotWrite 0 = .ok (.iload_n 1, 1) := by decide +kernel
theorem dX11_whyNotWrite_1 : decode cX11_whyNotWrite 1 = .ok (.aload_n 0, 1) := by decide +kernel
theorem dX11_whyNotWrite_2 : decode cX11_whyNotWrite 2 = .ok (.invokevirtual 173, 3) := by decide +kernel
theorem dX11_whyNotWrite_5 : decode cX11_whyNotWrite 5 = .ok (.if_icmp .eq 6, 3) := by decide +kernel
theorem dX11_whyNotWrite_8 : decode cX11_whyNotWrite 8 = .ok (.bipush 13, 2) := by decide +kernel
theorem dX11_whyNotWrite_10 : decode cX11_whyNotWrite 10 = .ok (.ireturn, 1) := by decide +kernel
theorem dX11_whyNotWrite_11 : decode cX11_whyNotWrite 11 = .ok (.aload_n 0, 1) := by decide +kernel
theorem dX11_whyNotWrite_12 : decode cX11_whyNotWrite 12 = .ok (.getfield 7, 3) := by decide +kernel
theorem dX11_whyNotWrite_15 : decode cX11_whyNotWrite 15 = .ok (.bipush 7, 2) := by decide +kernel
theorem dX11_whyNotWrite_17 : decode cX11_whyNotWrite 17 = .ok (.iaload, 1) := by decide +kernel
theorem dX11_whyNotWrite_18 : decode cX11_whyNotWrite 18 = .ok (.ifCond .ne 5, 3) := by decide +kernel
theorem dX11_whyNotWrite_21 : decode cX11_whyNotWrite 21 = .ok (.iconst 1, 1) := by decide +kernel
theorem dX11_whyNotWrite_22 : decode cX11_whyNotWrite 22 = .ok (.ireturn, 1) := by decide +kernel
theorem dX11_whyNotWrite_23 : decode cX11_whyNotWrite 23 = .ok (.aload_n 0, 1) := by decide +kernel
theorem dX11_whyNotWrite_24 : decode cX11_whyNotWrite 24 = .ok (.iload_n 1, 1) := by decide +kernel
theorem dX11_whyNotWrite_25 : decode cX11_whyNotWrite 25 = .ok (.invokevirtual 134, 3) := by decide +kernel
theorem dX11_whyNotWrite_28 : decode cX11_whyNotWrite 28 = .ok (.ifCond .eq 5, 3) := by decide +kernel
theorem dX11_whyNotWrite_31 : decode cX11_whyNotWrite 31 = .ok (.iconst 0, 1) := by decide +kernel
theorem dX11_whyNotWrite_32 : decode cX11_whyNotWrite 32 = .ok (.ireturn, 1) := by decide +kernel
theorem dX11_whyNotWrite_33 : decode cX11_whyNotWrite 33 = .ok (.aload_n 0, 1) := by decide +kernel
theorem dX11_whyNotWrite_34 : decode cX11_whyNotWrite 34 = .ok (.getfield 7, 3) := by decide +kernel
theorem dX11_whyNotWrite_37 : decode cX11_whyNotWrite 37 = .ok (.bipush 12, 2) := by decide +kernel
theorem dX11_whyNotWrite_39 : decode cX11_whyNotWrite 39 = .ok (.iload_n 1, 1) := by decide +kernel
theorem dX11_whyNotWrite_40 : decode cX11_whyNotWrite 40 = .ok (.iadd, 1) := by decide +kernel
theorem dX11_whyNotWrite_41 : decode cX11_whyNotWrite 41 = .ok (.iaload, 1) := by decide +kernel
theorem dX11_whyNotWrite_42 : decode cX11_whyNotWrite 42 = .ok (.ifCond .ne 6, 3) := by decide +kernel
theorem dX11_whyNotWrite_45 : decode cX11_whyNotWrite 45 = .ok (.bipush 11, 2) := by decide +kernel
theorem dX11_whyNotWrite_47 : decode cX11_whyNotWrite 47 = .ok (.ireturn, 1) := by decide +kernel
theorem dX11_whyNotWrite_48 : decode cX11_whyNotWrite 48 = .ok (.aload_n 0, 1) := by decide +kernel
theorem dX11_whyNotWrite_49 : decode cX11_whyNotWrite 49 = .ok (.iload_n 1, 1) := by decide +kernel
theorem dX11_whyNotWrite_50 : decode cX11_whyNotWrite 50 = .ok (.invokevirtual 137, 3) := by decide +kernel
theorem dX11_whyNotWrite_53 : decode cX11_whyNotWrite 53 = .ok (.iconst (-1), 1) := by decide +kernel
theorem dX11_whyNotWrite_54 : decode cX11_whyNotWrite 54 = .ok (.if_icmp .ne 8, 3) := by decide +kernel
theorem dX11_whyNotWrite_57 : decode cX11_whyNotWrite 57 = .ok (.bipush 12, 2) := by decide +kernel
theorem dX11_whyNotWrite_59 : decode cX11_whyNotWrite 59 = .ok (.goto 4, 3) := by decide +kernel
theorem dX11_whyNotWrite_62 : decode cX11_whyNotWrite 62 = .ok (.iconst 0, 1) := by decide +kernel
theorem dX11_whyNotWrite_63 : decode cX11_whyNotWrite 63 = .ok (.ireturn, 1) := by decide +kernel
def F_X11_whyNotWrite (N : Nat) (a1 : Int32) (t : HV) : Option (Int32) := (ob1 (F_X11_activeNow t) fun v1 => (if a1 = v1 then (if vpb 7 760 = true then (if (ag t 0 7) = 0 then some 1 else (ob1 (F_X11_isInProgress a1 t) fun v3 => (if v3 = true then some 0 else (if vpb (12 + a1) 760 = true then (if (ag t 0 (12 + a1)) = 0 then some 11 else (ob1 (F_X11_startOfNext N a1 t) fun v5 => (if v5 = (-1) then some 12 else some 0))) else none)))) else none) else some 13))
theorem c_X11_whyNotWrite {w : WP} (hW : gWM w) {Ω : OM}  {t : HV} (e : Ω.2.1 = t) (N : Nat) (a1 : Int32) {v : Int32} (hF : F_X11_whyNotWrite N a1 t = some v) : gM w 7 yX11_whyNotWrite cX11_whyNotWrite 2 (some .int) [.ref (wAd w (11, 12, 0, 0)), .int a1] (cA w Ω) (some (.int v)) (cA w Ω) := by
  refine gM_of "HedgeMessagesModel" rfl (by decide) (kR rfl) fun X C => ?_
  unfold F_X11_whyNotWrite at hF
  show gV w X _ _ 0 [(0, .ref (wAd w (11, 12, 0, 0))), (1, .int a1)] []
  refine r_iload_n C (k := 1) rfl rfl dX11_whyNotWrite_0 ?_
  refine r_aload_n C (k := 0) rfl rfl dX11_whyNotWrite_1 ?_
  obtain ⟨v1, hv1, hF⟩ := ob1_e hF
  refine r_callV C (d' := 0) [] (c_X11_activeNow hW e hv1) myX11_activeNow wm7_226 ⟨_, _, _, _, (hW.ok k11), rfl, rfl, rfl, rfl⟩ rfl (kR rfl) (by decide) (kR rfl) rfl dX11_whyNotWrite_2 ?_
  refine r_icmp_eq C (tgt := 11) rfl dX11_whyNotWrite_5 (fun hc => ?_) (fun hc => ?_)
  · rw [if_pos hc] at hF
    refine r_aload_n C (k := 0) rfl rfl dX11_whyNotWrite_11 ?_
    refine og_11_0 C (hW.ok k11) wm7_67 dX11_whyNotWrite_12 ?_
    refine r_bipush C (v := 7) rfl dX11_whyNotWrite_15 ?_
    obtain ⟨b2, hF⟩ := gd_e hF
    refine m_ald C (hW.ok (k12 (a := 0) (by unfold okMa; decide))) e rfl b2 dX11_whyNotWrite_17 ?_
    refine r_if_ne C (tgt := 23) rfl dX11_whyNotWrite_18 (fun hc => ?_) (fun hc => ?_)
    · rw [if_neg hc] at hF
      refine r_aload_n C (k := 0) rfl rfl dX11_whyNotWrite_23 ?_
      refine r_iload_n C (k := 1) rfl rfl dX11_whyNotWrite_24 ?_
      obtain ⟨v3, hv3, hF⟩ := ob1_e hF
      refine r_callV C (d' := 1) [.int a1] (c_X11_isInProgress hW e a1 hv3) myX11_isInProgress wm8_81 ⟨_, _, _, _, (hW.ok k11), rfl, rfl, rfl, rfl⟩ rfl (kR rfl) (by decide) (kR rfl) rfl dX11_whyNotWrite_25 ?_
      refine r_if_eq C (tgt := 33) rfl dX11_whyNotWrite_28 (fun hc => ?_) (fun hc => ?_)
      · rw [if_neg (b2i_f hc)] at hF
        refine r_aload_n C (k := 0) rfl rfl dX11_whyNotWrite_33 ?_
        refine og_11_0 C (hW.ok k11) wm7_67 dX11_whyNotWrite_34 ?_
        refine r_bipush C (v := 12) rfl dX11_whyNotWrite_37 ?_
        refine r_iload_n C (k := 1) rfl rfl dX11_whyNotWrite_39 ?_
        refine r_iadd C dX11_whyNotWrite_40 ?_
        obtain ⟨b4, hF⟩ := gd_e hF
        refine m_ald C (hW.ok (k12 (a := 0) (by unfold okMa; decide))) e rfl b4 dX11_whyNotWrite_41 ?_
        refine r_if_ne C (tgt := 48) rfl dX11_whyNotWrite_42 (fun hc => ?_) (fun hc => ?_)
        · rw [if_neg hc] at hF
          refine r_aload_n C (k := 0) rfl rfl dX11_whyNotWrite_48 ?_
          refine r_iload_n C (k := 1) rfl rfl dX11_whyNotWrite_49 ?_
          obtain ⟨v5, hv5, hF⟩ := ob1_e hF
          refine r_callV C (d' := 6) [.int a1] (c_X11_startOfNext hW e N a1 hv5) myX11_startOfNext wm8_85 ⟨_, _, _, _, (hW.ok k11), rfl, rfl, rfl, rfl⟩ rfl (kR rfl) (by decide) (kR rfl) rfl dX11_whyNotWrite_50 ?_
          refine r_iconst C (v := (-1)) (by decide) dX11_whyNotWrite_53 ?_
          refine r_icmp_ne C (tgt := 62) rfl dX11_whyNotWrite_54 (fun hc => ?_) (fun hc => ?_)
          · rw [if_neg hc] at hF
            refine r_iconst C (v := 0) rfl dX11_whyNotWrite_62 ?_
            cases hF
            exact r_ireturn C dX11_whyNotWrite_63
          · rw [if_pos hc] at hF
            refine r_bipush C (v := 12) rfl dX11_whyNotWrite_57 ?_
            refine r_goto C (tgt := 63) rfl dX11_whyNotWrite_59 ?_
            cases hF
            exact r_ireturn C dX11_whyNotWrite_63
        · rw [if_pos hc] at hF
          refine r_bipush C (v := 11) rfl dX11_whyNotWrite_45 ?_
          cases hF
          exact r_ireturn C dX11_whyNotWrite_47
      · rw [if_pos (b2i_t hc)] at hF
        refine r_iconst C (v := 0) rfl dX11_whyNotWrite_31 ?_
        cases hF
        exact r_ireturn C dX11_whyNotWrite_32
    · rw [if_pos hc] at hF
      refine r_iconst C (v := 1) rfl dX11_whyNotWrite_21 ?_
      cases hF
      exact r_ireturn C dX11_whyNotWrite_22
  · rw [if_neg hc] at hF
    refine r_bipush C (v := 13) rfl dX11_whyNotWrite_8 ?_
    cases hF
    exact r_ireturn C dX11_whyNotWrite_10
theorem dX11_whyKept_0 : decode cX11_whyKept 0 = .ok (.aload_n 0, 1) := by decide +kernel
theorem dX11_whyKept_1 : decode cX11_whyKept 1 = .ok (.iload_n 1, 1) := by decide +kernel
theorem dX11_whyKept_2 : decode cX11_whyKept 2 = .ok (.invokevirtual 84, 3) := by decide +kernel
theorem dX11_whyKept_5 : decode cX11_whyKept 5 = .ok (.ifCond .ne 5, 3) := by decide +kernel
theorem dX11_whyKept_8 : decode cX11_whyKept 8 = .ok (.iconst 5, 1) := by decide +kernel
theorem dX11_whyKept_9 : decode cX11_whyKept 9 = .ok (.ireturn, 1) := by decide +kernel
theorem dX11_whyKept_10 : decode cX11_whyKept 10 = .ok (.aload_n 0, 1) := by decide +kernel
theorem dX11_whyKept_11 : decode cX11_whyKept 11 = .ok (.iload_n 1, 1) := by decide +kernel
theorem dX11_whyKept_12 : decode cX11_whyKept 12 = .ok (.iconst 2, 1) := by decide +kernel
theorem dX11_whyKept_13 : decode cX11_whyKept 13 = .ok (.invokevirtual 69, 3) := by decide +kernel
theorem dX11_whyKept_16 : decode cX11_whyKept 16 = .ok (.aload_n 0, 1) := by decide +kernel
theorem dX11_whyKept_17 : decode cX11_whyKept 17 = .ok (.getfield 7, 3) := by decide +kernel
theorem dX11_whyKept_20 : decode cX11_whyKept 20 = .ok (.iconst 3, 1) := by decide +kernel
theorem dX11_whyKept_21 : decode cX11_whyKept 21 = .ok (.iaload, 1) := by decide +kernel
theorem dX11_whyKept_22 : decode cX11_whyKept 22 = .ok (.if_icmp .gt 6, 3) := by decide +kernel
theorem dX11_whyKept_25 : decode cX11_whyKept 25 = .ok (.bipush 14, 2) := by decide +kernel
theorem dX11_whyKept_27 : decode cX11_whyKept 27 = .ok (.ireturn, 1) := by decide +kernel
theorem dX11_whyKept_28 : decode cX11_whyKept 28 = .ok (.aload_n 0, 1) := by decide +kernel
theorem dX11_whyKept_29 : decode cX11_whyKept 29 = .ok (.iload_n 1, 1) := by decide +kernel
theorem dX11_whyKept_30 : decode cX11_whyKept 30 = .ok (.invokevirtual 158, 3) := by decide +kernel
theorem dX11_whyKept_33 : decode cX11_whyKept 33 = .ok (.ifCond .eq 8, 3) := by decide +kernel
theorem dX11_whyKept_36 : decode cX11_whyKept 36 = .ok (.bipush 8, 2) := by decide +kernel
theorem dX11_whyKept_38 : decode cX11_whyKept 38 = .ok (.goto 4, 3) := by decide +kernel
theorem dX11_whyKept_41 : decode cX11_whyKept 41 = .ok (.iconst 0, 1) := by decide +kernel
theorem dX11_whyKept_42 : decode cX11_whyKept 42 = .ok (.ireturn, 1) := by decide +kernel
def F_X11_whyKept (a1 : Int32) (t : HV) : Option (Int32) := (ob1 (F_X11_hasTwig a1 t) fun v1 => (if v1 = true then (ob1 (F_X11_of a1 2 t) fun v2 => (if vpb 3 760 = true then (if (ag t 0 3) < v2 then (ob1 (F_X11_isSafe a1 t) fun v4 => (if v4 = true then some 8 else some 0)) else some 14) else none)) else some 5))
theorem c_X11_whyKept {w : WP} (hW : gWM w) {Ω : OM}  {t : HV} (e : Ω.2.1 = t) (a1 : Int32) {v : Int32} (hF : F_X11_whyKept a1 t = some v) : gM w 4 yX11_whyKept cX11_whyKept 2 (some .int) [.ref (wAd w (11, 12, 0, 0)), .int a1] (cA w Ω) (some (.int v)) (cA w Ω) := by
  refine gM_of "HedgeMessagesModel" rfl (by decide) (kR rfl) fun X C => ?_
  unfold F_X11_whyKept at hF
  show gV w X _ _ 0 [(0, .ref (wAd w (11, 12, 0, 0))), (1, .int a1)] []
  refine r_aload_n C (k := 0) rfl rfl dX11_whyKept_0 ?_
  refine r_iload_n C (k := 1) rfl rfl dX11_whyKept_1 ?_
  obtain ⟨v1, hv1, hF⟩ := ob1_e hF
  refine r_callV C (d' := 1) [.int a1] (c_X11_hasTwig hW e a1 hv1) myX11_hasTwig wm6_238 ⟨_, _, _, _, (hW.ok k11), rfl, rfl, rfl, rfl⟩ rfl (kR rfl) (by decide) (kR rfl) rfl dX11_whyKept_2 ?_
  refine r_if_ne C (tgt := 10) rfl dX11_whyKept_5 (fun hc => ?_) (fun hc => ?_)
  · rw [if_pos (b2i_t hc)] at hF
    refine r_aload_n C (k := 0) rfl rfl dX11_whyKept_10 ?_
    refine r_iload_n C (k := 1) rfl rfl dX11_whyKept_11 ?_
    refine r_iconst C (v := 2) rfl dX11_whyKept_12 ?_
    obtain ⟨v2, hv2, hF⟩ := ob1_e hF
    refine r_callV C (d' := 0) [.int a1, .int 2] (c_X11_of hW e a1 2 hv2) myX11_of wm7_2 ⟨_, _, _, _, (hW.ok k11), rfl, rfl, rfl, rfl⟩ rfl (kR rfl) (by decide) (kR rfl) rfl dX11_whyKept_13 ?_
    refine r_aload_n C (k := 0) rfl rfl dX11_whyKept_16 ?_
    refine og_11_0 C (hW.ok k11) wm7_67 dX11_whyKept_17 ?_
    refine r_iconst C (v := 3) rfl dX11_whyKept_20 ?_
    obtain ⟨b3, hF⟩ := gd_e hF
    refine m_ald C (hW.ok (k12 (a := 0) (by unfold okMa; decide))) e rfl b3 dX11_whyKept_21 ?_
    refine r_icmp_gt C (tgt := 28) rfl dX11_whyKept_22 (fun hc => ?_) (fun hc => ?_)
    · rw [if_pos hc] at hF
      refine r_aload_n C (k := 0) rfl rfl dX11_whyKept_28 ?_
      refine r_iload_n C (k := 1) rfl rfl dX11_whyKept_29 ?_
      obtain ⟨v4, hv4, hF⟩ := ob1_e hF
      refine r_callV C (d' := 3) [.int a1] (c_X11_isSafe hW e a1 hv4) myX11_isSafe wm8_6 ⟨_, _, _, _, (hW.ok k11), rfl, rfl, rfl, rfl⟩ rfl (kR rfl) (by decide) (kR rfl) rfl dX11_whyKept_30 ?_
      refine r_if_eq C (tgt := 41) rfl dX11_whyKept_33 (fun hc => ?_) (fun hc => ?_)
      · rw [if_neg (b2i_f hc)] at hF
        refine r_iconst C (v := 0) rfl dX11_whyKept_41 ?_
        cases hF
        exact r_ireturn C dX11_whyKept_42
      · rw [if_pos (b2i_t hc)] at hF
        refine r_bipush C (v := 8) rfl dX11_whyKept_36 ?_
        refine r_goto C (tgt := 42) rfl dX11_whyKept_38 ?_
        cases hF
        exact r_ireturn C dX11_whyKept_42
    · rw [if_neg hc] at hF
      refine r_bipush C (v := 14) rfl dX11_whyKept_25 ?_
      cases hF
      exact r_ireturn C dX11_whyKept_27
  · rw [if_neg (b2i_f hc)] at hF
    refine r_iconst C (v := 5) rfl dX11_whyKept_8 ?_
    cases hF
    exact r_ireturn C dX11_whyKept_9
theorem dX11_plantNow_0 : decode cX11_plantNow 0 = .ok (.aload_n 0, 1) := by decide +kernel
theorem dX11_plantNow_1 : decode cX11_plantNow 1 = .ok (.iload_n 1, 1) := by decide +kernel
theorem dX11_plantNow_2 : decode cX11_plantNow 2 = .ok (.invokevirtual 73, 3) := by decide +kernel
theorem dX11_plantNow_5 : decode cX11_plantNow 5 = .ok (.ifCond .eq 11, 3) := by decide +kernel
theorem dX11_plantNow_8 : decode cX11_plantNow 8 = .ok (.aload_n 0, 1) := by decide +kernel
theorem dX11_plantNow_9 : decode cX11_plantNow 9 = .ok (.iload_n 1, 1) := by decide +kernel
theorem dX11_plantNow_10 : decode cX11_plantNow 10 = .ok (.invokevirtual 194, 3) := by decide +kernel
theorem dX11_plantNow_13 : decode cX11_plantNow 13 = .ok (.ifCond .eq 5, 3) := by decide +kernel
theorem dX11_plantNow_16 : decode cX11_plantNow 16 = .ok (.iconst 0, 1) := by decide +kernel
theorem dX11_plantNow_17 : decode cX11_plantNow 17 = .ok (.ireturn, 1) := by decide +kernel
theorem dX11_plantNow_18 : decode cX11_plantNow 18 = .ok (.aload_n 0, 1) := by decide +kernel
theorem dX11_plantNow_19 : decode cX11_plantNow 19 = .ok (.iload_n 1, 1) := by decide +kernel
theorem dX11_plantNow_20 : decode cX11_plantNow 20 = .ok (.iload_n 2, 1) := by decide +kernel
theorem dX11_plantNow_21 : decode cX11_plantNow 21 = .ok (.aload_n 0, 1) := by decide +kernel
theorem dX11_plantNow_22 : decode cX11_plantNow 22 = .ok (.invokevirtual 173, 3) := by decide +kernel
theorem dX11_plantNow_25 : decode cX11_plantNow 25 = .ok (.iconst 1, 1) := by decide +kernel
theorem dX11_plantNow_26 : decode cX11_plantNow 26 = .ok (.iconst 0, 1) := by decide +kernel
theorem dX11_plantNow_27 : decode cX11_plantNow 27 = .ok (.invokevirtual 143, 3) := by decide +kernel
theorem dX11_plantNow_30 : decode cX11_plantNow 30 = .ok (.aload_n 0, 1) := by decide +kernel
theorem dX11_plantNow_31 : decode cX11_plantNow 31 = .ok (.getfield 7, 3) := by decide +kernel
theorem dX11_plantNow_34 : decode cX11_plantNow 34 = .ok (.bipush 7, 2) := by decide +kernel
theorem dX11_plantNow_36 : decode cX11_plantNow 36 = .ok (.dup2, 1) := by decide +kernel
theorem dX11_plantNow_37 : decode cX11_plantNow 37 = .ok (.iaload, 1) := by decide +kernel
theorem dX11_plantNow_38 : decode cX11_plantNow 38 = .ok (.iconst 1, 1) := by decide +kernel
theorem dX11_plantNow_39 : decode cX11_plantNow 39 = .ok (.isub, 1) := by decide +kernel
theorem dX11_plantNow_40 : decode cX11_plantNow 40 = .ok (.iastore, 1) := by decide +kernel
theorem dX11_plantNow_41 : decode cX11_plantNow 41 = .ok (.aload_n 0, 1) := by decide +kernel
theorem dX11_plantNow_42 : decode cX11_plantNow 42 = .ok (.aload_n 0, 1) := by decide +kernel
theorem dX11_plantNow_43 : decode cX11_plantNow 43 = .ok (.invokevirtual 197, 3) := by decide +kernel
theorem dX11_plantNow_46 : decode cX11_plantNow 46 = .ok (.putfield 200, 3) := by decide +kernel
theorem dX11_plantNow_49 : decode cX11_plantNow 49 = .ok (.iconst 1, 1) := by decide +kernel
theorem dX11_plantNow_50 : decode cX11_plantNow 50 = .ok (.ireturn, 1) := by decide +kernel
def F_X11_plantNow (N : Nat) (a1 : Int32) (a2 : Int32) (t : HV) : Option (Bool × (HV)) := (ob1 (F_X11_isSlot a1 t) fun v1 => (if v1 = true then (ob1 (F_X11_whyNotPlant N a1 t) fun v2 => (if v2 = 0 then (ob1 (F_X11_activeNow t) fun v3 => (ob1 (F_X11_twigComes a1 a2 v3 1 0 t) fun t5 => (if vpb 7 760 = true then (if vpb 7 760 = true then (lt (aw t5 0 7 ((ag t5 0 7) - 1)) fun t8 => (ob1 (F_X11_twigs N t8) fun v9 => (lt (sS t8 8 v9) fun t10 => some (true, t10)))) else none) else none))) else some (false, t))) else some (false, t)))
theorem c_X11_plantNow {w : WP} (hW : gWM w) {Ω : OM}  {t : HV} (e : Ω.2.1 = t) (N : Nat) (a1 : Int32) (a2 : Int32) {v : Bool} {t' : HV} (hF : F_X11_plantNow N a1 a2 t = some (v, t')) {Ω' : OM} (e2 : (sM Ω t') = Ω') : gM w 4 yX11_plantNow cX11_plantNow 3 (some .boolean) [.ref (wAd w (11, 12, 0, 0)), .int a1, .int a2] (cA w Ω) (some (.int (b2i v))) (cA w Ω') := by
  refine gM_of "HedgeMessagesModel" rfl (by decide) (kR rfl) fun X C => ?_
  unfold F_X11_plantNow at hF
  subst e2
  show gV w X _ _ 0 [(0, .ref (wAd w (11, 12, 0, 0))), (1, .int a1), (2, .int a2)] []
  refine r_ct (ct' := cA w (sM Ω t)) (congrArg (cA w) (sM_i e).symm) ?_
  refine r_aload_n C (k := 0) rfl rfl dX11_plantNow_0 ?_
  refine r_iload_n C (k := 1) rfl rfl dX11_plantNow_1 ?_
  obtain ⟨v1, hv1, hF⟩ := ob1_e hF
  refine r_callV C (d' := 1) [.int a1] (c_X11_isSlot hW (show (sM Ω t).2.1 = t from rfl) a1 hv1) myX11_isSlot wm7_27 ⟨_, _, _, _, (hW.ok k11), rfl, rfl, rfl, rfl⟩ rfl (kR rfl) (by decide) (kR rfl) rfl dX11_plantNow_2 ?_
  refine r_if_eq C (tgt := 16) rfl dX11_plantNow_5 (fun hc => ?_) (fun hc => ?_)
  · rw [if_neg (b2i_f hc)] at hF
    refine r_iconst C (v := 0) rfl dX11_plantNow_16 ?_
    cases hF
    exact r_zreturn C false rfl dX11_plantNow_17
  · rw [if_pos (b2i_t hc)] at hF
    refine r_aload_n C (k := 0) rfl rfl dX11_plantNow_8 ?_
    refine r_iload_n C (k := 1) rfl rfl dX11_plantNow_9 ?_
    obtain ⟨v2, hv2, hF⟩ := ob1_e hF
    refine r_callV C (d' := 3) [.int a1] (c_X11_whyNotPlant hW (show (sM Ω t).2.1 = t from rfl) N a1 hv2) myX11_whyNotPlant wm7_208 ⟨_, _, _, _, (hW.ok k11), rfl, rfl, rfl, rfl⟩ rfl (kR rfl) (by decide) (kR rfl) rfl dX11_plantNow_10 ?_
    refine r_if_eq C (tgt := 18) rfl dX11_plantNow_13 (fun hc => ?_) (fun hc => ?_)
    · rw [if_pos hc] at hF
      refine r_aload_n C (k := 0) rfl rfl dX11_plantNow_18 ?_
      refine r_iload_n C (k := 1) rfl rfl dX11_plantNow_19 ?_
      refine r_iload_n C (k := 2) rfl rfl dX11_plantNow_20 ?_
      refine r_aload_n C (k := 0) rfl rfl dX11_plantNow_21 ?_
      obtain ⟨v3, hv3, hF⟩ := ob1_e hF
      refine r_callV C (d' := 0) [] (c_X11_activeNow hW (show (sM Ω t).2.1 = t from rfl) hv3) myX11_activeNow wm7_226 ⟨_, _, _, _, (hW.ok k11), rfl, rfl, rfl, rfl⟩ rfl (kR rfl) (by decide) (kR rfl) rfl dX11_plantNow_22 ?_
      refine r_iconst C (v := 1) rfl dX11_plantNow_25 ?_
      refine r_iconst C (v := 0) rfl dX11_plantNow_26 ?_
      obtain ⟨t5, ht5, hF⟩ := ob1_e hF
      refine r_callV C (d' := 1) [.int a1, .int a2, .int v3, .int 1, .int 0] (c_X11_twigComes hW (show (sM Ω t).2.1 = t from rfl) a1 a2 v3 1 0 ht5 rfl) myX11_twigComes wm7_10 ⟨_, _, _, _, (hW.ok k11), rfl, rfl, rfl, rfl⟩ rfl (kR rfl) (by decide) (kR rfl) rfl dX11_plantNow_27 ?_
      refine r_aload_n C (k := 0) rfl rfl dX11_plantNow_30 ?_
      refine og_11_0 C (hW.ok k11) wm7_67 dX11_plantNow_31 ?_
      refine r_bipush C (v := 7) rfl dX11_plantNow_34 ?_
      refine r_dup2_11 C rfl rfl dX11_plantNow_36 ?_
      obtain ⟨b6, hF⟩ := gd_e hF
      refine m_ald C (hW.ok (k12 (a := 0) (by unfold okMa; decide))) (show (sM Ω t5).2.1 = t5 from rfl) rfl b6 dX11_plantNow_37 ?_
      refine r_iconst C (v := 1) rfl dX11_plantNow_38 ?_
      refine r_isub C dX11_plantNow_39 ?_
      obtain ⟨b7, hF⟩ := gd_e hF
      obtain ⟨t8, et8, hF⟩ := lt_e hF
      refine m_ast C hW.x (hW.fr (k12 (a := 0) (by unfold okMa; decide))) (show (sM Ω t5).2.1 = t5 from rfl) rfl b7 dX11_plantNow_40 (congrArg (sM Ω) et8) ?_
      refine r_aload_n C (k := 0) rfl rfl dX11_plantNow_41 ?_
      refine r_aload_n C (k := 0) rfl rfl dX11_plantNow_42 ?_
      obtain ⟨v9, hv9, hF⟩ := ob1_e hF
      refine r_callV C (d' := 2) [] (c_X11_twigs hW (show (sM Ω t8).2.1 = t8 from rfl) N hv9) myX11_twigs wm7_230 ⟨_, _, _, _, (hW.ok k11), rfl, rfl, rfl, rfl⟩ rfl (kR rfl) (by decide) (kR rfl) rfl dX11_plantNow_43 ?_
      obtain ⟨t10, et10, hF⟩ := lt_e hF
      refine op_11_8 C hW.x (hW.fr k11) (show (sM Ω t8).2.1 = t8 from rfl) wm7_75 dX11_plantNow_46 (congrArg (sM Ω) et10) ?_
      refine r_iconst C (v := 1) rfl dX11_plantNow_49 ?_
      cases hF
      exact r_zreturn C true rfl dX11_plantNow_50
    · rw [if_neg hc] at hF
      refine r_iconst C (v := 0) rfl dX11_plantNow_16 ?_
      cases hF
      exact r_zreturn C false rfl dX11_plantNow_17
theorem dX11_removeNow_0 : decode cX11_removeNow 0 = .ok (.aload_n 0, 1) := by decide +kernel
theorem dX11_removeNow_1 : decode cX11_removeNow 1 = .ok (.iload_n 1, 1) := by decide +kernel
theorem dX11_removeNow_2 : decode cX11_removeNow 2 = .ok (.invokevirtual 73, 3) := by decide +kernel
theorem dX11_removeNow_5 : decode cX11_removeNow 5 = .ok (.ifCond .eq 11, 3) := by decide +kernel
theorem dX11_removeNow_8 : decode cX11_removeNow 8 = .ok (.aload_n 0, 1) := by decide +kernel
theorem dX11_removeNow_9 : decode cX11_removeNow 9 = .ok (.iload_n 1, 1) := by decide +kernel
theorem dX11_removeNow_10 : decode cX11_removeNow 10 = .ok (.invokevirtual 203, 3) := by decide +kernel
theorem dX11_removeNow_13 : decode cX11_removeNow 13 = .ok (.ifCond .eq 5, 3) := by decide +kernel
theorem dX11_removeNow_16 : decode cX11_removeNow 16 = .ok (.iconst 0, 1) := by decide +kernel
theorem dX11_removeNow_17 : decode cX11_removeNow 17 = .ok (.ireturn, 1) := by decide +kernel
theorem dX11_removeNow_18 : decode cX11_removeNow 18 = .ok (.aload_n 0, 1) := by decide +kernel
theorem dX11_removeNow_19 : decode cX11_removeNow 19 = .ok (.aload_n 0, 1) := by decide +kernel
theorem dX11_removeNow_20 : decode cX11_removeNow 20 = .ok (.iload_n 1, 1) := by decide +kernel
theorem dX11_removeNow_21 : decode cX11_removeNow 21 = .ok (.iconst 0, 1) := by decide +kernel
theorem dX11_removeNow_22 : decode cX11_removeNow 22 = .ok (.invokevirtual 69, 3) := by decide +kernel
theorem dX11_removeNow_25 : decode cX11_removeNow 25 = .ok (.putfield 200, 3) := by decide +kernel
theorem dX11_removeNow_28 : decode cX11_removeNow 28 = .ok (.aload_n 0, 1) := by decide +kernel
theorem dX11_removeNow_29 : decode cX11_removeNow 29 = .ok (.iload_n 1, 1) := by decide +kernel
theorem dX11_removeNow_30 : decode cX11_removeNow 30 = .ok (.invokevirtual 124, 3) := by decide +kernel
theorem dX11_removeNow_33 : decode cX11_removeNow 33 = .ok (.aload_n 0, 1) := by decide +kernel
theorem dX11_removeNow_34 : decode cX11_removeNow 34 = .ok (.getfield 7, 3) := by decide +kernel
theorem dX11_removeNow_37 : decode cX11_removeNow 37 = .ok (.bipush 10, 2) := by decide +kernel
theorem dX11_removeNow_39 : decode cX11_removeNow 39 = .ok (.dup2, 1) := by decide +kernel
theorem dX11_removeNow_40 : decode cX11_removeNow 40 = .ok (.iaload, 1) := by decide +kernel
theorem dX11_removeNow_41 : decode cX11_removeNow 41 = .ok (.iconst 1, 1) := by decide +kernel
theorem dX11_removeNow_42 : decode cX11_removeNow 42 = .ok (.iadd, 1) := by decide +kernel
theorem dX11_removeNow_43 : decode cX11_removeNow 43 = .ok (.iastore, 1) := by decide +kernel
theorem dX11_removeNow_44 : decode cX11_removeNow 44 = .ok (.aload_n 0, 1) := by decide +kernel
theorem dX11_removeNow_45 : decode cX11_removeNow 45 = .ok (.getfield 7, 3) := by decide +kernel
theorem dX11_removeNow_48 : decode cX11_removeNow 48 = .ok (.bipush 7, 2) := by decide +kernel
theorem dX11_removeNow_50 : decode cX11_removeNow 50 = .ok (.dup2, 1) := by decide +kernel
theorem dX11_removeNow_51 : decode cX11_removeNow 51 = .ok (.iaload, 1) := by decide +kernel
theorem dX11_removeNow_52 : decode cX11_removeNow 52 = .ok (.iconst 1, 1) := by decide +kernel
theorem dX11_removeNow_53 : decode cX11_removeNow 53 = .ok (.isub, 1) := by decide +kernel
theorem dX11_removeNow_54 : decode cX11_removeNow 54 = .ok (.iastore, 1) := by decide +kernel
theorem dX11_removeNow_55 : decode cX11_removeNow 55 = .ok (.iconst 1, 1) := by decide +kernel
theorem dX11_removeNow_56 : decode cX11_removeNow 56 = .ok (.ireturn, 1) := by decide +kernel
def F_X11_removeNow (N : Nat) (a1 : Int32) (t : HV) : Option (Bool × (HV)) := (ob1 (F_X11_isSlot a1 t) fun v1 => (if v1 = true then (ob1 (F_X11_whyNotRemove a1 t) fun v2 => (if v2 = 0 then (ob1 (F_X11_of a1 0 t) fun v3 => (lt (sS t 8 v3) fun t4 => (ob1 (F_X11_twigGoes N a1 t4) fun t6 => (if vpb 10 760 = true then (if vpb 10 760 = true then (lt (aw t6 0 10 ((ag t6 0 10) + 1)) fun t9 => (if vpb 7 760 = true then (if vpb 7 760 = true then (lt (aw t9 0 7 ((ag t9 0 7) - 1)) fun t12 => some (true, t12)) else none) else none)) else none) else none)))) else some (false, t))) else some (false, t)))
theorem c_X11_removeNow {w : WP} (hW : gWM w) {Ω : OM}  {t : HV} (e : Ω.2.1 = t) (N : Nat) (a1 : Int32) {v : Bool} {t' : HV} (hF : F_X11_removeNow N a1 t = some (v, t')) {Ω' : OM} (e2 : (sM Ω t') = Ω') : gM w 5 yX11_removeNow cX11_removeNow 2 (some .boolean) [.ref (wAd w (11, 12, 0, 0)), .int a1] (cA w Ω) (some (.int (b2i v))) (cA w Ω') := by
  refine gM_of "HedgeMessagesModel" rfl (by decide) (kR rfl) fun X C => ?_
  unfold F_X11_removeNow at hF
  subst e2
  show gV w X _ _ 0 [(0, .ref (wAd w (11, 12, 0, 0))), (1, .int a1)] []
  refine r_ct (ct' := cA w (sM Ω t)) (congrArg (cA w) (sM_i e).symm) ?_
  refine r_aload_n C (k := 0) rfl rfl dX11_removeNow_0 ?_
  refine r_iload_n C (k := 1) rfl rfl dX11_removeNow_1 ?_
  obtain ⟨v1, hv1, hF⟩ := ob1_e hF
  refine r_callV C (d' := 1) [.int a1] (c_X11_isSlot hW (show (sM Ω t).2.1 = t from rfl) a1 hv1) myX11_isSlot wm7_27 ⟨_, _, _, _, (hW.ok k11), rfl, rfl, rfl, rfl⟩ rfl (kR rfl) (by decide) (kR rfl) rfl dX11_removeNow_2 ?_
  refine r_if_eq C (tgt := 16) rfl dX11_removeNow_5 (fun hc => ?_) (fun hc => ?_)
  · rw [if_neg (b2i_f hc)] at hF
    refine r_iconst C (v := 0) rfl dX11_removeNow_16 ?_
    cases hF
    exact r_zreturn C false rfl dX11_removeNow_17
  · rw [if_pos (b2i_t hc)] at hF
    refine r_aload_n C (k := 0) rfl rfl dX11_removeNow_8 ?_
    refine r_iload_n C (k := 1) rfl rfl dX11_removeNow_9 ?_
    obtain ⟨v2, hv2, hF⟩ := ob1_e hF
    refine r_callV C (d' := 4) [.int a1] (c_X11_whyNotRemove hW (show (sM Ω t).2.1 = t from rfl) a1 hv2) myX11_whyNotRemove wm7_238 ⟨_, _, _, _, (hW.ok k11), rfl, rfl, rfl, rfl⟩ rfl (kR rfl) (by decide) (kR rfl) rfl dX11_removeNow_10 ?_
    refine r_if_eq C (tgt := 18) rfl dX11_removeNow_13 (fun hc => ?_) (fun hc => ?_)
    · rw [if_pos hc] at hF
      refine r_aload_n C (k := 0) rfl rfl dX11_removeNow_18 ?_
      refine r_aload_n C (k := 0) rfl rfl dX11_removeNow_19 ?_
      refine r_iload_n C (k := 1) rfl rfl dX11_removeNow_20 ?_
      refine r_iconst C (v := 0) rfl dX11_removeNow_21 ?_
      obtain ⟨v3, hv3, hF⟩ := ob1_e hF
      refine r_callV C (d' := 0) [.int a1, .int 0] (c_X11_of hW (show (sM Ω t).2.1 = t from rfl) a1 0 hv3) myX11_of wm7_2 ⟨_, _, _, _, (hW.ok k11), rfl, rfl, rfl, rfl⟩ rfl (kR rfl) (by decide) (kR rfl) rfl dX11_removeNow_22 ?_
      obtain ⟨t4, et4, hF⟩ := lt_e hF
      refine op_11_8 C hW.x (hW.fr k11) (show (sM Ω t).2.1 = t from rfl) wm7_75 dX11_removeNow_25 (congrArg (sM Ω) et4) ?_
      refine r_aload_n C (k := 0) rfl rfl dX11_removeNow_28 ?_
      refine r_iload_n C (k := 1) rfl rfl dX11_removeNow_29 ?_
      obtain ⟨t6, ht6, hF⟩ := ob1_e hF
      refine r_callV C (d' := 1) [.int a1] (c_X11_twigGoes hW (show (sM Ω t4).2.1 = t4 from rfl) N a1 ht6 rfl) myX11_twigGoes wm8_10 ⟨_, _, _, _, (hW.ok k11), rfl, rfl, rfl, rfl⟩ rfl (kR rfl) (by decide) (kR rfl) rfl dX11_removeNow_30 ?_
      refine r_aload_n C (k := 0) rfl rfl dX11_removeNow_33 ?_
      refine og_11_0 C (hW.ok k11) wm7_67 dX11_removeNow_34 ?_
      refine r_bipush C (v := 10) rfl dX11_removeNow_37 ?_
      refine r_dup2_11 C rfl rfl dX11_removeNow_39 ?_
      obtain ⟨b7, hF⟩ := gd_e hF
      refine m_ald C (hW.ok (k12 (a := 0) (by unfold okMa; decide))) (show (sM Ω t6).2.1 = t6 from rfl) rfl b7 dX11_removeNow_40 ?_
      refine r_iconst C (v := 1) rfl dX11_removeNow_41 ?_
      refine r_iadd C dX11_removeNow_42 ?_
      obtain ⟨b8, hF⟩ := gd_e hF
      obtain ⟨t9, et9, hF⟩ := lt_e hF
      refine m_ast C hW.x (hW.fr (k12 (a := 0) (by unfold okMa; decide))) (show (sM Ω t6).2.1 = t6 from rfl) rfl b8 dX11_removeNow_43 (congrArg (sM Ω) et9) ?_
      refine r_aload_n C (k := 0) rfl rfl dX11_removeNow_44 ?_
      refine og_11_0 C (hW.ok k11) wm7_67 dX11_removeNow_45 ?_
      refine r_bipush C (v := 7) rfl dX11_removeNow_48 ?_
      refine r_dup2_11 C rfl rfl dX11_removeNow_50 ?_
      obtain ⟨b10, hF⟩ := gd_e hF
      refine m_ald C (hW.ok (k12 (a := 0) (by unfold okMa; decide))) (show (sM Ω t9).2.1 = t9 from rfl) rfl b10 dX11_removeNow_51 ?_
      refine r_iconst C (v := 1) rfl dX11_removeNow_52 ?_
      refine r_isub C dX11_removeNow_53 ?_
      obtain ⟨b11, hF⟩ := gd_e hF
      obtain ⟨t12, et12, hF⟩ := lt_e hF
      refine m_ast C hW.x (hW.fr (k12 (a := 0) (by unfold okMa; decide))) (show (sM Ω t9).2.1 = t9 from rfl) rfl b11 dX11_removeNow_54 (congrArg (sM Ω) et12) ?_
      refine r_iconst C (v := 1) rfl dX11_removeNow_55 ?_
      cases hF
      exact r_zreturn C true rfl dX11_removeNow_56
    · rw [if_neg hc] at hF
      refine r_iconst C (v := 0) rfl dX11_removeNow_16 ?_
      cases hF
      exact r_zreturn C false rfl dX11_removeNow_17
theorem dX11_trimNow_0 : decode cX11_trimNow 0 = .ok (.aload_n 0, 1) := by decide +kernel
theorem dX11_trimNow_1 : decode cX11_trimNow 1 = .ok (.iload_n 1, 1) := by decide +kernel
theorem dX11_trimNow_2 : decode cX11_trimNow 2 = .ok (.invokevirtual 73, 3) := by decide +kernel
theorem dX11_trimNow_5 : decode cX11_trimNow 5 = .ok (.ifCond .eq 11, 3) := by decide +kernel
theorem dX11_trimNow_8 : decode cX11_trimNow 8 = .ok (.aload_n 0, 1) := by decide +kernel
theorem dX11_trimNow_9 : decode cX11_trimNow 9 = .ok (.iload_n 1, 1) := by decide +kernel
theorem dX11_trimNow_10 : decode cX11_trimNow 10 = .ok (.invokevirtual 206, 3) := by decide +kernel
theorem dX11_trimNow_13 : decode cX11_trimNow 13 = .ok (.ifCond .eq 5, 3) := by decide +kernel
theorem dX11_trimNow_16 : decode cX11_trimNow 16 = .ok (.iconst 0, 1) := by decide +kernel
theorem dX11_trimNow_17 : decode cX11_trimNow 17 = .ok (.ireturn, 1) := by decide +kernel
theorem dX11_trimNow_18 : decode cX11_trimNow 18 = .ok (.aload_n 0, 1) := by decide +kernel
theorem dX11_trimNow_19 : decode cX11_trimNow 19 = .ok (.iload_n 1, 1) := by decide +kernel
theorem dX11_trimNow_20 : decode cX11_trimNow 20 = .ok (.iconst 2, 1) := by decide +kernel
theorem dX11_trimNow_21 : decode cX11_trimNow 21 = .ok (.iconst 1, 1) := by decide +kernel
theorem dX11_trimNow_22 : decode cX11_trimNow 22 = .ok (.aload_n 0, 1) := by decide +kernel
theorem dX11_trimNow_23 : decode cX11_trimNow 23 = .ok (.iload_n 1, 1) := by decide +kernel
theorem dX11_trimNow_24 : decode cX11_trimNow 24 = .ok (.iconst 2, 1) := by decide +kernel
theorem dX11_trimNow_25 : decode cX11_trimNow 25 = .ok (.invokevirtual 69, 3) := by decide +kernel
theorem dX11_trimNow_28 : decode cX11_trimNow 28 = .ok (.iload_n 2, 1) := by decide +kernel
theorem dX11_trimNow_29 : decode cX11_trimNow 29 = .ok (.isub, 1) := by decide +kernel
theorem dX11_trimNow_30 : decode cX11_trimNow 30 = .ok (.invokestatic 153, 3) := by decide +kernel
theorem dX11_trimNow_33 : decode cX11_trimNow 33 = .ok (.invokevirtual 87, 3) := by decide +kernel
theorem dX11_trimNow_36 : decode cX11_trimNow 36 = .ok (.aload_n 0, 1) := by decide +kernel
theorem dX11_trimNow_37 : decode cX11_trimNow 37 = .ok (.getfield 7, 3) := by decide +kernel
theorem dX11_trimNow_40 : decode cX11_trimNow 40 = .ok (.bipush 7, 2) := by decide +kernel
theorem dX11_trimNow_42 : decode cX11_trimNow 42 = .ok (.dup2, 1) := by decide +kernel
theorem dX11_trimNow_43 : decode cX11_trimNow 43 = .ok (.iaload, 1) := by decide +kernel
theorem dX11_trimNow_44 : decode cX11_trimNow 44 = .ok (.iconst 1, 1) := by decide +kernel
theorem dX11_trimNow_45 : decode cX11_trimNow 45 = .ok (.isub, 1) := by decide +kernel
theorem dX11_trimNow_46 : decode cX11_trimNow 46 = .ok (.iastore, 1) := by decide +kernel
theorem dX11_trimNow_47 : decode cX11_trimNow 47 = .ok (.aload_n 0, 1) := by decide +kernel
theorem dX11_trimNow_48 : decode cX11_trimNow 48 = .ok (.aload_n 0, 1) := by decide +kernel
theorem dX11_trimNow_49 : decode cX11_trimNow 49 = .ok (.iload_n 1, 1) := by decide +kernel
theorem dX11_trimNow_50 : decode cX11_trimNow 50 = .ok (.iconst 2, 1) := by decide +kernel
theorem dX11_trimNow_51 : decode cX11_trimNow 51 = .ok (.invokevirtual 69, 3) := by decide +kernel
theorem dX11_trimNow_54 : decode cX11_trimNow 54 = .ok (.putfield 200, 3) := by decide +kernel
theorem dX11_trimNow_57 : decode cX11_trimNow 57 = .ok (.iconst 1, 1) := by decide +kernel
theorem dX11_trimNow_58 : decode cX11_trimNow 58 = .ok (.ireturn, 1) := by decide +kernel
def F_X11_trimNow (a1 : Int32) (a2 : Int32) (t : HV) : Option (Bool × (HV)) := (ob1 (F_X11_isSlot a1 t) fun v1 => (if v1 = true then (ob1 (F_X11_whyNotTrim a1 t) fun v2 => (if v2 = 0 then (ob1 (F_X11_of a1 2 t) fun v3 => (ob1 (F_X11_puts a1 2 (if 1 < (v3 - a2) then (v3 - a2) else 1) t) fun t5 => (if vpb 7 760 = true then (if vpb 7 760 = true then (lt (aw t5 0 7 ((ag t5 0 7) - 1)) fun t8 => (ob1 (F_X11_of a1 2 t8) fun v9 => (lt (sS t8 8 v9) fun t10 => some (true, t10)))) else none) else none))) else some (false, t))) else some (false, t)))
theorem c_X11_trimNow {w : WP} (hW : gWM w) {Ω : OM}  {t : HV} (e : Ω.2.1 = t) (a1 : Int32) (a2 : Int32) {v : Bool} {t' : HV} (hF : F_X11_trimNow a1 a2 t = some (v, t')) {Ω' : OM} (e2 : (sM Ω t') = Ω') : gM w 5 yX11_trimNow cX11_trimNow 3 (some .boolean) [.ref (wAd w (11, 12, 0, 0)), .int a1, .int a2] (cA w Ω) (some (.int (b2i v))) (cA w Ω') := by
  refine gM_of "HedgeMessagesModel" rfl (by decide) (kR rfl) fun X C => ?_
  unfold F_X11_trimNow at hF
  subst e2
  show gV w X _ _ 0 [(0, .ref (wAd w (11, 12, 0, 0))), (1, .int a1), (2, .int a2)] []
  refine r_ct (ct' := cA w (sM Ω t)) (congrArg (cA w) (sM_i e).symm) ?_
  refine r_aload_n C (k := 0) rfl rfl dX11_trimNow_0 ?_
  refine r_iload_n C (k := 1) rfl rfl dX11_trimNow_1 ?_
  obtain ⟨v1, hv1, hF⟩ := ob1_e hF
  refine r_callV C (d' := 1) [.int a1] (c_X11_isSlot hW (show (sM Ω t).2.1 = t from rfl) a1 hv1) myX11_isSlot wm7_27 ⟨_, _, _, _, (hW.ok k11), rfl, rfl, rfl, rfl⟩ rfl (kR rfl) (by decide) (kR rfl) rfl dX11_trimNow_2 ?_
  refine r_if_eq C (tgt := 16) rfl dX11_trimNow_5 (fun hc => ?_) (fun hc => ?_)
  · rw [if_neg (b2i_f hc)] at hF
    refine r_iconst C (v := 0) rfl dX11_trimNow_16 ?_
    cases hF
    exact r_zreturn C false rfl dX11_trimNow_17
  · rw [if_pos (b2i_t hc)] at hF
    refine r_aload_n C (k := 0) rfl rfl dX11_trimNow_8 ?_
    refine r_iload_n C (k := 1) rfl rfl dX11_trimNow_9 ?_
    obtain ⟨v2, hv2, hF⟩ := ob1_e hF
    refine r_callV C (d' := 4) [.int a1] (c_X11_whyNotTrim hW (show (sM Ω t).2.1 = t from rfl) a1 hv2) myX11_whyNotTrim wm8_18 ⟨_, _, _, _, (hW.ok k11), rfl, rfl, rfl, rfl⟩ rfl (kR rfl) (by decide) (kR rfl) rfl dX11_trimNow_10 ?_
    refine r_if_eq C (tgt := 18) rfl dX11_trimNow_13 (fun hc => ?_) (fun hc => ?_)
    · rw [if_pos hc] at hF
      refine r_aload_n C (k := 0) rfl rfl dX11_trimNow_18 ?_
      refine r_iload_n C (k := 1) rfl rfl dX11_trimNow_19 ?_
      refine r_iconst C (v := 2) rfl dX11_trimNow_20 ?_
      refine r_iconst C (v := 1) rfl dX11_trimNow_21 ?_
      refine r_aload_n C (k := 0) rfl rfl dX11_trimNow_22 ?_
      refine r_iload_n C (k := 1) rfl rfl dX11_trimNow_23 ?_
      refine r_iconst C (v := 2) rfl dX11_trimNow_24 ?_
      obtain ⟨v3, hv3, hF⟩ := ob1_e hF
      refine r_callV C (d' := 0) [.int a1, .int 2] (c_X11_of hW (show (sM Ω t).2.1 = t from rfl) a1 2 hv3) myX11_of wm7_2 ⟨_, _, _, _, (hW.ok k11), rfl, rfl, rfl, rfl⟩ rfl (kR rfl) (by decide) (kR rfl) rfl dX11_trimNow_25 ?_
      refine r_iload_n C (k := 2) rfl rfl dX11_trimNow_28 ?_
      refine r_isub C dX11_trimNow_29 ?_
      refine r_mmax C (by decide) wm8_22 (kR rfl) dX11_trimNow_30 ?_
      obtain ⟨t5, ht5, hF⟩ := ob1_e hF
      refine r_callV C (d' := 0) [.int a1, .int 2, .int (if 1 < (v3 - a2) then (v3 - a2) else 1)] (c_X11_puts hW (show (sM Ω t).2.1 = t from rfl) a1 2 (if 1 < (v3 - a2) then (v3 - a2) else 1) ht5 rfl) myX11_puts wm7_14 ⟨_, _, _, _, (hW.ok k11), rfl, rfl, rfl, rfl⟩ rfl (kR rfl) (by decide) (kR rfl) rfl dX11_trimNow_33 ?_
      refine r_aload_n C (k := 0) rfl rfl dX11_trimNow_36 ?_
      refine og_11_0 C (hW.ok k11) wm7_67 dX11_trimNow_37 ?_
      refine r_bipush C (v := 7) rfl dX11_trimNow_40 ?_
      refine r_dup2_11 C rfl rfl dX11_trimNow_42 ?_
      obtain ⟨b6, hF⟩ := gd_e hF
      refine m_ald C (hW.ok (k12 (a := 0) (by unfold okMa; decide))) (show (sM Ω t5).2.1 = t5 from rfl) rfl b6 dX11_trimNow_43 ?_
      refine r_iconst C (v := 1) rfl dX11_trimNow_44 ?_
      refine r_isub C dX11_trimNow_45 ?_
      obtain ⟨b7, hF⟩ := gd_e hF
      obtain ⟨t8, et8, hF⟩ := lt_e hF
      refine m_ast C hW.x (hW.fr (k12 (a := 0) (by unfold okMa; decide))) (show (sM Ω t5).2.1 = t5 from rfl) rfl b7 dX11_trimNow_46 (congrArg (sM Ω) et8) ?_
      refine r_aload_n C (k := 0) rfl rfl dX11_trimNow_47 ?_
      refine r_aload_n C (k := 0) rfl rfl dX11_trimNow_48 ?_
      refine r_iload_n C (k := 1) rfl rfl dX11_trimNow_49 ?_
      refine r_iconst C (v := 2) rfl dX11_trimNow_50 ?_
      obtain ⟨v9, hv9, hF⟩ := ob1_e hF
      refine r_callV C (d' := 0) [.int a1, .int 2] (c_X11_of hW (show (sM Ω t8).2.1 = t8 from rfl) a1 2 hv9) myX11_of wm7_2 ⟨_, _, _, _, (hW.ok k11), rfl, rfl, rfl, rfl⟩ rfl (kR rfl) (by decide) (kR rfl) rfl dX11_trimNow_51 ?_
      obtain ⟨t10, et10, hF⟩ := lt_e hF
      refine op_11_8 C hW.x (hW.fr k11) (show (sM Ω t8).2.1 = t8 from rfl) wm7_75 dX11_trimNow_54 (congrArg (sM Ω) et10) ?_
      refine r_iconst C (v := 1) rfl dX11_trimNow_57 ?_
      cases hF
      exact r_zreturn C true rfl dX11_trimNow_58
    · rw [if_neg hc] at hF
      refine r_iconst C (v := 0) rfl dX11_trimNow_16 ?_
      cases hF
      exact r_zreturn C false rfl dX11_trimNow_17
theorem dX11_canNest_0 : decode cX11_canNest 0 = .ok (.aload_n 0, 1) := by decide +kernel
theorem dX11_canNest_1 : decode cX11_canNest 1 = .ok (.invokevirtual 209, 3) := by decide +kernel
theorem dX11_canNest_4 : decode cX11_canNest 4 = .ok (.bipush 6, 2) := by decide +kernel
theorem dX11_canNest_6 : decode cX11_canNest 6 = .ok (.if_icmp .ge 15, 3) := by decide +kernel
theorem dX11_canNest_9 : decode cX11_canNest 9 = .ok (.aload_n 0, 1) := by decide +kernel
theorem dX11_canNest_10 : decode cX11_canNest 10 = .ok (.iload_n 1, 1) := by decide +kernel
theorem dX11_canNest_11 : decode cX11_canNest 11 = .ok (.invokevirtual 77, 3) := by decide +kernel
theorem dX11_canNest_14 : decode cX11_canNest 14 = .ok (.ifCond .ne 7, 3) := by decide +kernel
theorem dX11_canNest_17 : decode cX11_canNest 17 = .ok (.iconst 1, 1) := by decide +kernel
theorem dX11_canNest_18 : decode cX11_canNest 18 = .ok (.goto 4, 3) := by decide +kernel
theorem dX11_canNest_21 : decode cX11_canNest 21 = .ok (.iconst 0, 1) := by decide +kernel
theorem dX11_canNest_22 : decode cX11_canNest 22 = .ok (.ireturn, 1) := by decide +kernel
def F_X11_canNest (N : Nat) (a1 : Int32) (t : HV) : Option (Bool) := (ob1 (F_X11_nests N t) fun v1 => (if 6 ≤ v1 then some false else (ob1 (F_X11_hasNest a1 t) fun v2 => (if v2 = true then some false else some true))))
theorem c_X11_canNest {w : WP} (hW : gWM w) {Ω : OM}  {t : HV} (e : Ω.2.1 = t) (N : Nat) (a1 : Int32) {v : Bool} (hF : F_X11_canNest N a1 t = some v) : gM w 3 yX11_canNest cX11_canNest 2 (some .boolean) [.ref (wAd w (11, 12, 0, 0)), .int a1] (cA w Ω) (some (.int (b2i v))) (cA w Ω) := by
  refine gM_of "HedgeMessagesModel" rfl (by decide) (kR rfl) fun X C => ?_
  unfold F_X11_canNest at hF
  show gV w X _ _ 0 [(0, .ref (wAd w (11, 12, 0, 0))), (1, .int a1)] []
  refine r_aload_n C (k := 0) rfl rfl dX11_canNest_0 ?_
  obtain ⟨v1, hv1, hF⟩ := ob1_e hF
  refine r_callV C (d' := 1) [] (c_X11_nests hW e N hv1) myX11_nests wm7_31 ⟨_, _, _, _, (hW.ok k11), rfl, rfl, rfl, rfl⟩ rfl (kR rfl) (by decide) (kR rfl) rfl dX11_canNest_1 ?_
  refine r_bipush C (v := 6) rfl dX11_canNest_4 ?_
  refine r_icmp_ge C (tgt := 21) rfl dX11_canNest_6 (fun hc => ?_) (fun hc => ?_)
  · rw [if_pos hc] at hF
    refine r_iconst C (v := 0) rfl dX11_canNest_21 ?_
    cases hF
    exact r_zreturn C false rfl dX11_canNest_22
  · rw [if_neg hc] at hF
    refine r_aload_n C (k := 0) rfl rfl dX11_canNest_9 ?_
    refine r_iload_n C (k := 1) rfl rfl dX11_canNest_10 ?_
    obtain ⟨v2, hv2, hF⟩ := ob1_e hF
    refine r_callV C (d' := 2) [.int a1] (c_X11_hasNest hW e a1 hv2) myX11_hasNest wm7_23 ⟨_, _, _, _, (hW.ok k11), rfl, rfl, rfl, rfl⟩ rfl (kR rfl) (by decide) (kR rfl) rfl dX11_canNest_11 ?_
    refine r_if_ne C (tgt := 21) rfl dX11_canNest_14 (fun hc => ?_) (fun hc => ?_)
    · rw [if_pos (b2i_t hc)] at hF
      refine r_iconst C (v := 0) rfl dX11_canNest_21 ?_
      cases hF
      exact r_zreturn C false rfl dX11_canNest_22
    · rw [if_neg (b2i_f hc)] at hF
      refine r_iconst C (v := 1) rfl dX11_canNest_17 ?_
      refine r_goto C (tgt := 22) rfl dX11_canNest_18 ?_
      cases hF
      exact r_zreturn C true rfl dX11_canNest_22
theorem dX11_nestNow_0 : decode cX11_nestNow 0 = .ok (.aload_n 0, 1) := by decide +kernel
theorem dX11_nestNow_1 : decode cX11_nestNow 1 = .ok (.iload_n 1, 1) := by decide +kernel
theorem dX11_nestNow_2 : decode cX11_nestNow 2 = .ok (.invokevirtual 73, 3) := by decide +kernel
theorem dX11_nestNow_5 : decode cX11_nestNow 5 = .ok (.ifCond .eq 11, 3) := by decide +kernel
theorem dX11_nestNow_8 : decode cX11_nestNow 8 = .ok (.aload_n 0, 1) := by decide +kernel
theorem dX11_nestNow_9 : decode cX11_nestNow 9 = .ok (.iload_n 1, 1) := by decide +kernel
theorem dX11_nestNow_10 : decode cX11_nestNow 10 = .ok (.invokevirtual 212, 3) := by decide +kernel
theorem dX11_nestNow_13 : decode cX11_nestNow 13 = .ok (.ifCond .ne 5, 3) := by decide +kernel
theorem dX11_nestNow_16 : decode cX11_nestNow 16 = .ok (.iconst 0, 1) := by decide +kernel
theorem dX11_nestNow_17 : decode cX11_nestNow 17 = .ok (.ireturn, 1) := by decide +kernel
theorem dX11_nestNow_18 : decode cX11_nestNow 18 = .ok (.aload_n 0, 1) := by decide +kernel
theorem dX11_nestNow_19 : decode cX11_nestNow 19 = .ok (.iload_n 1, 1) := by decide +kernel
theorem dX11_nestNow_20 : decode cX11_nestNow 20 = .ok (.iconst 4, 1) := by decide +kernel
theorem dX11_nestNow_21 : decode cX11_nestNow 21 = .ok (.iload_n 2, 1) := by decide +kernel
theorem dX11_nestNow_22 : decode cX11_nestNow 22 = .ok (.invokevirtual 87, 3) := by decide +kernel
theorem dX11_nestNow_25 : decode cX11_nestNow 25 = .ok (.aload_n 0, 1) := by decide +kernel
theorem dX11_nestNow_26 : decode cX11_nestNow 26 = .ok (.aload_n 0, 1) := by decide +kernel
theorem dX11_nestNow_27 : decode cX11_nestNow 27 = .ok (.invokevirtual 209, 3) := by decide +kernel
theorem dX11_nestNow_30 : decode cX11_nestNow 30 = .ok (.putfield 200, 3) := by decide +kernel
theorem dX11_nestNow_33 : decode cX11_nestNow 33 = .ok (.iconst 1, 1) := by decide +kernel
theorem dX11_nestNow_34 : decode cX11_nestNow 34 = .ok (.ireturn, 1) := by decide +kernel
def F_X11_nestNow (N : Nat) (a1 : Int32) (a2 : Int32) (t : HV) : Option (Bool × (HV)) := (ob1 (F_X11_isSlot a1 t) fun v1 => (if v1 = true then (ob1 (F_X11_canNest N a1 t) fun v2 => (if v2 = true then (ob1 (F_X11_puts a1 4 a2 t) fun t4 => (ob1 (F_X11_nests N t4) fun v5 => (lt (sS t4 8 v5) fun t6 => some (true, t6)))) else some (false, t))) else some (false, t)))
theorem c_X11_nestNow {w : WP} (hW : gWM w) {Ω : OM}  {t : HV} (e : Ω.2.1 = t) (N : Nat) (a1 : Int32) (a2 : Int32) {v : Bool} {t' : HV} (hF : F_X11_nestNow N a1 a2 t = some (v, t')) {Ω' : OM} (e2 : (sM Ω t') = Ω') : gM w 4 yX11_nestNow cX11_nestNow 3 (some .boolean) [.ref (wAd w (11, 12, 0, 0)), .int a1, .int a2] (cA w Ω) (some (.int (b2i v))) (cA w Ω') := by
  refine gM_of "HedgeMessagesModel" rfl (by decide) (kR rfl) fun X C => ?_
  unfold F_X11_nestNow at hF
  subst e2
  show gV w X _ _ 0 [(0, .ref (wAd w (11, 12, 0, 0))), (1, .int a1), (2, .int a2)] []
  refine r_ct (ct' := cA w (sM Ω t)) (congrArg (cA w) (sM_i e).symm) ?_
  refine r_aload_n C (k := 0) rfl rfl dX11_nestNow_0 ?_
  refine r_iload_n C (k := 1) rfl rfl dX11_nestNow_1 ?_
  obtain ⟨v1, hv1, hF⟩ := ob1_e hF
  refine r_callV C (d' := 1) [.int a1] (c_X11_isSlot hW (show (sM Ω t).2.1 = t from rfl) a1 hv1) myX11_isSlot wm7_27 ⟨_, _, _, _, (hW.ok k11), rfl, rfl, rfl, rfl⟩ rfl (kR rfl) (by decide) (kR rfl) rfl dX11_nestNow_2 ?_
  refine r_if_eq C (tgt := 16) rfl dX11_nestNow_5 (fun hc => ?_) (fun hc => ?_)
  · rw [if_neg (b2i_f hc)] at hF
    refine r_iconst C (v := 0) rfl dX11_nestNow_16 ?_
    cases hF
    exact r_zreturn C false rfl dX11_nestNow_17
  · rw [if_pos (b2i_t hc)] at hF
    refine r_aload_n C (k := 0) rfl rfl dX11_nestNow_8 ?_
    refine r_iload_n C (k := 1) rfl rfl dX11_nestNow_9 ?_
    obtain ⟨v2, hv2, hF⟩ := ob1_e hF
    refine r_callV C (d' := 3) [.int a1] (c_X11_canNest hW (show (sM Ω t).2.1 = t from rfl) N a1 hv2) myX11_canNest wm8_29 ⟨_, _, _, _, (hW.ok k11), rfl, rfl, rfl, rfl⟩ rfl (kR rfl) (by decide) (kR rfl) rfl dX11_nestNow_10 ?_
    refine r_if_ne C (tgt := 18) rfl dX11_nestNow_13 (fun hc => ?_) (fun hc => ?_)
    · rw [if_pos (b2i_t hc)] at hF
      refine r_aload_n C (k := 0) rfl rfl dX11_nestNow_18 ?_
      refine r_iload_n C (k := 1) rfl rfl dX11_nestNow_19 ?_
      refine r_iconst C (v := 4) rfl dX11_nestNow_20 ?_
      refine r_iload_n C (k := 2) rfl rfl dX11_nestNow_21 ?_
      obtain ⟨t4, ht4, hF⟩ := ob1_e hF
      refine r_callV C (d' := 0) [.int a1, .int 4, .int a2] (c_X11_puts hW (show (sM Ω t).2.1 = t from rfl) a1 4 a2 ht4 rfl) myX11_puts wm7_14 ⟨_, _, _, _, (hW.ok k11), rfl, rfl, rfl, rfl⟩ rfl (kR rfl) (by decide) (kR rfl) rfl dX11_nestNow_22 ?_
      refine r_aload_n C (k := 0) rfl rfl dX11_nestNow_25 ?_
      refine r_aload_n C (k := 0) rfl rfl dX11_nestNow_26 ?_
      obtain ⟨v5, hv5, hF⟩ := ob1_e hF
      refine r_callV C (d' := 1) [] (c_X11_nests hW (show (sM Ω t4).2.1 = t4 from rfl) N hv5) myX11_nests wm7_31 ⟨_, _, _, _, (hW.ok k11), rfl, rfl, rfl, rfl⟩ rfl (kR rfl) (by decide) (kR rfl) rfl dX11_nestNow_27 ?_
      obtain ⟨t6, et6, hF⟩ := lt_e hF
      refine op_11_8 C hW.x (hW.fr k11) (show (sM Ω t4).2.1 = t4 from rfl) wm7_75 dX11_nestNow_30 (congrArg (sM Ω) et6) ?_
      refine r_iconst C (v := 1) rfl dX11_nestNow_33 ?_
      cases hF
      exact r_zreturn C true rfl dX11_nestNow_34
    · rw [if_neg (b2i_f hc)] at hF
      refine r_iconst C (v := 0) rfl dX11_nestNow_16 ?_
      cases hF
      exact r_zreturn C false rfl dX11_nestNow_17
theorem dX11_messageNow_0 : decode cX11_messageNow 0 = .ok (.aload_n 0, 1) := by decide +kernel
theorem dX11_messageNow_1 : decode cX11_messageNow 1 = .ok (.getfield 7, 3) := by decide +kernel
theorem dX11_messageNow_4 : decode cX11_messageNow 4 = .ok (.bipush 12, 2) := by decide +kernel
theorem dX11_messageNow_6 : decode cX11_messageNow 6 = .ok (.iload_n 1, 1) := by decide +kernel
theorem dX11_messageNow_7 : decode cX11_messageNow 7 = .ok (.iadd, 1) := by decide +kernel
theorem dX11_messageNow_8 : decode cX11_messageNow 8 = .ok (.iaload, 1) := by decide +kernel
theorem dX11_messageNow_9 : decode cX11_messageNow 9 = .ok (.bipush 8, 2) := by decide +kernel
theorem dX11_messageNow_11 : decode cX11_messageNow 11 = .ok (.if_icmp .ne 5, 3) := by decide +kernel
theorem dX11_messageNow_14 : decode cX11_messageNow 14 = .ok (.iconst 0, 1) := by decide +kernel
theorem dX11_messageNow_15 : decode cX11_messageNow 15 = .ok (.ireturn, 1) := by decide +kernel
theorem dX11_messageNow_16 : decode cX11_messageNow 16 = .ok (.iload_n 1, 1) := by decide +kernel
theorem dX11_messageNow_17 : decode cX11_messageNow 17 = .ok (.aload_n 0, 1) := by decide +kernel
theorem dX11_messageNow_18 : decode cX11_messageNow 18 = .ok (.getfield 7, 3) := by decide +kernel
theorem dX11_messageNow_21 : decode cX11_messageNow 21 = .ok (.bipush 12, 2) := by decide +kernel
theorem dX11_messageNow_23 : decode cX11_messageNow 23 = .ok (.iload_n 1, 1) := by decide +kernel
theorem dX11_messageNow_24 : decode cX11_messageNow 24 = .ok (.iadd, 1) := by decide +kernel
theorem dX11_messageNow_25 : decode cX11_messageNow 25 = .ok (.iaload, 1) := by decide +kernel
theorem dX11_messageNow_26 : decode cX11_messageNow 26 = .ok (.invokestatic 114, 3) := by decide +kernel
theorem dX11_messageNow_29 : decode cX11_messageNow 29 = .ok (.istore_n 2, 1) := by decide +kernel
theorem dX11_messageNow_30 : decode cX11_messageNow 30 = .ok (.iconst 0, 1) := by decide +kernel
theorem dX11_messageNow_31 : decode cX11_messageNow 31 = .ok (.istore_n 3, 1) := by decide +kernel
theorem dX11_messageNow_32 : decode cX11_messageNow 32 = .ok (.iload_n 3, 1) := by decide +kernel
theorem dX11_messageNow_33 : decode cX11_messageNow 33 = .ok (.bipush 13, 2) := by decide +kernel
theorem dX11_messageNow_35 : decode cX11_messageNow 35 = .ok (.if_icmp .ge 23, 3) := by decide +kernel
theorem dX11_messageNow_38 : decode cX11_messageNow 38 = .ok (.aload_n 0, 1) := by decide +kernel
theorem dX11_messageNow_39 : decode cX11_messageNow 39 = .ok (.getfield 7, 3) := by decide +kernel
theorem dX11_messageNow_42 : decode cX11_messageNow 42 = .ok (.iload_n 2, 1) := by decide +kernel
theorem dX11_messageNow_43 : decode cX11_messageNow 43 = .ok (.iload_n 3, 1) := by decide +kernel
theorem dX11_messageNow_44 : decode cX11_messageNow 44 = .ok (.iadd, 1) := by decide +kernel
theorem dX11_messageNow_45 : decode cX11_messageNow 45 = .ok (.aload_n 0, 1) := by decide +kernel
theorem dX11_messageNow_46 : decode cX11_messageNow 46 = .ok (.getfield 25, 3) := by decide +kernel
theorem dX11_messageNow_49 : decode cX11_messageNow 49 = .ok (.iload_n 3, 1) := by decide +kernel
theorem dX11_messageNow_50 : decode cX11_messageNow 50 = .ok (.iaload, 1) := by decide +kernel
theorem dX11_messageNow_51 : decode cX11_messageNow 51 = .ok (.iastore, 1) := by decide +kernel
theorem dX11_messageNow_52 : decode cX11_messageNow 52 = .ok (.iinc 3 1, 3) := by decide +kernel
theorem dX11_messageNow_55 : decode cX11_messageNow 55 = .ok (.goto (-23), 3) := by decide +kernel
theorem dX11_messageNow_58 : decode cX11_messageNow 58 = .ok (.aload_n 0, 1) := by decide +kernel
theorem dX11_messageNow_59 : decode cX11_messageNow 59 = .ok (.getfield 7, 3) := by decide +kernel
theorem dX11_messageNow_62 : decode cX11_messageNow 62 = .ok (.bipush 12, 2) := by decide +kernel
theorem dX11_messageNow_64 : decode cX11_messageNow 64 = .ok (.iload_n 1, 1) := by decide +kernel
theorem dX11_messageNow_65 : decode cX11_messageNow 65 = .ok (.iadd, 1) := by decide +kernel
theorem dX11_messageNow_66 : decode cX11_messageNow 66 = .ok (.dup2, 1) := by decide +kernel
theorem dX11_messageNow_67 : decode cX11_messageNow 67 = .ok (.iaload, 1) := by decide +kernel
theorem dX11_messageNow_68 : decode cX11_messageNow 68 = .ok (.iconst 1, 1) := by decide +kernel
theorem dX11_messageNow_69 : decode cX11_messageNow 69 = .ok (.iadd, 1) := by decide +kernel
theorem dX11_messageNow_70 : decode cX11_messageNow 70 = .ok (.iastore, 1) := by decide +kernel
theorem dX11_messageNow_71 : decode cX11_messageNow 71 = .ok (.aload_n 0, 1) := by decide +kernel
theorem dX11_messageNow_72 : decode cX11_messageNow 72 = .ok (.getfield 7, 3) := by decide +kernel
theorem dX11_messageNow_75 : decode cX11_messageNow 75 = .ok (.bipush 14, 2) := by decide +kernel
theorem dX11_messageNow_77 : decode cX11_messageNow 77 = .ok (.iload_n 1, 1) := by decide +kernel
theorem dX11_messageNow_78 : decode cX11_messageNow 78 = .ok (.iadd, 1) := by decide +kernel
theorem dX11_messageNow_79 : decode cX11_messageNow 79 = .ok (.dup2, 1) := by decide +kernel
theorem dX11_messageNow_80 : decode cX11_messageNow 80 = .ok (.iaload, 1) := by decide +kernel
theorem dX11_messageNow_81 : decode cX11_messageNow 81 = .ok (.iconst 1, 1) := by decide +kernel
theorem dX11_messageNow_82 : decode cX11_messageNow 82 = .ok (.iadd, 1) := by decide +kernel
theorem dX11_messageNow_83 : decode cX11_messageNow 83 = .ok (.iastore, 1) := by decide +kernel
theorem dX11_messageNow_84 : decode cX11_messageNow 84 = .ok (.aload_n 0, 1) := by decide +kernel
theorem dX11_messageNow_85 : decode cX11_messageNow 85 = .ok (.aload_n 0, 1) := by decide +kernel
theorem dX11_messageNow_86 : decode cX11_messageNow 86 = .ok (.getfield 7, 3) := by decide +kernel
theorem dX11_messageNow_89 : decode cX11_messageNow 89 = .ok (.bipush 12, 2) := by decide +kernel
theorem dX11_messageNow_91 : decode cX11_messageNow 91 = .ok (.iload_n 1, 1) := by decide +kernel
theorem dX11_messageNow_92 : decode cX11_messageNow 92 = .ok (.iadd, 1) := by decide +kernel
theorem dX11_messageNow_93 : decode cX11_messageNow 93 = .ok (.iaload, 1) := by decide +kernel
theorem dX11_messageNow_94 : decode cX11_messageNow 94 = .ok (.putfield 200, 3) := by decide +kernel
theorem dX11_messageNow_97 : decode cX11_messageNow 97 = .ok (.iconst 1, 1) := by decide +kernel
theorem dX11_messageNow_98 : decode cX11_messageNow 98 = .ok (.ireturn, 1) := by decide +kernel
def st_X11_messageNow_32 (N : Nat) (l1 : Int32) (l2 : Int32) (l3 : Int32) (t : HV) : Option ((Int32 × HV) ⊕ (Bool × (HV))) := (if 13 ≤ l3 then (if vpb (12 + l1) 760 = true then (if vpb (12 + l1) 760 = true then (lt (aw t 0 (12 + l1) ((ag t 0 (12 + l1)) + 1)) fun t5 => (if vpb (14 + l1) 760 = true then (if vpb (14 + l1) 760 = true then (lt (aw t5 0 (14 + l1) ((ag t5 0 (14 + l1)) + 1)) fun t8 => (if vpb (12 + l1) 760 = true then (lt (sS t8 8 (ag t8 0 (12 + l1))) fun t10 => some (.inr (true, t10))) else none)) else none) else none)) else none) else none) else (if vpb l3 13 = true then (if vpb (l2 + l3) 760 = true then (lt (aw t 0 (l2 + l3) (ag t 9 l3)) fun t13 => some (.inl ((l3 + 1), t13))) else none) else none))
def F_X11_messageNow (N : Nat) (a1 : Int32) (t : HV) : Option (Bool × (HV)) := (if vpb (12 + a1) 760 = true then (if (ag t 0 (12 + a1)) = 8 then some (false, t) else (if vpb (12 + a1) 760 = true then (lpN N (fun z => st_X11_messageNow_32 N a1 (F_X11_waitingAt a1 (ag t 0 (12 + a1))) z.1 z.2) (0, t)) else none)) else none)
theorem lp_X11_messageNow_32 {w : WP} (hW : gWM w) {Ω : OM}   (l1 : Int32) (l2 : Int32) {N : Nat} {X : CX} (C : gC w X cX11_messageNow "HedgeMessagesModel" (some .boolean) 1 4) {v : Bool} {t' : HV}  : ∀ (n : Nat) (l3 : Int32) (t : HV), lpN n (fun z : Int32 × HV => st_X11_messageNow_32 N l1 l2 z.1 z.2) (l3, t) = some (v, t') → gV w X (some (.int (b2i v)), cA w (sM Ω t')) (cA w (sM Ω t)) 32 [(0, .ref (wAd w (11, 12, 0, 0))), (1, .int l1), (2, .int l2), (3, .int l3)] [] := by
  intro n
  induction n with
  | zero => intro l3 t hL; exact lpN_0 hL
  | succ n ih =>
    intro l3 t hL
    obtain ⟨q9, hF, hL⟩ := lpN_e hL
    change st_X11_messageNow_32 N l1 l2 l3 t = some q9 at hF
    unfold st_X11_messageNow_32 at hF
    refine r_iload_n C (k := 3) rfl rfl dX11_messageNow_32 ?_
    refine r_bipush C (v := 13) rfl dX11_messageNow_33 ?_
    refine r_icmp_ge C (tgt := 58) rfl dX11_messageNow_35 (fun hc => ?_) (fun hc => ?_)
    · rw [if_pos hc] at hF
      refine r_aload_n C (k := 0) rfl rfl dX11_messageNow_58 ?_
      refine og_11_0 C (hW.ok k11) wm7_67 dX11_messageNow_59 ?_
      refine r_bipush C (v := 12) rfl dX11_messageNow_62 ?_
      refine r_iload_n C (k := 1) rfl rfl dX11_messageNow_64 ?_
      refine r_iadd C dX11_messageNow_65 ?_
      refine r_dup2_11 C rfl rfl dX11_messageNow_66 ?_
      obtain ⟨b3, hF⟩ := gd_e hF
      refine m_ald C (hW.ok (k12 (a := 0) (by unfold okMa; decide))) (show (sM Ω t).2.1 = t from rfl) rfl b3 dX11_messageNow_67 ?_
      refine r_iconst C (v := 1) rfl dX11_messageNow_68 ?_
      refine r_iadd C dX11_messageNow_69 ?_
      obtain ⟨b4, hF⟩ := gd_e hF
      obtain ⟨t5, et5, hF⟩ := lt_e hF
      refine m_ast C hW.x (hW.fr (k12 (a := 0) (by unfold okMa; decide))) (show (sM Ω t).2.1 = t from rfl) rfl b4 dX11_messageNow_70 (congrArg (sM Ω) et5) ?_
      refine r_aload_n C (k := 0) rfl rfl dX11_messageNow_71 ?_
      refine og_11_0 C (hW.ok k11) wm7_67 dX11_messageNow_72 ?_
      refine r_bipush C (v := 14) rfl dX11_messageNow_75 ?_
      refine r_iload_n C (k := 1) rfl rfl dX11_messageNow_77 ?_
      refine r_iadd C dX11_messageNow_78 ?_
      refine r_dup2_11 C rfl rfl dX11_messageNow_79 ?_
      obtain ⟨b6, hF⟩ := gd_e hF
      refine m_ald C (hW.ok (k12 (a := 0) (by unfold okMa; decide))) (show (sM Ω t5).2.1 = t5 from rfl) rfl b6 dX11_messageNow_80 ?_
      refine r_iconst C (v := 1) rfl dX11_messageNow_81 ?_
      refine r_iadd C dX11_messageNow_82 ?_
      obtain ⟨b7, hF⟩ := gd_e hF
      obtain ⟨t8, et8, hF⟩ := lt_e hF
      refine m_ast C hW.x (hW.fr (k12 (a := 0) (by unfold okMa; decide))) (show (sM Ω t5).2.1 = t5 from rfl) rfl b7 dX11_messageNow_83 (congrArg (sM Ω) et8) ?_
      refine r_aload_n C (k := 0) rfl rfl dX11_messageNow_84 ?_
      refine r_aload_n C (k := 0) rfl rfl dX11_messageNow_85 ?_
      refine og_11_0 C (hW.ok k11) wm7_67 dX11_messageNow_86 ?_
      refine r_bipush C (v := 12) rfl dX11_messageNow_89 ?_
      refine r_iload_n C (k := 1) rfl rfl dX11_messageNow_91 ?_
      refine r_iadd C dX11_messageNow_92 ?_
      obtain ⟨b9, hF⟩ := gd_e hF
      refine m_ald C (hW.ok (k12 (a := 0) (by unfold okMa; decide))) (show (sM Ω t8).2.1 = t8 from rfl) rfl b9 dX11_messageNow_93 ?_
      obtain ⟨t10, et10, hF⟩ := lt_e hF
      refine op_11_8 C hW.x (hW.fr k11) (show (sM Ω t8).2.1 = t8 from rfl) wm7_75 dX11_messageNow_94 (congrArg (sM Ω) et10) ?_
      refine r_iconst C (v := 1) rfl dX11_messageNow_97 ?_
      cases hF
      change some _ = some _ at hL
      cases hL
      exact r_zreturn C true rfl dX11_messageNow_98
    · rw [if_neg hc] at hF
      refine r_aload_n C (k := 0) rfl rfl dX11_messageNow_38 ?_
      refine og_11_0 C (hW.ok k11) wm7_67 dX11_messageNow_39 ?_
      refine r_iload_n C (k := 2) rfl rfl dX11_messageNow_42 ?_
      refine r_iload_n C (k := 3) rfl rfl dX11_messageNow_43 ?_
      refine r_iadd C dX11_messageNow_44 ?_
      refine r_aload_n C (k := 0) rfl rfl dX11_messageNow_45 ?_
      refine og_11_9 C (hW.ok k11) wm7_76 dX11_messageNow_46 ?_
      refine r_iload_n C (k := 3) rfl rfl dX11_messageNow_49 ?_
      obtain ⟨b11, hF⟩ := gd_e hF
      refine m_ald C (hW.ok (k12 (a := 9) (by unfold okMa; decide))) (show (sM Ω t).2.1 = t from rfl) rfl b11 dX11_messageNow_50 ?_
      obtain ⟨b12, hF⟩ := gd_e hF
      obtain ⟨t13, et13, hF⟩ := lt_e hF
      refine m_ast C hW.x (hW.fr (k12 (a := 0) (by unfold okMa; decide))) (show (sM Ω t).2.1 = t from rfl) rfl b12 dX11_messageNow_51 (congrArg (sM Ω) et13) ?_
      refine r_iinc C (k := 3) (v := (l3 + 1)) (lo' := [(3, .int (l3 + 1)), (0, .ref (wAd w (11, 12, 0, 0))), (1, .int l1), (2, .int l2)]) rfl rfl (by decide) rfl dX11_messageNow_52 ?_
      refine r_goto C (tgt := 32) rfl dX11_messageNow_55 ?_
      cases hF
      change lpN n _ _ = some _ at hL
      refine r_lo [1, 2, 3, 0] (lo' := [(0, .ref (wAd w (11, 12, 0, 0))), (1, .int l1), (2, .int l2), (3, .int (l3 + 1))]) rfl ?_
      exact ih (l3 + 1) t13 hL
theorem c_X11_messageNow {w : WP} (hW : gWM w) {Ω : OM}  {t : HV} (e : Ω.2.1 = t) (N : Nat) (a1 : Int32) {v : Bool} {t' : HV} (hF : F_X11_messageNow N a1 t = some (v, t')) {Ω' : OM} (e2 : (sM Ω t') = Ω') : gM w 1 yX11_messageNow cX11_messageNow 4 (some .boolean) [.ref (wAd w (11, 12, 0, 0)), .int a1] (cA w Ω) (some (.int (b2i v))) (cA w Ω') := by
  refine gM_of "HedgeMessagesModel" rfl (by decide) (kR rfl) fun X C => ?_
  unfold F_X11_messageNow at hF
  subst e2
  show gV w X _ _ 0 [(0, .ref (wAd w (11, 12, 0, 0))), (1, .int a1)] []
  refine r_ct (ct' := cA w (sM Ω t)) (congrArg (cA w) (sM_i e).symm) ?_
  refine r_aload_n C (k := 0) rfl rfl dX11_messageNow_0 ?_
  refine og_11_0 C (hW.ok k11) wm7_67 dX11_messageNow_1 ?_
  refine r_bipush C (v := 12) rfl dX11_messageNow_4 ?_
  refine r_iload_n C (k := 1) rfl rfl dX11_messageNow_6 ?_
  refine r_iadd C dX11_messageNow_7 ?_
  obtain ⟨b1, hF⟩ := gd_e hF
  refine m_ald C (hW.ok (k12 (a := 0) (by unfold okMa; decide))) (show (sM Ω t).2.1 = t from rfl) rfl b1 dX11_messageNow_8 ?_
  refine r_bipush C (v := 8) rfl dX11_messageNow_9 ?_
  refine r_icmp_ne C (tgt := 16) rfl dX11_messageNow_11 (fun hc => ?_) (fun hc => ?_)
  · rw [if_neg hc] at hF
    refine r_iload_n C (k := 1) rfl rfl dX11_messageNow_16 ?_
    refine r_aload_n C (k := 0) rfl rfl dX11_messageNow_17 ?_
    refine og_11_0 C (hW.ok k11) wm7_67 dX11_messageNow_18 ?_
    refine r_bipush C (v := 12) rfl dX11_messageNow_21 ?_
    refine r_iload_n C (k := 1) rfl rfl dX11_messageNow_23 ?_
    refine r_iadd C dX11_messageNow_24 ?_
    obtain ⟨b2, hF⟩ := gd_e hF
    refine m_ald C (hW.ok (k12 (a := 0) (by unfold okMa; decide))) (show (sM Ω t).2.1 = t from rfl) rfl b2 dX11_messageNow_25 ?_
    refine r_callS C (d' := 0) [.int a1, .int (ag t 0 (12 + a1))] (c_X11_waitingAt a1 (ag t 0 (12 + a1)) rfl) myX11_waitingAt wm7_56 rfl (kR rfl) (by decide) (kR rfl) rfl dX11_messageNow_26 ?_
    refine r_istore_n C (lo' := [(2, .int (F_X11_waitingAt a1 (ag t 0 (12 + a1)))), (0, .ref (wAd w (11, 12, 0, 0))), (1, .int a1)]) rfl (by decide) rfl dX11_messageNow_29 ?_
    refine r_iconst C (v := 0) rfl dX11_messageNow_30 ?_
    refine r_istore_n C (lo' := [(3, .int 0), (2, .int (F_X11_waitingAt a1 (ag t 0 (12 + a1)))), (0, .ref (wAd w (11, 12, 0, 0))), (1, .int a1)]) rfl (by decide) rfl dX11_messageNow_31 ?_
    refine r_lo [2, 3, 1, 0] (lo' := [(0, .ref (wAd w (11, 12, 0, 0))), (1, .int a1), (2, .int (F_X11_waitingAt a1 (ag t 0 (12 + a1)))), (3, .int 0)]) rfl ?_
    exact lp_X11_messageNow_32 hW a1 (F_X11_waitingAt a1 (ag t 0 (12 + a1))) C N 0 t hF
  · rw [if_pos hc] at hF
    refine r_iconst C (v := 0) rfl dX11_messageNow_14 ?_
    cases hF
    exact r_zreturn C false rfl dX11_messageNow_15
theorem dX11_cancelNow_0 : decode cX11_cancelNow 0 = .ok (.iload_n 2, 1) := by decide +kernel
theorem dX11_cancelNow_1 : decode cX11_cancelNow 1 = .ok (.i2l, 1) := by decide +kernel
theorem dX11_cancelNow_2 : decode cX11_cancelNow 2 = .ok (.lconst 0, 1) := by decide +kernel
theorem dX11_cancelNow_3 : decode cX11_cancelNow 3 = .ok (.aload_n 0, 1) := by decide +kernel
theorem dX11_cancelNow_4 : decode cX11_cancelNow 4 = .ok (.getfield 7, 3) := by decide +kernel
theorem dX11_cancelNow_7 : decode cX11_cancelNow 7 = .ok (.bipush 12, 2) := by decide +kernel
theorem dX11_cancelNow_9 : decode cX11_cancelNow 9 = .ok (.iload_n 1, 1) := by decide +kernel
theorem dX11_cancelNow_10 : decode cX11_cancelNow 10 = .ok (.iadd, 1) := by decide +kernel
theorem dX11_cancelNow_11 : decode cX11_cancelNow 11 = .ok (.iaload, 1) := by decide +kernel
theorem dX11_cancelNow_12 : decode cX11_cancelNow 12 = .ok (.iconst 1, 1) := by decide +kernel
theorem dX11_cancelNow_13 : decode cX11_cancelNow 13 = .ok (.isub, 1) := by decide +kernel
theorem dX11_cancelNow_14 : decode cX11_cancelNow 14 = .ok (.i2l, 1) := by decide +kernel
theorem dX11_cancelNow_15 : decode cX11_cancelNow 15 = .ok (.invokestatic 65, 3) := by decide +kernel
theorem dX11_cancelNow_18 : decode cX11_cancelNow 18 = .ok (.ifCond .ne 5, 3) := by decide +kernel
theorem dX11_cancelNow_21 : decode cX11_cancelNow 21 = .ok (.iconst 0, 1) := by decide +kernel
theorem dX11_cancelNow_22 : decode cX11_cancelNow 22 = .ok (.ireturn, 1) := by decide +kernel
theorem dX11_cancelNow_23 : decode cX11_cancelNow 23 = .ok (.aload_n 0, 1) := by decide +kernel
theorem dX11_cancelNow_24 : decode cX11_cancelNow 24 = .ok (.aload_n 0, 1) := by decide +kernel
theorem dX11_cancelNow_25 : decode cX11_cancelNow 25 = .ok (.getfield 7, 3) := by decide +kernel
theorem dX11_cancelNow_28 : decode cX11_cancelNow 28 = .ok (.iload_n 1, 1) := by decide +kernel
theorem dX11_cancelNow_29 : decode cX11_cancelNow 29 = .ok (.iload_n 2, 1) := by decide +kernel
theorem dX11_cancelNow_30 : decode cX11_cancelNow 30 = .ok (.invokestatic 114, 3) := by decide +kernel
theorem dX11_cancelNow_33 : decode cX11_cancelNow 33 = .ok (.iaload, 1) := by decide +kernel
theorem dX11_cancelNow_34 : decode cX11_cancelNow 34 = .ok (.putfield 200, 3) := by decide +kernel
theorem dX11_cancelNow_37 : decode cX11_cancelNow 37 = .ok (.aload_n 0, 1) := by decide +kernel
theorem dX11_cancelNow_38 : decode cX11_cancelNow 38 = .ok (.iload_n 1, 1) := by decide +kernel
theorem dX11_cancelNow_39 : decode cX11_cancelNow 39 = .ok (.iload_n 2, 1) := by decide +kernel
theorem dX11_cancelNow_40 : decode cX11_cancelNow 40 = .ok (.invokevirtual 120, 3) := by decide +kernel
theorem dX11_cancelNow_43 : decode cX11_cancelNow 43 = .ok (.aload_n 0, 1) := by decide +kernel
theorem dX11_cancelNow_44 : decode cX11_cancelNow 44 = .ok (.getfield 7, 3) := by decide +kernel
theorem dX11_cancelNow_47 : decode cX11_cancelNow 47 = .ok (.bipush 20, 2) := by decide +kernel
theorem dX11_cancelNow_49 : decode cX11_cancelNow 49 = .ok (.iload_n 1, 1) := by decide +kernel
theorem dX11_cancelNow_50 : decode cX11_cancelNow 50 = .ok (.iadd, 1) := by decide +kernel
theorem dX11_cancelNow_51 : decode cX11_cancelNow 51 = .ok (.dup2, 1) := by decide +kernel
theorem dX11_cancelNow_52 : decode cX11_cancelNow 52 = .ok (.iaload, 1) := by decide +kernel
theorem dX11_cancelNow_53 : decode cX11_cancelNow 53 = .ok (.iconst 1, 1) := by decide +kernel
theorem dX11_cancelNow_54 : decode cX11_cancelNow 54 = .ok (.iadd, 1) := by decide +kernel
theorem dX11_cancelNow_55 : decode cX11_cancelNow 55 = .ok (.iastore, 1) := by decide +kernel
theorem dX11_cancelNow_56 : decode cX11_cancelNow 56 = .ok (.iconst 1, 1) := by decide +kernel
theorem dX11_cancelNow_57 : decode cX11_cancelNow 57 = .ok (.ireturn, 1) := by decide +kernel
def F_X11_cancelNow (N : Nat) (a1 : Int32) (a2 : Int32) (t : HV) : Option (Bool × (HV)) := (if vpb (12 + a1) 760 = true then (if (F_X11_in ((a2 : Int32).toInt64) (0 : Int64) ((((ag t 0 (12 + a1)) - 1) : Int32).toInt64)) = true then (if vpb (F_X11_waitingAt a1 a2) 760 = true then (lt (sS t 8 (ag t 0 (F_X11_waitingAt a1 a2))) fun t3 => (ob1 (F_X11_waitsNoMore N a1 a2 t3) fun t5 => (if vpb (20 + a1) 760 = true then (if vpb (20 + a1) 760 = true then (lt (aw t5 0 (20 + a1) ((ag t5 0 (20 + a1)) + 1)) fun t8 => some (true, t8)) else none) else none))) else none) else some (false, t)) else none)
theorem c_X11_cancelNow {w : WP} (hW : gWM w) {Ω : OM}  {t : HV} (e : Ω.2.1 = t) (N : Nat) (a1 : Int32) (a2 : Int32) {v : Bool} {t' : HV} (hF : F_X11_cancelNow N a1 a2 t = some (v, t')) {Ω' : OM} (e2 : (sM Ω t') = Ω') : gM w 2 yX11_cancelNow cX11_cancelNow 3 (some .boolean) [.ref (wAd w (11, 12, 0, 0)), .int a1, .int a2] (cA w Ω) (some (.int (b2i v))) (cA w Ω') := by
  refine gM_of "HedgeMessagesModel" rfl (by decide) (kR rfl) fun X C => ?_
  unfold F_X11_cancelNow at hF
  subst e2
  show gV w X _ _ 0 [(0, .ref (wAd w (11, 12, 0, 0))), (1, .int a1), (2, .int a2)] []
  refine r_ct (ct' := cA w (sM Ω t)) (congrArg (cA w) (sM_i e).symm) ?_
  refine r_iload_n C (k := 2) rfl rfl dX11_cancelNow_0 ?_
  refine r_i2l C (v := ((a2 : Int32).toInt64)) rfl dX11_cancelNow_1 ?_
  refine r_lconst C (v := 0) rfl dX11_cancelNow_2 ?_
  refine r_aload_n C (k := 0) rfl rfl dX11_cancelNow_3 ?_
  refine og_11_0 C (hW.ok k11) wm7_67 dX11_cancelNow_4 ?_
  refine r_bipush C (v := 12) rfl dX11_cancelNow_7 ?_
  refine r_iload_n C (k := 1) rfl rfl dX11_cancelNow_9 ?_
  refine r_iadd C dX11_cancelNow_10 ?_
  obtain ⟨b1, hF⟩ := gd_e hF
  refine m_ald C (hW.ok (k12 (a := 0) (by unfold okMa; decide))) (show (sM Ω t).2.1 = t from rfl) rfl b1 dX11_cancelNow_11 ?_
  refine r_iconst C (v := 1) rfl dX11_cancelNow_12 ?_
  refine r_isub C dX11_cancelNow_13 ?_
  refine r_i2l C (v := ((((ag t 0 (12 + a1)) - 1) : Int32).toInt64)) rfl dX11_cancelNow_14 ?_
  refine r_callS C (d' := 0) [.long ((a2 : Int32).toInt64), .long (0 : Int64), .long ((((ag t 0 (12 + a1)) - 1) : Int32).toInt64)] (c_X11_in ((a2 : Int32).toInt64) (0 : Int64) ((((ag t 0 (12 + a1)) - 1) : Int32).toInt64) rfl) myX11_in wm6_208 rfl (kR rfl) (by decide) (kR rfl) rfl dX11_cancelNow_15 ?_
  refine r_if_ne C (tgt := 23) rfl dX11_cancelNow_18 (fun hc => ?_) (fun hc => ?_)
  · rw [if_pos (b2i_t hc)] at hF
    refine r_aload_n C (k := 0) rfl rfl dX11_cancelNow_23 ?_
    refine r_aload_n C (k := 0) rfl rfl dX11_cancelNow_24 ?_
    refine og_11_0 C (hW.ok k11) wm7_67 dX11_cancelNow_25 ?_
    refine r_iload_n C (k := 1) rfl rfl dX11_cancelNow_28 ?_
    refine r_iload_n C (k := 2) rfl rfl dX11_cancelNow_29 ?_
    refine r_callS C (d' := 0) [.int a1, .int a2] (c_X11_waitingAt a1 a2 rfl) myX11_waitingAt wm7_56 rfl (kR rfl) (by decide) (kR rfl) rfl dX11_cancelNow_30 ?_
    obtain ⟨b2, hF⟩ := gd_e hF
    refine m_ald C (hW.ok (k12 (a := 0) (by unfold okMa; decide))) (show (sM Ω t).2.1 = t from rfl) rfl b2 dX11_cancelNow_33 ?_
    obtain ⟨t3, et3, hF⟩ := lt_e hF
    refine op_11_8 C hW.x (hW.fr k11) (show (sM Ω t).2.1 = t from rfl) wm7_75 dX11_cancelNow_34 (congrArg (sM Ω) et3) ?_
    refine r_aload_n C (k := 0) rfl rfl dX11_cancelNow_37 ?_
    refine r_iload_n C (k := 1) rfl rfl dX11_cancelNow_38 ?_
    refine r_iload_n C (k := 2) rfl rfl dX11_cancelNow_39 ?_
    obtain ⟨t5, ht5, hF⟩ := ob1_e hF
    refine r_callV C (d' := 1) [.int a1, .int a2] (c_X11_waitsNoMore hW (show (sM Ω t3).2.1 = t3 from rfl) N a1 a2 ht5 rfl) myX11_waitsNoMore wm8_37 ⟨_, _, _, _, (hW.ok k11), rfl, rfl, rfl, rfl⟩ rfl (kR rfl) (by decide) (kR rfl) rfl dX11_cancelNow_40 ?_
    refine r_aload_n C (k := 0) rfl rfl dX11_cancelNow_43 ?_
    refine og_11_0 C (hW.ok k11) wm7_67 dX11_cancelNow_44 ?_
    refine r_bipush C (v := 20) rfl dX11_cancelNow_47 ?_
    refine r_iload_n C (k := 1) rfl rfl dX11_cancelNow_49 ?_
    refine r_iadd C dX11_cancelNow_50 ?_
    refine r_dup2_11 C rfl rfl dX11_cancelNow_51 ?_
    obtain ⟨b6, hF⟩ := gd_e hF
    refine m_ald C (hW.ok (k12 (a := 0) (by unfold okMa; decide))) (show (sM Ω t5).2.1 = t5 from rfl) rfl b6 dX11_cancelNow_52 ?_
    refine r_iconst C (v := 1) rfl dX11_cancelNow_53 ?_
    refine r_iadd C dX11_cancelNow_54 ?_
    obtain ⟨b7, hF⟩ := gd_e hF
    obtain ⟨t8, et8, hF⟩ := lt_e hF
    refine m_ast C hW.x (hW.fr (k12 (a := 0) (by unfold okMa; decide))) (show (sM Ω t5).2.1 = t5 from rfl) rfl b7 dX11_cancelNow_55 (congrArg (sM Ω) et8) ?_
    refine r_iconst C (v := 1) rfl dX11_cancelNow_56 ?_
    cases hF
    exact r_zreturn C true rfl dX11_cancelNow_57
  · rw [if_neg (b2i_f hc)] at hF
    refine r_iconst C (v := 0) rfl dX11_cancelNow_21 ?_
    cases hF
    exact r_zreturn C false rfl dX11_cancelNow_22
theorem dX11_workNow_0 : decode cX11_workNow 0 = .ok (.aload_n 0, 1) := by decide +kernel
theorem dX11_workNow_1 : decode cX11_workNow 1 = .ok (.aload_n 0, 1) := by decide +kernel
theorem dX11_workNow_2 : decode cX11_workNow 2 = .ok (.getfield 7, 3) := by decide +kernel
theorem dX11_workNow_5 : decode cX11_workNow 5 = .ok (.iconst 1, 1) := by decide +kernel
theorem dX11_workNow_6 : decode cX11_workNow 6 = .ok (.iaload, 1) := by decide +kernel
theorem dX11_workNow_7 : decode cX11_workNow 7 = .ok (.putfield 200, 3) := by decide +kernel
theorem dX11_workNow_10 : decode cX11_workNow 10 = .ok (.aload_n 0, 1) := by decide +kernel
theorem dX11_workNow_11 : decode cX11_workNow 11 = .ok (.getfield 7, 3) := by decide +kernel
theorem dX11_workNow_14 : decode cX11_workNow 14 = .ok (.iconst 1, 1) := by decide +kernel
theorem dX11_workNow_15 : decode cX11_workNow 15 = .ok (.iload_n 1, 1) := by decide +kernel
theorem dX11_workNow_16 : decode cX11_workNow 16 = .ok (.iastore, 1) := by decide +kernel
theorem dX11_workNow_17 : decode cX11_workNow 17 = .ok (.iconst 1, 1) := by decide +kernel
theorem dX11_workNow_18 : decode cX11_workNow 18 = .ok (.ireturn, 1) := by decide +kernel
def F_X11_workNow (a1 : Int32) (t : HV) : Option (Bool × (HV)) := (if vpb 1 760 = true then (lt (sS t 8 (ag t 0 1)) fun t2 => (if vpb 1 760 = true then (lt (aw t2 0 1 a1) fun t4 => some (true, t4)) else none)) else none)
theorem c_X11_workNow {w : WP} (hW : gWM w) {Ω : OM}  {t : HV} (e : Ω.2.1 = t) (a1 : Int32) {v : Bool} {t' : HV} (hF : F_X11_workNow a1 t = some (v, t')) {Ω' : OM} (e2 : (sM Ω t') = Ω') : gM w 0 yX11_workNow cX11_workNow 2 (some .boolean) [.ref (wAd w (11, 12, 0, 0)), .int a1] (cA w Ω) (some (.int (b2i v))) (cA w Ω') := by
  refine gM_of "HedgeMessagesModel" rfl (by decide) (kR rfl) fun X C => ?_
  unfold F_X11_workNow at hF
  subst e2
  show gV w X _ _ 0 [(0, .ref (wAd w (11, 12, 0, 0))), (1, .int a1)] []
  refine r_ct (ct' := cA w (sM Ω t)) (congrArg (cA w) (sM_i e).symm) ?_
  refine r_aload_n C (k := 0) rfl rfl dX11_workNow_0 ?_
  refine r_aload_n C (k := 0) rfl rfl dX11_workNow_1 ?_
  refine og_11_0 C (hW.ok k11) wm7_67 dX11_workNow_2 ?_
  refine r_iconst C (v := 1) rfl dX11_workNow_5 ?_
  obtain ⟨b1, hF⟩ := gd_e hF
  refine m_ald C (hW.ok (k12 (a := 0) (by unfold okMa; decide))) (show (sM Ω t).2.1 = t from rfl) rfl b1 dX11_workNow_6 ?_
  obtain ⟨t2, et2, hF⟩ := lt_e hF
  refine op_11_8 C hW.x (hW.fr k11) (show (sM Ω t).2.1 = t from rfl) wm7_75 dX11_workNow_7 (congrArg (sM Ω) et2) ?_
  refine r_aload_n C (k := 0) rfl rfl dX11_workNow_10 ?_
  refine og_11_0 C (hW.ok k11) wm7_67 dX11_workNow_11 ?_
  refine r_iconst C (v := 1) rfl dX11_workNow_14 ?_
  refine r_iload_n C (k := 1) rfl rfl dX11_workNow_15 ?_
  obtain ⟨b3, hF⟩ := gd_e hF
  obtain ⟨t4, et4, hF⟩ := lt_e hF
  refine m_ast C hW.x (hW.fr (k12 (a := 0) (by unfold okMa; decide))) (show (sM Ω t2).2.1 = t2 from rfl) rfl b3 dX11_workNow_16 (congrArg (sM Ω) et4) ?_
  refine r_iconst C (v := 1) rfl dX11_workNow_17 ?_
  cases hF
  exact r_zreturn C true rfl dX11_workNow_18
theorem dX11_delivered_0 : decode cX11_delivered 0 = .ok (.aload_n 0, 1) := by decide +kernel
theorem dX11_delivered_1 : decode cX11_delivered 1 = .ok (.getfield 7, 3) := by decide +kernel
theorem dX11_delivered_4 : decode cX11_delivered 4 = .ok (.bipush 16, 2) := by decide +kernel
theorem dX11_delivered_6 : decode cX11_delivered 6 = .ok (.iaload, 1) := by decide +kernel
theorem dX11_delivered_7 : decode cX11_delivered 7 = .ok (.aload_n 0, 1) := by decide +kernel
theorem dX11_delivered_8 : decode cX11_delivered 8 = .ok (.getfield 7, 3) := by decide +kernel
theorem dX11_delivered_11 : decode cX11_delivered 11 = .ok (.bipush 17, 2) := by decide +kernel
theorem dX11_delivered_13 : decode cX11_delivered 13 = .ok (.iaload, 1) := by decide +kernel
theorem dX11_delivered_14 : decode cX11_delivered 14 = .ok (.iadd, 1) := by decide +kernel
theorem dX11_delivered_15 : decode cX11_delivered 15 = .ok (.ireturn, 1) := by decide +kernel
def F_X11_delivered (t : HV) : Option (Int32) := (if vpb 16 760 = true then (if vpb 17 760 = true then some ((ag t 0 16) + (ag t 0 17)) else none) else none)
theorem c_X11_delivered {w : WP} (hW : gWM w) {Ω : OM}  {t : HV} (e : Ω.2.1 = t)  {v : Int32} (hF : F_X11_delivered t = some v) : gM w 0 yX11_delivered cX11_delivered 1 (some .int) [.ref (wAd w (11, 12, 0, 0))] (cA w Ω) (some (.int v)) (cA w Ω) := by
  refine gM_of "HedgeMessagesModel" rfl (by decide) (kR rfl) fun X C => ?_
  unfold F_X11_delivered at hF
  show gV w X _ _ 0 [(0, .ref (wAd w (11, 12, 0, 0)))] []
  refine r_aload_n C (k := 0) rfl rfl dX11_delivered_0 ?_
  refine og_11_0 C (hW.ok k11) wm7_67 dX11_delivered_1 ?_
  refine r_bipush C (v := 16) rfl dX11_delivered_4 ?_
  obtain ⟨b1, hF⟩ := gd_e hF
  refine m_ald C (hW.ok (k12 (a := 0) (by unfold okMa; decide))) e rfl b1 dX11_delivered_6 ?_
  refine r_aload_n C (k := 0) rfl rfl dX11_delivered_7 ?_
  refine og_11_0 C (hW.ok k11) wm7_67 dX11_delivered_8 ?_
  refine r_bipush C (v := 17) rfl dX11_delivered_11 ?_
  obtain ⟨b2, hF⟩ := gd_e hF
  refine m_ald C (hW.ok (k12 (a := 0) (by unfold okMa; decide))) e rfl b2 dX11_delivered_13 ?_
  refine r_iadd C dX11_delivered_14 ?_
  cases hF
  exact r_ireturn C dX11_delivered_15
theorem dX11_endNow_0 : decode cX11_endNow 0 = .ok (.aload_n 0, 1) := by decide +kernel
theorem dX11_endNow_1 : decode cX11_endNow 1 = .ok (.invokevirtual 215, 3) := by decide +kernel
theorem dX11_endNow_4 : decode cX11_endNow 4 = .ok (.istore_n 2, 1) := by decide +kernel
theorem dX11_endNow_5 : decode cX11_endNow 5 = .ok (.aload_n 0, 1) := by decide +kernel
theorem dX11_endNow_6 : decode cX11_endNow 6 = .ok (.iload_n 1, 1) := by decide +kernel
theorem dX11_endNow_7 : decode cX11_endNow 7 = .ok (.invokevirtual 218, 3) := by decide +kernel
theorem dX11_endNow_10 : decode cX11_endNow 10 = .ok (.aload_n 0, 1) := by decide +kernel
theorem dX11_endNow_11 : decode cX11_endNow 11 = .ok (.aload_n 0, 1) := by decide +kernel
theorem dX11_endNow_12 : decode cX11_endNow 12 = .ok (.invokevirtual 215, 3) := by decide +kernel
theorem dX11_endNow_15 : decode cX11_endNow 15 = .ok (.iload_n 2, 1) := by decide +kernel
theorem dX11_endNow_16 : decode cX11_endNow 16 = .ok (.isub, 1) := by decide +kernel
theorem dX11_endNow_17 : decode cX11_endNow 17 = .ok (.putfield 200, 3) := by decide +kernel
theorem dX11_endNow_20 : decode cX11_endNow 20 = .ok (.iconst 1, 1) := by decide +kernel
theorem dX11_endNow_21 : decode cX11_endNow 21 = .ok (.ireturn, 1) := by decide +kernel
def F_X11_endNow (N : Nat) (a1 : Int32) (t : HV) : Option (Bool × (HV)) := (ob1 (F_X11_delivered t) fun v1 => (ob1 (F_X11_goBy N a1 t) fun t3 => (ob1 (F_X11_delivered t3) fun v4 => (lt (sS t3 8 (v4 - v1)) fun t5 => some (true, t5)))))
theorem c_X11_endNow {w : WP} (hW : gWM w) {Ω : OM}  {t : HV} (e : Ω.2.1 = t) (N : Nat) (a1 : Int32) {v : Bool} {t' : HV} (hF : F_X11_endNow N a1 t = some (v, t')) {Ω' : OM} (e2 : (sM Ω t') = Ω') : gM w 11 yX11_endNow cX11_endNow 3 (some .boolean) [.ref (wAd w (11, 12, 0, 0)), .int a1] (cA w Ω) (some (.int (b2i v))) (cA w Ω') := by
  refine gM_of "HedgeMessagesModel" rfl (by decide) (kR rfl) fun X C => ?_
  unfold F_X11_endNow at hF
  subst e2
  show gV w X _ _ 0 [(0, .ref (wAd w (11, 12, 0, 0))), (1, .int a1)] []
  refine r_ct (ct' := cA w (sM Ω t)) (congrArg (cA w) (sM_i e).symm) ?_
  refine r_aload_n C (k := 0) rfl rfl dX11_endNow_0 ?_
  obtain ⟨v1, hv1, hF⟩ := ob1_e hF
  refine r_callV C (d' := 0) [] (c_X11_delivered hW (show (sM Ω t).2.1 = t from rfl) hv1) myX11_delivered wm8_49 ⟨_, _, _, _, (hW.ok k11), rfl, rfl, rfl, rfl⟩ rfl (kR rfl) (by decide) (kR rfl) rfl dX11_endNow_1 ?_
  refine r_istore_n C (lo' := [(2, .int v1), (0, .ref (wAd w (11, 12, 0, 0))), (1, .int a1)]) rfl (by decide) rfl dX11_endNow_4 ?_
  refine r_aload_n C (k := 1) rfl rfl dX11_endNow_5 ?_
  refine r_iload_n C (k := 2) rfl rfl dX11_endNow_6 ?_
  obtain ⟨t3, ht3, hF⟩ := ob1_e hF
  refine r_callV C (d' := 10) [.int a1] (c_X11_goBy hW (show (sM Ω t).2.1 = t from rfl) N a1 ht3 rfl) myX11_goBy wm8_53 ⟨_, _, _, _, (hW.ok k11), rfl, rfl, rfl, rfl⟩ rfl (kR rfl) (by decide) (kR rfl) rfl dX11_endNow_7 ?_
  refine r_aload_n C (k := 1) rfl rfl dX11_endNow_10 ?_
  refine r_aload_n C (k := 1) rfl rfl dX11_endNow_11 ?_
  obtain ⟨v4, hv4, hF⟩ := ob1_e hF
  refine r_callV C (d' := 0) [] (c_X11_delivered hW (show (sM Ω t3).2.1 = t3 from rfl) hv4) myX11_delivered wm8_49 ⟨_, _, _, _, (hW.ok k11), rfl, rfl, rfl, rfl⟩ rfl (kR rfl) (by decide) (kR rfl) rfl dX11_endNow_12 ?_
  refine r_iload_n C (k := 0) rfl rfl dX11_endNow_15 ?_
  refine r_isub C dX11_endNow_16 ?_
  obtain ⟨t5, et5, hF⟩ := lt_e hF
  refine op_11_8 C hW.x (hW.fr k11) (show (sM Ω t3).2.1 = t3 from rfl) wm7_75 dX11_endNow_17 (congrArg (sM Ω) et5) ?_
  refine r_iconst C (v := 1) rfl dX11_endNow_20 ?_
  cases hF
  exact r_zreturn C true rfl dX11_endNow_21
theorem dX11_four_0 : decode cX11_four 0 = .ok (.bipush 24, 2) := by decide +kernel
theorem dX11_four_2 : decode cX11_four 2 = .ok (.istore_n 2, 1) := by decide +kernel
theorem dX11_four_3 : decode cX11_four 3 = .ok (.iload_n 2, 1) := by decide +kernel
theorem dX11_four_4 : decode cX11_four 4 = .ok (.ifCond .lt 35, 3) := by decide +kernel
theorem dX11_four_7 : decode cX11_four 7 = .ok (.aload_n 0, 1) := by decide +kernel
theorem dX11_four_8 : decode cX11_four 8 = .ok (.getfield 28, 3) := by decide +kernel
theorem dX11_four_11 : decode cX11_four 11 = .ok (.aload_n 0, 1) := by decide +kernel
theorem dX11_four_12 : decode cX11_four 12 = .ok (.getfield 53, 3) := by decide +kernel
theorem dX11_four_15 : decode cX11_four 15 = .ok (.iload_n 1, 1) := by decide +kernel
theorem dX11_four_16 : decode cX11_four 16 = .ok (.iload_n 2, 1) := by decide +kernel
theorem dX11_four_17 : decode cX11_four 17 = .ok (.ishr, 1) := by decide +kernel
theorem dX11_four_18 : decode cX11_four 18 = .ok (.sipush 255, 3) := by decide +kernel
theorem dX11_four_21 : decode cX11_four 21 = .ok (.iand, 1) := by decide +kernel
theorem dX11_four_22 : decode cX11_four 22 = .ok (.iastore, 1) := by decide +kernel
theorem dX11_four_23 : decode cX11_four 23 = .ok (.aload_n 0, 1) := by decide +kernel
theorem dX11_four_24 : decode cX11_four 24 = .ok (.dup, 1) := by decide +kernel
theorem dX11_four_25 : decode cX11_four 25 = .ok (.getfield 53, 3) := by decide +kernel
theorem dX11_four_28 : decode cX11_four 28 = .ok (.iconst 1, 1) := by decide +kernel
theorem dX11_four_29 : decode cX11_four 29 = .ok (.iadd, 1) := by decide +kernel
theorem dX11_four_30 : decode cX11_four 30 = .ok (.putfield 53, 3) := by decide +kernel
theorem dX11_four_33 : decode cX11_four 33 = .ok (.iinc 2 (-8), 3) := by decide +kernel
theorem dX11_four_36 : decode cX11_four 36 = .ok (.goto (-33), 3) := by decide +kernel
theorem dX11_four_39 : decode cX11_four 39 = .ok (.return_, 1) := by decide +kernel
def st_X11_four_3 (N : Nat) (l1 : Int32) (l2 : Int32) (t : HV) : Option ((Int32 × HV) ⊕ (HV)) := (if l2 < 0 then some (.inr t) else (if vpb (t.1 11) 800 = true then (lt (aw t 10 (t.1 11) ((l1 >>> (l2 &&& 31)) &&& 255)) fun t2 => (lt (sS t2 11 ((t2.1 11) + 1)) fun t3 => some (.inl ((l2 + (-8)), t3)))) else none))
def F_X11_four (N : Nat) (a1 : Int32) (t : HV) : Option (HV) := (lpN N (fun z => st_X11_four_3 N a1 z.1 z.2) (24, t))
theorem lp_X11_four_3 {w : WP} (hW : gWM w) {Ω : OM}   (l1 : Int32) {N : Nat} {X : CX} (C : gC w X cX11_four "HedgeMessagesModel" none 0 3) {t' : HV}  : ∀ (n : Nat) (l2 : Int32) (t : HV), lpN n (fun z : Int32 × HV => st_X11_four_3 N l1 z.1 z.2) (l2, t) = some t' → gV w X (none, cA w (sM Ω t')) (cA w (sM Ω t)) 3 [(0, .ref (wAd w (11, 12, 0, 0))), (1, .int l1), (2, .int l2)] [] := by
  intro n
  induction n with
  | zero => intro l2 t hL; exact lpN_0 hL
  | succ n ih =>
    intro l2 t hL
    obtain ⟨q9, hF, hL⟩ := lpN_e hL
    change st_X11_four_3 N l1 l2 t = some q9 at hF
    unfold st_X11_four_3 at hF
    refine r_iload_n C (k := 2) rfl rfl dX11_four_3 ?_
    refine r_if_lt C (tgt := 39) rfl dX11_four_4 (fun hc => ?_) (fun hc => ?_)
    · rw [if_pos hc] at hF
      cases hF
      change some _ = some _ at hL
      cases hL
      exact r_return C dX11_four_39
    · rw [if_neg hc] at hF
      refine r_aload_n C (k := 0) rfl rfl dX11_four_7 ?_
      refine og_11_10 C (hW.ok k11) wm7_77 dX11_four_8 ?_
      refine r_aload_n C (k := 0) rfl rfl dX11_four_11 ?_
      refine og_11_11 C (hW.ok k11) (show (sM Ω t).2.1 = t from rfl) wm7_78 dX11_four_12 ?_
      refine r_iload_n C (k := 1) rfl rfl dX11_four_15 ?_
      refine r_iload_n C (k := 2) rfl rfl dX11_four_16 ?_
      refine r_ishr C dX11_four_17 ?_
      refine r_sipush C (v := 255) rfl dX11_four_18 ?_
      refine r_iand C dX11_four_21 ?_
      obtain ⟨b1, hF⟩ := gd_e hF
      obtain ⟨t2, et2, hF⟩ := lt_e hF
      refine m_ast C hW.x (hW.fr (k12 (a := 10) (by unfold okMa; decide))) (show (sM Ω t).2.1 = t from rfl) rfl b1 dX11_four_22 (congrArg (sM Ω) et2) ?_
      refine r_aload_n C (k := 0) rfl rfl dX11_four_23 ?_
      refine r_dup C rfl dX11_four_24 ?_
      refine og_11_11 C (hW.ok k11) (show (sM Ω t2).2.1 = t2 from rfl) wm7_78 dX11_four_25 ?_
      refine r_iconst C (v := 1) rfl dX11_four_28 ?_
      refine r_iadd C dX11_four_29 ?_
      obtain ⟨t3, et3, hF⟩ := lt_e hF
      refine op_11_11 C hW.x (hW.fr k11) (show (sM Ω t2).2.1 = t2 from rfl) wm7_78 dX11_four_30 (congrArg (sM Ω) et3) ?_
      refine r_iinc C (k := 2) (v := (l2 + (-8))) (lo' := [(2, .int (l2 + (-8))), (0, .ref (wAd w (11, 12, 0, 0))), (1, .int l1)]) rfl (congrArg (l2 + ·) (by decide)) (by decide) rfl dX11_four_33 ?_
      refine r_goto C (tgt := 3) rfl dX11_four_36 ?_
      cases hF
      change lpN n _ _ = some _ at hL
      refine r_lo [1, 2, 0] (lo' := [(0, .ref (wAd w (11, 12, 0, 0))), (1, .int l1), (2, .int (l2 + (-8)))]) rfl ?_
      exact ih (l2 + (-8)) t3 hL
theorem c_X11_four {w : WP} (hW : gWM w) {Ω : OM}  {t : HV} (e : Ω.2.1 = t) (N : Nat) (a1 : Int32) {t' : HV} (hF : F_X11_four N a1 t = some t') {Ω' : OM} (e2 : (sM Ω t') = Ω') : gM w 0 yX11_four cX11_four 3 none [.ref (wAd w (11, 12, 0, 0)), .int a1] (cA w Ω) none (cA w Ω') := by
  refine gM_of "HedgeMessagesModel" rfl (by decide) (kR rfl) fun X C => ?_
  unfold F_X11_four at hF
  subst e2
  show gV w X _ _ 0 [(0, .ref (wAd w (11, 12, 0, 0))), (1, .int a1)] []
  refine r_ct (ct' := cA w (sM Ω t)) (congrArg (cA w) (sM_i e).symm) ?_
  refine r_bipush C (v := 24) rfl dX11_four_0 ?_
  refine r_istore_n C (lo' := [(2, .int 24), (0, .ref (wAd w (11, 12, 0, 0))), (1, .int a1)]) rfl (by decide) rfl dX11_four_2 ?_
  refine r_lo [1, 2, 0] (lo' := [(0, .ref (wAd w (11, 12, 0, 0))), (1, .int a1), (2, .int 24)]) rfl ?_
  exact lp_X11_four_3 hW a1 C N 24 t hF
theorem dX11_append_0 : decode cX11_append 0 = .ok (.aload_n 0, 1) := by decide +kernel
theorem dX11_append_1 : decode cX11_append 1 = .ok (.aload_n 0, 1) := by decide +kernel
theorem dX11_append_2 : decode cX11_append 2 = .ok (.getfield 53, 3) := by decide +kernel
theorem dX11_append_5 : decode cX11_append 5 = .ok (.bipush 20, 2) := by decide +kernel
theorem dX11_append_7 : decode cX11_append 7 = .ok (.iadd, 1) := by decide +kernel
theorem dX11_append_8 : decode cX11_append 8 = .ok (.sipush 800, 3) := by decide +kernel
theorem dX11_append_11 : decode cX11_append 11 = .ok (.if_icmp .gt 7, 3) := by decide +kernel
theorem dX11_append_14 : decode cX11_append 14 = .ok (.iconst 1, 1) := by decide +kernel
theorem dX11_append_15 : decode cX11_append 15 = .ok (.goto 4, 3) := by decide +kernel
theorem dX11_append_18 : decode cX11_append 18 = .ok (.iconst 0, 1) := by decide +kernel
theorem dX11_append_19 : decode cX11_append 19 = .ok (.invokevirtual 221, 3) := by decide +kernel
theorem dX11_append_22 : decode cX11_append 22 = .ok (.ifCond .ne 5, 3) := by decide +kernel
theorem dX11_append_25 : decode cX11_append 25 = .ok (.iconst 0, 1) := by decide +kernel
theorem dX11_append_26 : decode cX11_append 26 = .ok (.ireturn, 1) := by decide +kernel
theorem dX11_append_27 : decode cX11_append 27 = .ok (.aload_n 0, 1) := by decide +kernel
theorem dX11_append_28 : decode cX11_append 28 = .ok (.iload_n 1, 1) := by decide +kernel
theorem dX11_append_29 : decode cX11_append 29 = .ok (.invokevirtual 225, 3) := by decide +kernel
theorem dX11_append_32 : decode cX11_append 32 = .ok (.aload_n 0, 1) := by decide +kernel
theorem dX11_append_33 : decode cX11_append 33 = .ok (.iload_n 2, 1) := by decide +kernel
theorem dX11_append_34 : decode cX11_append 34 = .ok (.invokevirtual 225, 3) := by decide +kernel
theorem dX11_append_37 : decode cX11_append 37 = .ok (.aload_n 0, 1) := by decide +kernel
theorem dX11_append_38 : decode cX11_append 38 = .ok (.iload_n 3, 1) := by decide +kernel
theorem dX11_append_39 : decode cX11_append 39 = .ok (.invokevirtual 225, 3) := by decide +kernel
theorem dX11_append_42 : decode cX11_append 42 = .ok (.aload_n 0, 1) := by decide +kernel
theorem dX11_append_43 : decode cX11_append 43 = .ok (.iload 4, 2) := by decide +kernel
theorem dX11_append_45 : decode cX11_append 45 = .ok (.invokevirtual 225, 3) := by decide +kernel
theorem dX11_append_48 : decode cX11_append 48 = .ok (.aload_n 0, 1) := by decide +kernel
theorem dX11_append_49 : decode cX11_append 49 = .ok (.iload 5, 2) := by decide +kernel
theorem dX11_append_51 : decode cX11_append 51 = .ok (.invokevirtual 225, 3) := by decide +kernel
theorem dX11_append_54 : decode cX11_append 54 = .ok (.aload_n 0, 1) := by decide +kernel
theorem dX11_append_55 : decode cX11_append 55 = .ok (.getfield 53, 3) := by decide +kernel
theorem dX11_append_58 : decode cX11_append 58 = .ok (.ireturn, 1) := by decide +kernel
def F_X11_append (N : Nat) (a1 : Int32) (a2 : Int32) (a3 : Int32) (a4 : Int32) (a5 : Int32) (t : HV) : Option (Int32 × (HV)) := (if 800 < ((t.1 11) + 20) then (lt2 (F_X11_passes false t) fun v1 t2 => (if v1 = true then (ob1 (F_X11_four N a1 t2) fun t4 => (ob1 (F_X11_four N a2 t4) fun t6 => (ob1 (F_X11_four N a3 t6) fun t8 => (ob1 (F_X11_four N a4 t8) fun t10 => (ob1 (F_X11_four N a5 t10) fun t12 => some ((t12.1 11), t12)))))) else some (0, t2))) else (lt2 (F_X11_passes true t) fun v13 t14 => (if v13 = true then (ob1 (F_X11_four N a1 t14) fun t16 => (ob1 (F_X11_four N a2 t16) fun t18 => (ob1 (F_X11_four N a3 t18) fun t20 => (ob1 (F_X11_four N a4 t20) fun t22 => (ob1 (F_X11_four N a5 t22) fun t24 => some ((t24.1 11), t24)))))) else some (0, t14))))
theorem c_X11_append {w : WP} (hW : gWM w) {Ω : OM}  {t : HV} (e : Ω.2.1 = t) (N : Nat) (a1 : Int32) (a2 : Int32) (a3 : Int32) (a4 : Int32) (a5 : Int32) {v : Int32} {t' : HV} (hF : F_X11_append N a1 a2 a3 a4 a5 t = some (v, t')) {Ω' : OM} (e2 : (sM Ω t') = Ω') : gM w 1 yX11_append cX11_append 6 (some .int) [.ref (wAd w (11, 12, 0, 0)), .int a1, .int a2, .int a3, .int a4, .int a5] (cA w Ω) (some (.int v)) (cA w Ω') := by
  refine gM_of "HedgeMessagesModel" rfl (by decide) (kR rfl) fun X C => ?_
  unfold F_X11_append at hF
  subst e2
  show gV w X _ _ 0 [(0, .ref (wAd w (11, 12, 0, 0))), (1, .int a1), (2, .int a2), (3, .int a3), (4, .int a4), (5, .int a5)] []
  refine r_ct (ct' := cA w (sM Ω t)) (congrArg (cA w) (sM_i e).symm) ?_
  refine r_aload_n C (k := 0) rfl rfl dX11_append_0 ?_
  refine r_aload_n C (k := 0) rfl rfl dX11_append_1 ?_
  refine og_11_11 C (hW.ok k11) (show (sM Ω t).2.1 = t from rfl) wm7_78 dX11_append_2 ?_
  refine r_bipush C (v := 20) rfl dX11_append_5 ?_
  refine r_iadd C dX11_append_7 ?_
  refine r_sipush C (v := 800) rfl dX11_append_8 ?_
  refine r_icmp_gt C (tgt := 18) rfl dX11_append_11 (fun hc => ?_) (fun hc => ?_)
  · rw [if_pos hc] at hF
    refine r_iconst C (v := 0) rfl dX11_append_18 ?_
    obtain ⟨v1, t2, ht2, hF⟩ := lt2_e hF
    refine r_callV C (d' := 0) [.int (b2i false)] (c_X11_passes hW (show (sM Ω t).2.1 = t from rfl) false ht2 rfl) myX11_passes wm7_63 ⟨_, _, _, _, (hW.ok k11), rfl, rfl, rfl, rfl⟩ rfl (kR rfl) (by decide) (kR rfl) rfl dX11_append_19 ?_
    refine r_if_ne C (tgt := 27) rfl dX11_append_22 (fun hc => ?_) (fun hc => ?_)
    · rw [if_pos (b2i_t hc)] at hF
      refine r_aload_n C (k := 0) rfl rfl dX11_append_27 ?_
      refine r_iload_n C (k := 1) rfl rfl dX11_append_28 ?_
      obtain ⟨t4, ht4, hF⟩ := ob1_e hF
      refine r_callV C (d' := 0) [.int a1] (c_X11_four hW (show (sM Ω t2).2.1 = t2 from rfl) N a1 ht4 rfl) myX11_four wm7_145 ⟨_, _, _, _, (hW.ok k11), rfl, rfl, rfl, rfl⟩ rfl (kR rfl) (by decide) (kR rfl) rfl dX11_append_29 ?_
      refine r_aload_n C (k := 0) rfl rfl dX11_append_32 ?_
      refine r_iload_n C (k := 2) rfl rfl dX11_append_33 ?_
      obtain ⟨t6, ht6, hF⟩ := ob1_e hF
      refine r_callV C (d' := 0) [.int a2] (c_X11_four hW (show (sM Ω t4).2.1 = t4 from rfl) N a2 ht6 rfl) myX11_four wm7_145 ⟨_, _, _, _, (hW.ok k11), rfl, rfl, rfl, rfl⟩ rfl (kR rfl) (by decide) (kR rfl) rfl dX11_append_34 ?_
      refine r_aload_n C (k := 0) rfl rfl dX11_append_37 ?_
      refine r_iload_n C (k := 3) rfl rfl dX11_append_38 ?_
      obtain ⟨t8, ht8, hF⟩ := ob1_e hF
      refine r_callV C (d' := 0) [.int a3] (c_X11_four hW (show (sM Ω t6).2.1 = t6 from rfl) N a3 ht8 rfl) myX11_four wm7_145 ⟨_, _, _, _, (hW.ok k11), rfl, rfl, rfl, rfl⟩ rfl (kR rfl) (by decide) (kR rfl) rfl dX11_append_39 ?_
      refine r_aload_n C (k := 0) rfl rfl dX11_append_42 ?_
      refine r_iload C (k := 4) rfl dX11_append_43 ?_
      obtain ⟨t10, ht10, hF⟩ := ob1_e hF
      refine r_callV C (d' := 0) [.int a4] (c_X11_four hW (show (sM Ω t8).2.1 = t8 from rfl) N a4 ht10 rfl) myX11_four wm7_145 ⟨_, _, _, _, (hW.ok k11), rfl, rfl, rfl, rfl⟩ rfl (kR rfl) (by decide) (kR rfl) rfl dX11_append_45 ?_
      refine r_aload_n C (k := 0) rfl rfl dX11_append_48 ?_
      refine r_iload C (k := 5) rfl dX11_append_49 ?_
      obtain ⟨t12, ht12, hF⟩ := ob1_e hF
      refine r_callV C (d' := 0) [.int a5] (c_X11_four hW (show (sM Ω t10).2.1 = t10 from rfl) N a5 ht12 rfl) myX11_four wm7_145 ⟨_, _, _, _, (hW.ok k11), rfl, rfl, rfl, rfl⟩ rfl (kR rfl) (by decide) (kR rfl) rfl dX11_append_51 ?_
      refine r_aload_n C (k := 0) rfl rfl dX11_append_54 ?_
      refine og_11_11 C (hW.ok k11) (show (sM Ω t12).2.1 = t12 from rfl) wm7_78 dX11_append_55 ?_
      cases hF
      exact r_ireturn C dX11_append_58
    · rw [if_neg (b2i_f hc)] at hF
      refine r_iconst C (v := 0) rfl dX11_append_25 ?_
      cases hF
      exact r_ireturn C dX11_append_26
  · rw [if_neg hc] at hF
    refine r_iconst C (v := 1) rfl dX11_append_14 ?_
    refine r_goto C (tgt := 19) rfl dX11_append_15 ?_
    obtain ⟨v13, t14, ht14, hF⟩ := lt2_e hF
    refine r_callV C (d' := 0) [.int (b2i true)] (c_X11_passes hW (show (sM Ω t).2.1 = t from rfl) true ht14 rfl) myX11_passes wm7_63 ⟨_, _, _, _, (hW.ok k11), rfl, rfl, rfl, rfl⟩ rfl (kR rfl) (by decide) (kR rfl) rfl dX11_append_19 ?_
    refine r_if_ne C (tgt := 27) rfl dX11_append_22 (fun hc => ?_) (fun hc => ?_)
    · rw [if_pos (b2i_t hc)] at hF
      refine r_aload_n C (k := 0) rfl rfl dX11_append_27 ?_
      refine r_iload_n C (k := 1) rfl rfl dX11_append_28 ?_
      obtain ⟨t16, ht16, hF⟩ := ob1_e hF
      refine r_callV C (d' := 0) [.int a1] (c_X11_four hW (show (sM Ω t14).2.1 = t14 from rfl) N a1 ht16 rfl) myX11_four wm7_145 ⟨_, _, _, _, (hW.ok k11), rfl, rfl, rfl, rfl⟩ rfl (kR rfl) (by decide) (kR rfl) rfl dX11_append_29 ?_
      refine r_aload_n C (k := 0) rfl rfl dX11_append_32 ?_
      refine r_iload_n C (k := 2) rfl rfl dX11_append_33 ?_
      obtain ⟨t18, ht18, hF⟩ := ob1_e hF
      refine r_callV C (d' := 0) [.int a2] (c_X11_four hW (show (sM Ω t16).2.1 = t16 from rfl) N a2 ht18 rfl) myX11_four wm7_145 ⟨_, _, _, _, (hW.ok k11), rfl, rfl, rfl, rfl⟩ rfl (kR rfl) (by decide) (kR rfl) rfl dX11_append_34 ?_
      refine r_aload_n C (k := 0) rfl rfl dX11_append_37 ?_
      refine r_iload_n C (k := 3) rfl rfl dX11_append_38 ?_
      obtain ⟨t20, ht20, hF⟩ := ob1_e hF
      refine r_callV C (d' := 0) [.int a3] (c_X11_four hW (show (sM Ω t18).2.1 = t18 from rfl) N a3 ht20 rfl) myX11_four wm7_145 ⟨_, _, _, _, (hW.ok k11), rfl, rfl, rfl, rfl⟩ rfl (kR rfl) (by decide) (kR rfl) rfl dX11_append_39 ?_
      refine r_aload_n C (k := 0) rfl rfl dX11_append_42 ?_
      refine r_iload C (k := 4) rfl dX11_append_43 ?_
      obtain ⟨t22, ht22, hF⟩ := ob1_e hF
      refine r_callV C (d' := 0) [.int a4] (c_X11_four hW (show (sM Ω t20).2.1 = t20 from rfl) N a4 ht22 rfl) myX11_four wm7_145 ⟨_, _, _, _, (hW.ok k11), rfl, rfl, rfl, rfl⟩ rfl (kR rfl) (by decide) (kR rfl) rfl dX11_append_45 ?_
      refine r_aload_n C (k := 0) rfl rfl dX11_append_48 ?_
      refine r_iload C (k := 5) rfl dX11_append_49 ?_
      obtain ⟨t24, ht24, hF⟩ := ob1_e hF
      refine r_callV C (d' := 0) [.int a5] (c_X11_four hW (show (sM Ω t22).2.1 = t22 from rfl) N a5 ht24 rfl) myX11_four wm7_145 ⟨_, _, _, _, (hW.ok k11), rfl, rfl, rfl, rfl⟩ rfl (kR rfl) (by decide) (kR rfl) rfl dX11_append_51 ?_
      refine r_aload_n C (k := 0) rfl rfl dX11_append_54 ?_
      refine og_11_11 C (hW.ok k11) (show (sM Ω t24).2.1 = t24 from rfl) wm7_78 dX11_append_55 ?_
      cases hF
      exact r_ireturn C dX11_append_58
    · rw [if_neg (b2i_f hc)] at hF
      refine r_iconst C (v := 0) rfl dX11_append_25 ?_
      cases hF
      exact r_ireturn C dX11_append_26
theorem dX11_truncate_0 : decode cX11_truncate 0 = .ok (.aload_n 0, 1) := by decide +kernel
theorem dX11_truncate_1 : decode cX11_truncate 1 = .ok (.iload_n 1, 1) := by decide +kernel
theorem dX11_truncate_2 : decode cX11_truncate 2 = .ok (.i2l, 1) := by decide +kernel
theorem dX11_truncate_3 : decode cX11_truncate 3 = .ok (.lconst 0, 1) := by decide +kernel
theorem dX11_truncate_4 : decode cX11_truncate 4 = .ok (.aload_n 0, 1) := by decide +kernel
theorem dX11_truncate_5 : decode cX11_truncate 5 = .ok (.getfield 53, 3) := by decide +kernel
theorem dX11_truncate_8 : decode cX11_truncate 8 = .ok (.i2l, 1) := by decide +kernel
theorem dX11_truncate_9 : decode cX11_truncate 9 = .ok (.invokestatic 65, 3) := by decide +kernel
theorem dX11_truncate_12 : decode cX11_truncate 12 = .ok (.invokevirtual 221, 3) := by decide +kernel
theorem dX11_truncate_15 : decode cX11_truncate 15 = .ok (.ifCond .ne 5, 3) := by decide +kernel
theorem dX11_truncate_18 : decode cX11_truncate 18 = .ok (.iconst 0, 1) := by decide +kernel
theorem dX11_truncate_19 : decode cX11_truncate 19 = .ok (.ireturn, 1) := by decide +kernel
theorem dX11_truncate_20 : decode cX11_truncate 20 = .ok (.aload_n 0, 1) := by decide +kernel
theorem dX11_truncate_21 : decode cX11_truncate 21 = .ok (.iload_n 1, 1) := by decide +kernel
theorem dX11_truncate_22 : decode cX11_truncate 22 = .ok (.putfield 53, 3) := by decide +kernel
theorem dX11_truncate_25 : decode cX11_truncate 25 = .ok (.iload_n 1, 1) := by decide +kernel
theorem dX11_truncate_26 : decode cX11_truncate 26 = .ok (.ireturn, 1) := by decide +kernel
def F_X11_truncate (a1 : Int32) (t : HV) : Int32 × (HV) := (lt2 (F_X11_passes (F_X11_in ((a1 : Int32).toInt64) (0 : Int64) (((t.1 11) : Int32).toInt64)) t) fun v1 t2 => (if v1 = true then (lt (sS t2 11 a1) fun t3 => (a1, t3)) else (0, t2)))
theorem c_X11_truncate {w : WP} (hW : gWM w) {Ω : OM}  {t : HV} (e : Ω.2.1 = t) (a1 : Int32) {v : Int32} {t' : HV} (hF : F_X11_truncate a1 t = (v, t')) {Ω' : OM} (e2 : (sM Ω t') = Ω') : gM w 1 yX11_truncate cX11_truncate 2 (some .int) [.ref (wAd w (11, 12, 0, 0)), .int a1] (cA w Ω) (some (.int v)) (cA w Ω') := by
  refine gM_of "HedgeMessagesModel" rfl (by decide) (kR rfl) fun X C => ?_
  unfold F_X11_truncate at hF
  subst e2
  show gV w X _ _ 0 [(0, .ref (wAd w (11, 12, 0, 0))), (1, .int a1)] []
  refine r_ct (ct' := cA w (sM Ω t)) (congrArg (cA w) (sM_i e).symm) ?_
  refine r_aload_n C (k := 0) rfl rfl dX11_truncate_0 ?_
  refine r_iload_n C (k := 1) rfl rfl dX11_truncate_1 ?_
  refine r_i2l C (v := ((a1 : Int32).toInt64)) rfl dX11_truncate_2 ?_
  refine r_lconst C (v := 0) rfl dX11_truncate_3 ?_
  refine r_aload_n C (k := 0) rfl rfl dX11_truncate_4 ?_
  refine og_11_11 C (hW.ok k11) (show (sM Ω t).2.1 = t from rfl) wm7_78 dX11_truncate_5 ?_
  refine r_i2l C (v := (((t.1 11) : Int32).toInt64)) rfl dX11_truncate_8 ?_
  refine r_callS C (d' := 0) [.long ((a1 : Int32).toInt64), .long (0 : Int64), .long (((t.1 11) : Int32).toInt64)] (c_X11_in ((a1 : Int32).toInt64) (0 : Int64) (((t.1 11) : Int32).toInt64) rfl) myX11_in wm6_208 rfl (kR rfl) (by decide) (kR rfl) rfl dX11_truncate_9 ?_
  obtain ⟨v1, t2, ht2, hF⟩ := lt2_e hF
  refine r_callV C (d' := 0) [.int (b2i (F_X11_in ((a1 : Int32).toInt64) (0 : Int64) (((t.1 11) : Int32).toInt64)))] (c_X11_passes hW (show (sM Ω t).2.1 = t from rfl) (F_X11_in ((a1 : Int32).toInt64) (0 : Int64) (((t.1 11) : Int32).toInt64)) ht2 rfl) myX11_passes wm7_63 ⟨_, _, _, _, (hW.ok k11), rfl, rfl, rfl, rfl⟩ rfl (kR rfl) (by decide) (kR rfl) rfl dX11_truncate_12 ?_
  refine r_if_ne C (tgt := 20) rfl dX11_truncate_15 (fun hc => ?_) (fun hc => ?_)
  · rw [if_pos (b2i_t hc)] at hF
    refine r_aload_n C (k := 0) rfl rfl dX11_truncate_20 ?_
    refine r_iload_n C (k := 1) rfl rfl dX11_truncate_21 ?_
    obtain ⟨t3, et3, hF⟩ := lt_e hF
    refine op_11_11 C hW.x (hW.fr k11) (show (sM Ω t2).2.1 = t2 from rfl) wm7_78 dX11_truncate_22 (congrArg (sM Ω) et3) ?_
    refine r_iload_n C (k := 1) rfl rfl dX11_truncate_25 ?_
    cases hF
    exact r_ireturn C dX11_truncate_26
  · rw [if_neg (b2i_f hc)] at hF
    refine r_iconst C (v := 0) rfl dX11_truncate_18 ?_
    cases hF
    exact r_ireturn C dX11_truncate_19
theorem dX11_byteAt_0 : decode cX11_byteAt 0 = .ok (.iload_n 1, 1) := by decide +kernel
theorem dX11_byteAt_1 : decode cX11_byteAt 1 = .ok (.aload_n 0, 1) := by decide +kernel
theorem dX11_byteAt_2 : decode cX11_byteAt 2 = .ok (.getfield 53, 3) := by decide +kernel
theorem dX11_byteAt_5 : decode cX11_byteAt 5 = .ok (.if_icmp .ge 12, 3) := by decide +kernel
theorem dX11_byteAt_8 : decode cX11_byteAt 8 = .ok (.aload_n 0, 1) := by decide +kernel
theorem dX11_byteAt_9 : decode cX11_byteAt 9 = .ok (.getfield 28, 3) := by decide +kernel
theorem dX11_byteAt_12 : decode cX11_byteAt 12 = .ok (.iload_n 1, 1) := by decide +kernel
theorem dX11_byteAt_13 : decode cX11_byteAt 13 = .ok (.iaload, 1) := by decide +kernel
theorem dX11_byteAt_14 : decode cX11_byteAt 14 = .ok (.goto 4, 3) := by decide +kernel
theorem dX11_byteAt_17 : decode cX11_byteAt 17 = .ok (.iconst (-1), 1) := by decide +kernel
theorem dX11_byteAt_18 : decode cX11_byteAt 18 = .ok (.ireturn, 1) := by decide +kernel
def F_X11_byteAt (a1 : Int32) (t : HV) : Option (Int32) := (if (t.1 11) ≤ a1 then some (-1) else (if vpb a1 800 = true then some (ag t 10 a1) else none))
theorem c_X11_byteAt {w : WP} (hW : gWM w) {Ω : OM}  {t : HV} (e : Ω.2.1 = t) (a1 : Int32) {v : Int32} (hF : F_X11_byteAt a1 t = some v) : gM w 0 yX11_byteAt cX11_byteAt 2 (some .int) [.ref (wAd w (11, 12, 0, 0)), .int a1] (cA w Ω) (some (.int v)) (cA w Ω) := by
  refine gM_of "HedgeMessagesModel" rfl (by decide) (kR rfl) fun X C => ?_
  unfold F_X11_byteAt at hF
  show gV w X _ _ 0 [(0, .ref (wAd w (11, 12, 0, 0))), (1, .int a1)] []
  refine r_iload_n C (k := 1) rfl rfl dX11_byteAt_0 ?_
  refine r_aload_n C (k := 0) rfl rfl dX11_byteAt_1 ?_
  refine og_11_11 C (hW.ok k11) e wm7_78 dX11_byteAt_2 ?_
  refine r_icmp_ge C (tgt := 17) rfl dX11_byteAt_5 (fun hc => ?_) (fun hc => ?_)
  · rw [if_pos hc] at hF
    refine r_iconst C (v := (-1)) (by decide) dX11_byteAt_17 ?_
    cases hF
    exact r_ireturn C dX11_byteAt_18
  · rw [if_neg hc] at hF
    refine r_aload_n C (k := 0) rfl rfl dX11_byteAt_8 ?_
    refine og_11_10 C (hW.ok k11) wm7_77 dX11_byteAt_9 ?_
    refine r_iload_n C (k := 1) rfl rfl dX11_byteAt_12 ?_
    obtain ⟨b1, hF⟩ := gd_e hF
    refine m_ald C (hW.ok (k12 (a := 10) (by unfold okMa; decide))) e rfl b1 dX11_byteAt_13 ?_
    refine r_goto C (tgt := 18) rfl dX11_byteAt_14 ?_
    cases hF
    exact r_ireturn C dX11_byteAt_18
theorem dX11_next_0 : decode cX11_next 0 = .ok (.aload_n 0, 1) := by decide +kernel
theorem dX11_next_1 : decode cX11_next 1 = .ok (.aload_n 0, 1) := by decide +kernel
theorem dX11_next_2 : decode cX11_next 2 = .ok (.getfield 228, 3) := by decide +kernel
theorem dX11_next_5 : decode cX11_next 5 = .ok (.invokevirtual 231, 3) := by decide +kernel
theorem dX11_next_8 : decode cX11_next 8 = .ok (.bipush 32, 2) := by decide +kernel
theorem dX11_next_10 : decode cX11_next 10 = .ok (.if_icmp .ne 16, 3) := by decide +kernel
theorem dX11_next_13 : decode cX11_next 13 = .ok (.aload_n 0, 1) := by decide +kernel
theorem dX11_next_14 : decode cX11_next 14 = .ok (.dup, 1) := by decide +kernel
theorem dX11_next_15 : decode cX11_next 15 = .ok (.getfield 228, 3) := by decide +kernel
theorem dX11_next_18 : decode cX11_next 18 = .ok (.iconst 1, 1) := by decide +kernel
theorem dX11_next_19 : decode cX11_next 19 = .ok (.iadd, 1) := by decide +kernel
theorem dX11_next_20 : decode cX11_next 20 = .ok (.putfield 228, 3) := by decide +kernel
theorem dX11_next_23 : decode cX11_next 23 = .ok (.goto (-23), 3) := by decide +kernel
theorem dX11_next_26 : decode cX11_next 26 = .ok (.aload_n 0, 1) := by decide +kernel
theorem dX11_next_27 : decode cX11_next 27 = .ok (.aload_n 0, 1) := by decide +kernel
theorem dX11_next_28 : decode cX11_next 28 = .ok (.getfield 228, 3) := by decide +kernel
theorem dX11_next_31 : decode cX11_next 31 = .ok (.putfield 234, 3) := by decide +kernel
theorem dX11_next_34 : decode cX11_next 34 = .ok (.aload_n 0, 1) := by decide +kernel
theorem dX11_next_35 : decode cX11_next 35 = .ok (.iconst 0, 1) := by decide +kernel
theorem dX11_next_36 : decode cX11_next 36 = .ok (.putfield 237, 3) := by decide +kernel
theorem dX11_next_39 : decode cX11_next 39 = .ok (.aload_n 0, 1) := by decide +kernel
theorem dX11_next_40 : decode cX11_next 40 = .ok (.aload_n 0, 1) := by decide +kernel
theorem dX11_next_41 : decode cX11_next 41 = .ok (.getfield 234, 3) := by decide +kernel
theorem dX11_next_44 : decode cX11_next 44 = .ok (.aload_n 0, 1) := by decide +kernel
theorem dX11_next_45 : decode cX11_next 45 = .ok (.getfield 237, 3) := by decide +kernel
theorem dX11_next_48 : decode cX11_next 48 = .ok (.iadd, 1) := by decide +kernel
theorem dX11_next_49 : decode cX11_next 49 = .ok (.invokevirtual 231, 3) := by decide +kernel
theorem dX11_next_52 : decode cX11_next 52 = .ok (.i2l, 1) := by decide +kernel
theorem dX11_next_53 : decode cX11_next 53 = .ok (.ldc2_w 240, 3) := by decide +kernel
theorem dX11_next_56 : decode cX11_next 56 = .ok (.ldc2_w 242, 3) := by decide +kernel
theorem dX11_next_59 : decode cX11_next 59 = .ok (.invokestatic 65, 3) := by decide +kernel
theorem dX11_next_62 : decode cX11_next 62 = .ok (.ifCond .eq 16, 3) := by decide +kernel
theorem dX11_next_65 : decode cX11_next 65 = .ok (.aload_n 0, 1) := by decide +kernel
theorem dX11_next_66 : decode cX11_next 66 = .ok (.dup, 1) := by decide +kernel
theorem dX11_next_67 : decode cX11_next 67 = .ok (.getfield 237, 3) := by decide +kernel
theorem dX11_next_70 : decode cX11_next 70 = .ok (.iconst 1, 1) := by decide +kernel
theorem dX11_next_71 : decode cX11_next 71 = .ok (.iadd, 1) := by decide +kernel
theorem dX11_next_72 : decode cX11_next 72 = .ok (.putfield 237, 3) := by decide +kernel
theorem dX11_next_75 : decode cX11_next 75 = .ok (.goto (-36), 3) := by decide +kernel
theorem dX11_next_78 : decode cX11_next 78 = .ok (.aload_n 0, 1) := by decide +kernel
theorem dX11_next_79 : decode cX11_next 79 = .ok (.aload_n 0, 1) := by decide +kernel
theorem dX11_next_80 : decode cX11_next 80 = .ok (.getfield 228, 3) := by decide +kernel
theorem dX11_next_83 : decode cX11_next 83 = .ok (.invokevirtual 231, 3) := by decide +kernel
theorem dX11_next_86 : decode cX11_next 86 = .ok (.ireturn, 1) := by decide +kernel
def st_X11_next_39 (N : Nat) (t : HV) : Option ((HV) ⊕ (Int32 × (HV))) := (ob1 (F_X11_byteAt ((t.1 13) + (t.1 14)) t) fun v4 => (if (F_X11_in ((v4 : Int32).toInt64) (97 : Int64) (122 : Int64)) = true then (lt (sS t 14 ((t.1 14) + 1)) fun t6 => some (.inl t6)) else (ob1 (F_X11_byteAt (t.1 12) t) fun v5 => some (.inr (v5, t)))))
def st_X11_next_0 (N : Nat) (t : HV) : Option ((HV) ⊕ (Int32 × (HV))) := (ob1 (F_X11_byteAt (t.1 12) t) fun v1 => (if v1 = 32 then (lt (sS t 12 ((t.1 12) + 1)) fun t7 => some (.inl t7)) else (lt (sS t 13 (t.1 12)) fun t2 => (lt (sS t2 14 0) fun t3 => (ob1 (lpN N (fun z => st_X11_next_39 N z) (t3)) fun q9 => some (.inr q9))))))
def F_X11_next (N : Nat) (t : HV) : Option (Int32 × (HV)) := (lpN N (fun z => st_X11_next_0 N z) (t))
theorem lp_X11_next_39 {w : WP} (hW : gWM w) {Ω : OM}    {N : Nat} {X : CX} (C : gC w X cX11_next "HedgeMessagesModel" (some .int) 1 1) {v : Int32} {t' : HV}  : ∀ (n : Nat) (t : HV), lpN n (fun z : HV => st_X11_next_39 N z) (t) = some (v, t') → gV w X (some (.int v), cA w (sM Ω t')) (cA w (sM Ω t)) 39 [(0, .ref (wAd w (11, 12, 0, 0)))] [] := by
  intro n
  induction n with
  | zero => intro t hL; exact lpN_0 hL
  | succ n ih =>
    intro t hL
    obtain ⟨q9, hF, hL⟩ := lpN_e hL
    change st_X11_next_39 N t = some q9 at hF
    unfold st_X11_next_39 at hF
    refine r_aload_n C (k := 0) rfl rfl dX11_next_39 ?_
    refine r_aload_n C (k := 0) rfl rfl dX11_next_40 ?_
    refine og_11_13 C (hW.ok k11) (show (sM Ω t).2.1 = t from rfl) wm7_80 dX11_next_41 ?_
    refine r_aload_n C (k := 0) rfl rfl dX11_next_44 ?_
    refine og_11_14 C (hW.ok k11) (show (sM Ω t).2.1 = t from rfl) wm7_81 dX11_next_45 ?_
    refine r_iadd C dX11_next_48 ?_
    obtain ⟨v4, hv4, hF⟩ := ob1_e hF
    refine r_callV C (d' := 0) [.int ((t.1 13) + (t.1 14))] (c_X11_byteAt hW (show (sM Ω t).2.1 = t from rfl) ((t.1 13) + (t.1 14)) hv4) myX11_byteAt wm6_202 ⟨_, _, _, _, (hW.ok k11), rfl, rfl, rfl, rfl⟩ rfl (kR rfl) (by decide) (kR rfl) rfl dX11_next_49 ?_
    refine r_i2l C (v := ((v4 : Int32).toInt64)) rfl dX11_next_52 ?_
    refine r_ldc2 C wm6_206 dX11_next_53 ?_
    refine r_ldc2 C wm6_207 dX11_next_56 ?_
    refine r_callS C (d' := 0) [.long ((v4 : Int32).toInt64), .long (97 : Int64), .long (122 : Int64)] (c_X11_in ((v4 : Int32).toInt64) (97 : Int64) (122 : Int64) rfl) myX11_in wm6_208 rfl (kR rfl) (by decide) (kR rfl) rfl dX11_next_59 ?_
    refine r_if_eq C (tgt := 78) rfl dX11_next_62 (fun hc => ?_) (fun hc => ?_)
    · rw [if_neg (b2i_f hc)] at hF
      refine r_aload_n C (k := 0) rfl rfl dX11_next_78 ?_
      refine r_aload_n C (k := 0) rfl rfl dX11_next_79 ?_
      refine og_11_12 C (hW.ok k11) (show (sM Ω t).2.1 = t from rfl) wm7_79 dX11_next_80 ?_
      obtain ⟨v5, hv5, hF⟩ := ob1_e hF
      refine r_callV C (d' := 0) [.int (t.1 12)] (c_X11_byteAt hW (show (sM Ω t).2.1 = t from rfl) (t.1 12) hv5) myX11_byteAt wm6_202 ⟨_, _, _, _, (hW.ok k11), rfl, rfl, rfl, rfl⟩ rfl (kR rfl) (by decide) (kR rfl) rfl dX11_next_83 ?_
      cases hF
      change some _ = some _ at hL
      cases hL
      exact r_ireturn C dX11_next_86
    · rw [if_pos (b2i_t hc)] at hF
      refine r_aload_n C (k := 0) rfl rfl dX11_next_65 ?_
      refine r_dup C rfl dX11_next_66 ?_
      refine og_11_14 C (hW.ok k11) (show (sM Ω t).2.1 = t from rfl) wm7_81 dX11_next_67 ?_
      refine r_iconst C (v := 1) rfl dX11_next_70 ?_
      refine r_iadd C dX11_next_71 ?_
      obtain ⟨t6, et6, hF⟩ := lt_e hF
      refine op_11_14 C hW.x (hW.fr k11) (show (sM Ω t).2.1 = t from rfl) wm7_81 dX11_next_72 (congrArg (sM Ω) et6) ?_
      refine r_goto C (tgt := 39) rfl dX11_next_75 ?_
      cases hF
      change lpN n _ _ = some _ at hL
      refine r_lo [0] (lo' := [(0, .ref (wAd w (11, 12, 0, 0)))]) rfl ?_
      exact ih t6 hL
theorem lp_X11_next_0 {w : WP} (hW : gWM w) {Ω : OM}    {N : Nat} {X : CX} (C : gC w X cX11_next "HedgeMessagesModel" (some .int) 1 1) {v : Int32} {t' : HV}  : ∀ (n : Nat) (t : HV), lpN n (fun z : HV => st_X11_next_0 N z) (t) = some (v, t') → gV w X (some (.int v), cA w (sM Ω t')) (cA w (sM Ω t)) 0 [(0, .ref (wAd w (11, 12, 0, 0)))] [] := by
  intro n
  induction n with
  | zero => intro t hL; exact lpN_0 hL
  | succ n ih =>
    intro t hL
    obtain ⟨q9, hF, hL⟩ := lpN_e hL
    change st_X11_next_0 N t = some q9 at hF
    unfold st_X11_next_0 at hF
    refine r_aload_n C (k := 0) rfl rfl dX11_next_0 ?_
    refine r_aload_n C (k := 0) rfl rfl dX11_next_1 ?_
    refine og_11_12 C (hW.ok k11) (show (sM Ω t).2.1 = t from rfl) wm7_79 dX11_next_2 ?_
    obtain ⟨v1, hv1, hF⟩ := ob1_e hF
    refine r_callV C (d' := 0) [.int (t.1 12)] (c_X11_byteAt hW (show (sM Ω t).2.1 = t from rfl) (t.1 12) hv1) myX11_byteAt wm6_202 ⟨_, _, _, _, (hW.ok k11), rfl, rfl, rfl, rfl⟩ rfl (kR rfl) (by decide) (kR rfl) rfl dX11_next_5 ?_
    refine r_bipush C (v := 32) rfl dX11_next_8 ?_
    refine r_icmp_ne C (tgt := 26) rfl dX11_next_10 (fun hc => ?_) (fun hc => ?_)
    · rw [if_neg hc] at hF
      refine r_aload_n C (k := 0) rfl rfl dX11_next_26 ?_
      refine r_aload_n C (k := 0) rfl rfl dX11_next_27 ?_
      refine og_11_12 C (hW.ok k11) (show (sM Ω t).2.1 = t from rfl) wm7_79 dX11_next_28 ?_
      obtain ⟨t2, et2, hF⟩ := lt_e hF
      refine op_11_13 C hW.x (hW.fr k11) (show (sM Ω t).2.1 = t from rfl) wm7_80 dX11_next_31 (congrArg (sM Ω) et2) ?_
      refine r_aload_n C (k := 0) rfl rfl dX11_next_34 ?_
      refine r_iconst C (v := 0) rfl dX11_next_35 ?_
      obtain ⟨t3, et3, hF⟩ := lt_e hF
      refine op_11_14 C hW.x (hW.fr k11) (show (sM Ω t2).2.1 = t2 from rfl) wm7_81 dX11_next_36 (congrArg (sM Ω) et3) ?_
      obtain ⟨q9, h9, hF⟩ := ob1_e hF
      cases hF
      change some _ = some _ at hL
      cases hL
      refine r_lo [0] (lo' := [(0, .ref (wAd w (11, 12, 0, 0)))]) rfl ?_
      exact lp_X11_next_39 hW C N t3 h9
    · rw [if_pos hc] at hF
      refine r_aload_n C (k := 0) rfl rfl dX11_next_13 ?_
      refine r_dup C rfl dX11_next_14 ?_
      refine og_11_12 C (hW.ok k11) (show (sM Ω t).2.1 = t from rfl) wm7_79 dX11_next_15 ?_
      refine r_iconst C (v := 1) rfl dX11_next_18 ?_
      refine r_iadd C dX11_next_19 ?_
      obtain ⟨t7, et7, hF⟩ := lt_e hF
      refine op_11_12 C hW.x (hW.fr k11) (show (sM Ω t).2.1 = t from rfl) wm7_79 dX11_next_20 (congrArg (sM Ω) et7) ?_
      refine r_goto C (tgt := 0) rfl dX11_next_23 ?_
      cases hF
      change lpN n _ _ = some _ at hL
      refine r_lo [0] (lo' := [(0, .ref (wAd w (11, 12, 0, 0)))]) rfl ?_
      exact ih t7 hL
theorem c_X11_next {w : WP} (hW : gWM w) {Ω : OM}  {t : HV} (e : Ω.2.1 = t) (N : Nat)  {v : Int32} {t' : HV} (hF : F_X11_next N t = some (v, t')) {Ω' : OM} (e2 : (sM Ω t') = Ω') : gM w 1 yX11_next cX11_next 1 (some .int) [.ref (wAd w (11, 12, 0, 0))] (cA w Ω) (some (.int v)) (cA w Ω') := by
  refine gM_of "HedgeMessagesModel" rfl (by decide) (kR rfl) fun X C => ?_
  unfold F_X11_next at hF
  subst e2
  show gV w X _ _ 0 [(0, .ref (wAd w (11, 12, 0, 0)))] []
  refine r_ct (ct' := cA w (sM Ω t)) (congrArg (cA w) (sM_i e).symm) ?_
  refine r_lo [0] (lo' := [(0, .ref (wAd w (11, 12, 0, 0)))]) rfl ?_
  exact lp_X11_next_0 hW C N t hF
theorem dX11_must_0 : decode cX11_must 0 = .ok (.iload_n 1, 1) := by decide +kernel
theorem dX11_must_1 : decode cX11_must 1 = .ok (.ifCond .ne 10, 3) := by decide +kernel
theorem dX11_must_4 : decode cX11_must 4 = .ok (.aload_n 0, 1) := by decide +kernel
theorem dX11_must_5 : decode cX11_must 5 = .ok (.getfield 244, 3) := by decide +kernel
theorem dX11_must_8 : decode cX11_must 8 = .ok (.ifCond .eq 4, 3) := by decide +kernel
theorem dX11_must_11 : decode cX11_must 11 = .ok (.return_, 1) := by decide +kernel
theorem dX11_must_12 : decode cX11_must 12 = .ok (.aload_n 0, 1) := by decide +kernel
theorem dX11_must_13 : decode cX11_must 13 = .ok (.iload_n 2, 1) := by decide +kernel
theorem dX11_must_14 : decode cX11_must 14 = .ok (.putfield 244, 3) := by decide +kernel
theorem dX11_must_17 : decode cX11_must 17 = .ok (.aload_n 0, 1) := by decide +kernel
theorem dX11_must_18 : decode cX11_must 18 = .ok (.aload_n 0, 1) := by decide +kernel
theorem dX11_must_19 : decode cX11_must 19 = .ok (.getfield 234, 3) := by decide +kernel
theorem dX11_must_22 : decode cX11_must 22 = .ok (.putfield 247, 3) := by decide +kernel
theorem dX11_must_25 : decode cX11_must 25 = .ok (.return_, 1) := by decide +kernel
def F_X11_must (a1 : Bool) (a2 : Int32) (t : HV) : HV := (if a1 = true then t else (if (t.1 15) = 0 then (lt (sS t 15 a2) fun t1 => (lt (sS t1 16 (t1.1 13)) fun t2 => t2)) else t))
theorem c_X11_must {w : WP} (hW : gWM w) {Ω : OM}  {t : HV} (e : Ω.2.1 = t) (a1 : Bool) (a2 : Int32) {t' : HV} (hF : F_X11_must a1 a2 t = t') {Ω' : OM} (e2 : (sM Ω t') = Ω') : gM w 0 yX11_must cX11_must 3 none [.ref (wAd w (11, 12, 0, 0)), .int (b2i a1), .int a2] (cA w Ω) none (cA w Ω') := by
  refine gM_of "HedgeMessagesModel" rfl (by decide) (kR rfl) fun X C => ?_
  unfold F_X11_must at hF
  subst e2
  show gV w X _ _ 0 [(0, .ref (wAd w (11, 12, 0, 0))), (1, .int (b2i a1)), (2, .int a2)] []
  refine r_ct (ct' := cA w (sM Ω t)) (congrArg (cA w) (sM_i e).symm) ?_
  refine r_iload_n C (k := 1) rfl rfl dX11_must_0 ?_
  refine r_if_ne C (tgt := 11) rfl dX11_must_1 (fun hc => ?_) (fun hc => ?_)
  · rw [if_pos (b2i_t hc)] at hF
    cases hF
    exact r_return C dX11_must_11
  · rw [if_neg (b2i_f hc)] at hF
    refine r_aload_n C (k := 0) rfl rfl dX11_must_4 ?_
    refine og_11_15 C (hW.ok k11) (show (sM Ω t).2.1 = t from rfl) wm7_82 dX11_must_5 ?_
    refine r_if_eq C (tgt := 12) rfl dX11_must_8 (fun hc => ?_) (fun hc => ?_)
    · rw [if_pos hc] at hF
      refine r_aload_n C (k := 0) rfl rfl dX11_must_12 ?_
      refine r_iload_n C (k := 2) rfl rfl dX11_must_13 ?_
      obtain ⟨t1, et1, hF⟩ := lt_e hF
      refine op_11_15 C hW.x (hW.fr k11) (show (sM Ω t).2.1 = t from rfl) wm7_82 dX11_must_14 (congrArg (sM Ω) et1) ?_
      refine r_aload_n C (k := 0) rfl rfl dX11_must_17 ?_
      refine r_aload_n C (k := 0) rfl rfl dX11_must_18 ?_
      refine og_11_13 C (hW.ok k11) (show (sM Ω t1).2.1 = t1 from rfl) wm7_80 dX11_must_19 ?_
      obtain ⟨t2, et2, hF⟩ := lt_e hF
      refine op_11_16 C hW.x (hW.fr k11) (show (sM Ω t1).2.1 = t1 from rfl) wm7_83 dX11_must_22 (congrArg (sM Ω) et2) ?_
      cases hF
      exact r_return C dX11_must_25
    · rw [if_neg hc] at hF
      cases hF
      exact r_return C dX11_must_11
theorem dX11_goesPast_0 : decode cX11_goesPast 0 = .ok (.aload_n 0, 1) := by decide +kernel
theorem dX11_goesPast_1 : decode cX11_goesPast 1 = .ok (.aload_n 0, 1) := by decide +kernel
theorem dX11_goesPast_2 : decode cX11_goesPast 2 = .ok (.getfield 234, 3) := by decide +kernel
theorem dX11_goesPast_5 : decode cX11_goesPast 5 = .ok (.aload_n 0, 1) := by decide +kernel
theorem dX11_goesPast_6 : decode cX11_goesPast 6 = .ok (.getfield 237, 3) := by decide +kernel
theorem dX11_goesPast_9 : decode cX11_goesPast 9 = .ok (.iadd, 1) := by decide +kernel
theorem dX11_goesPast_10 : decode cX11_goesPast 10 = .ok (.putfield 228, 3) := by decide +kernel
theorem dX11_goesPast_13 : decode cX11_goesPast 13 = .ok (.return_, 1) := by decide +kernel
def F_X11_goesPast (t : HV) : HV := (lt (sS t 12 ((t.1 13) + (t.1 14))) fun t1 => t1)
theorem c_X11_goesPast {w : WP} (hW : gWM w) {Ω : OM}  {t : HV} (e : Ω.2.1 = t)  {t' : HV} (hF : F_X11_goesPast t = t') {Ω' : OM} (e2 : (sM Ω t') = Ω') : gM w 0 yX11_goesPast cX11_goesPast 1 none [.ref (wAd w (11, 12, 0, 0))] (cA w Ω) none (cA w Ω') := by
  refine gM_of "HedgeMessagesModel" rfl (by decide) (kR rfl) fun X C => ?_
  unfold F_X11_goesPast at hF
  subst e2
  show gV w X _ _ 0 [(0, .ref (wAd w (11, 12, 0, 0)))] []
  refine r_ct (ct' := cA w (sM Ω t)) (congrArg (cA w) (sM_i e).symm) ?_
  refine r_aload_n C (k := 0) rfl rfl dX11_goesPast_0 ?_
  refine r_aload_n C (k := 0) rfl rfl dX11_goesPast_1 ?_
  refine og_11_13 C (hW.ok k11) (show (sM Ω t).2.1 = t from rfl) wm7_80 dX11_goesPast_2 ?_
  refine r_aload_n C (k := 0) rfl rfl dX11_goesPast_5 ?_
  refine og_11_14 C (hW.ok k11) (show (sM Ω t).2.1 = t from rfl) wm7_81 dX11_goesPast_6 ?_
  refine r_iadd C dX11_goesPast_9 ?_
  obtain ⟨t1, et1, hF⟩ := lt_e hF
  refine op_11_12 C hW.x (hW.fr k11) (show (sM Ω t).2.1 = t from rfl) wm7_79 dX11_goesPast_10 (congrArg (sM Ω) et1) ?_
  cases hF
  exact r_return C dX11_goesPast_13
theorem dX11_semicolon_0 : decode cX11_semicolon 0 = .ok (.aload_n 0, 1) := by decide +kernel
theorem dX11_semicolon_1 : decode cX11_semicolon 1 = .ok (.getfield 244, 3) := by decide +kernel
theorem dX11_semicolon_4 : decode cX11_semicolon 4 = .ok (.ifCond .eq 4, 3) := by decide +kernel
theorem dX11_semicolon_7 : decode cX11_semicolon 7 = .ok (.return_, 1) := by decide +kernel
theorem dX11_semicolon_8 : decode cX11_semicolon 8 = .ok (.aload_n 0, 1) := by decide +kernel
theorem dX11_semicolon_9 : decode cX11_semicolon 9 = .ok (.aload_n 0, 1) := by decide +kernel
theorem dX11_semicolon_10 : decode cX11_semicolon 10 = .ok (.invokevirtual 250, 3) := by decide +kernel
theorem dX11_semicolon_13 : decode cX11_semicolon 13 = .ok (.bipush 59, 2) := by decide +kernel
theorem dX11_semicolon_15 : decode cX11_semicolon 15 = .ok (.if_icmp .ne 7, 3) := by decide +kernel
theorem dX11_semicolon_18 : decode cX11_semicolon 18 = .ok (.iconst 1, 1) := by decide +kernel
theorem dX11_semicolon_19 : decode cX11_semicolon 19 = .ok (.goto 4, 3) := by decide +kernel
theorem dX11_semicolon_22 : decode cX11_semicolon 22 = .ok (.iconst 0, 1) := by decide +kernel
theorem dX11_semicolon_23 : decode cX11_semicolon 23 = .ok (.iconst 1, 1) := by decide +kernel
theorem dX11_semicolon_24 : decode cX11_semicolon 24 = .ok (.invokevirtual 253, 3) := by decide +kernel
theorem dX11_semicolon_27 : decode cX11_semicolon 27 = .ok (.aload_n 0, 1) := by decide +kernel
theorem dX11_semicolon_28 : decode cX11_semicolon 28 = .ok (.dup, 1) := by decide +kernel
theorem dX11_semicolon_29 : decode cX11_semicolon 29 = .ok (.getfield 228, 3) := by decide +kernel
theorem dX11_semicolon_32 : decode cX11_semicolon 32 = .ok (.iconst 1, 1) := by decide +kernel
theorem dX11_semicolon_33 : decode cX11_semicolon 33 = .ok (.iadd, 1) := by decide +kernel
theorem dX11_semicolon_34 : decode cX11_semicolon 34 = .ok (.putfield 228, 3) := by decide +kernel
theorem dX11_semicolon_37 : decode cX11_semicolon 37 = .ok (.return_, 1) := by decide +kernel
def F_X11_semicolon (N : Nat) (t : HV) : Option (HV) := (if (t.1 15) = 0 then (ob (F_X11_next N t) fun v1 t2 => (if v1 = 59 then (lt (F_X11_must true 1 t2) fun t7 => (lt (sS t7 12 ((t7.1 12) + 1)) fun t8 => some t8)) else (lt (F_X11_must false 1 t2) fun t4 => (lt (sS t4 12 ((t4.1 12) + 1)) fun t5 => some t5)))) else some t)
theorem c_X11_semicolon {w : WP} (hW : gWM w) {Ω : OM}  {t : HV} (e : Ω.2.1 = t) (N : Nat)  {t' : HV} (hF : F_X11_semicolon N t = some t') {Ω' : OM} (e2 : (sM Ω t') = Ω') : gM w 2 yX11_semicolon cX11_semicolon 1 none [.ref (wAd w (11, 12, 0, 0))] (cA w Ω) none (cA w Ω') := by
  refine gM_of "HedgeMessagesModel" rfl (by decide) (kR rfl) fun X C => ?_
  unfold F_X11_semicolon at hF
  subst e2
  show gV w X _ _ 0 [(0, .ref (wAd w (11, 12, 0, 0)))] []
  refine r_ct (ct' := cA w (sM Ω t)) (congrArg (cA w) (sM_i e).symm) ?_
  refine r_aload_n C (k := 0) rfl rfl dX11_semicolon_0 ?_
  refine og_11_15 C (hW.ok k11) (show (sM Ω t).2.1 = t from rfl) wm7_82 dX11_semicolon_1 ?_
  refine r_if_eq C (tgt := 8) rfl dX11_semicolon_4 (fun hc => ?_) (fun hc => ?_)
  · rw [if_pos hc] at hF
    refine r_aload_n C (k := 0) rfl rfl dX11_semicolon_8 ?_
    refine r_aload_n C (k := 0) rfl rfl dX11_semicolon_9 ?_
    obtain ⟨v1, t2, ht2, hF⟩ := ob_e hF
    refine r_callV C (d' := 1) [] (c_X11_next hW (show (sM Ω t).2.1 = t from rfl) N ht2 rfl) myX11_next wm6_198 ⟨_, _, _, _, (hW.ok k11), rfl, rfl, rfl, rfl⟩ rfl (kR rfl) (by decide) (kR rfl) rfl dX11_semicolon_10 ?_
    refine r_bipush C (v := 59) rfl dX11_semicolon_13 ?_
    refine r_icmp_ne C (tgt := 22) rfl dX11_semicolon_15 (fun hc => ?_) (fun hc => ?_)
    · rw [if_neg hc] at hF
      refine r_iconst C (v := 0) rfl dX11_semicolon_22 ?_
      refine r_iconst C (v := 1) rfl dX11_semicolon_23 ?_
      obtain ⟨t4, ht4, hF⟩ := lt_e hF
      refine r_callV C (d' := 0) [.int (b2i false), .int 1] (c_X11_must hW (show (sM Ω t2).2.1 = t2 from rfl) false 1 ht4 rfl) myX11_must wm6_211 ⟨_, _, _, _, (hW.ok k11), rfl, rfl, rfl, rfl⟩ rfl (kR rfl) (by decide) (kR rfl) rfl dX11_semicolon_24 ?_
      refine r_aload_n C (k := 0) rfl rfl dX11_semicolon_27 ?_
      refine r_dup C rfl dX11_semicolon_28 ?_
      refine og_11_12 C (hW.ok k11) (show (sM Ω t4).2.1 = t4 from rfl) wm7_79 dX11_semicolon_29 ?_
      refine r_iconst C (v := 1) rfl dX11_semicolon_32 ?_
      refine r_iadd C dX11_semicolon_33 ?_
      obtain ⟨t5, et5, hF⟩ := lt_e hF
      refine op_11_12 C hW.x (hW.fr k11) (show (sM Ω t4).2.1 = t4 from rfl) wm7_79 dX11_semicolon_34 (congrArg (sM Ω) et5) ?_
      cases hF
      exact r_return C dX11_semicolon_37
    · rw [if_pos hc] at hF
      refine r_iconst C (v := 1) rfl dX11_semicolon_18 ?_
      refine r_goto C (tgt := 23) rfl dX11_semicolon_19 ?_
      refine r_iconst C (v := 1) rfl dX11_semicolon_23 ?_
      obtain ⟨t7, ht7, hF⟩ := lt_e hF
      refine r_callV C (d' := 0) [.int (b2i true), .int 1] (c_X11_must hW (show (sM Ω t2).2.1 = t2 from rfl) true 1 ht7 rfl) myX11_must wm6_211 ⟨_, _, _, _, (hW.ok k11), rfl, rfl, rfl, rfl⟩ rfl (kR rfl) (by decide) (kR rfl) rfl dX11_semicolon_24 ?_
      refine r_aload_n C (k := 0) rfl rfl dX11_semicolon_27 ?_
      refine r_dup C rfl dX11_semicolon_28 ?_
      refine og_11_12 C (hW.ok k11) (show (sM Ω t7).2.1 = t7 from rfl) wm7_79 dX11_semicolon_29 ?_
      refine r_iconst C (v := 1) rfl dX11_semicolon_32 ?_
      refine r_iadd C dX11_semicolon_33 ?_
      obtain ⟨t8, et8, hF⟩ := lt_e hF
      refine op_11_12 C hW.x (hW.fr k11) (show (sM Ω t7).2.1 = t7 from rfl) wm7_79 dX11_semicolon_34 (congrArg (sM Ω) et8) ?_
      cases hF
      exact r_return C dX11_semicolon_37
  · rw [if_neg hc] at hF
    cases hF
    exact r_return C dX11_semicolon_7
theorem dX11_number_0 : decode cX11_number 0 = .ok (.aload_n 0, 1) := by decide +kernel
theorem dX11_number_1 : decode cX11_number 1 = .ok (.getfield 244, 3) := by decide +kernel
theorem dX11_number_4 : decode cX11_number 4 = .ok (.ifCond .eq 5, 3) := by decide +kernel
theorem dX11_number_7 : decode cX11_number 7 = .ok (.iload_n 1, 1) := by decide +kernel
theorem dX11_number_8 : decode cX11_number 8 = .ok (.ireturn, 1) := by decide +kernel
theorem dX11_number_9 : decode cX11_number 9 = .ok (.aload_n 0, 1) := by decide +kernel
theorem dX11_number_10 : decode cX11_number 10 = .ok (.aload_n 0, 1) := by decide +kernel
theorem dX11_number_11 : decode cX11_number 11 = .ok (.invokevirtual 250, 3) := by decide +kernel
theorem dX11_number_14 : decode cX11_number 14 = .ok (.i2l, 1) := by decide +kernel
theorem dX11_number_15 : decode cX11_number 15 = .ok (.ldc2_w 257, 3) := by decide +kernel
theorem dX11_number_18 : decode cX11_number 18 = .ok (.ldc2_w 259, 3) := by decide +kernel
theorem dX11_number_21 : decode cX11_number 21 = .ok (.invokestatic 65, 3) := by decide +kernel
theorem dX11_number_24 : decode cX11_number 24 = .ok (.iconst 1, 1) := by decide +kernel
theorem dX11_number_25 : decode cX11_number 25 = .ok (.invokevirtual 253, 3) := by decide +kernel
theorem dX11_number_28 : decode cX11_number 28 = .ok (.iconst 0, 1) := by decide +kernel
theorem dX11_number_29 : decode cX11_number 29 = .ok (.istore_n 3, 1) := by decide +kernel
theorem dX11_number_30 : decode cX11_number 30 = .ok (.aload_n 0, 1) := by decide +kernel
theorem dX11_number_31 : decode cX11_number 31 = .ok (.aload_n 0, 1) := by decide +kernel
theorem dX11_number_32 : decode cX11_number 32 = .ok (.getfield 228, 3) := by decide +kernel
theorem dX11_number_35 : decode cX11_number 35 = .ok (.invokevirtual 231, 3) := by decide +kernel
theorem dX11_number_38 : decode cX11_number 38 = .ok (.i2l, 1) := by decide +kernel
theorem dX11_number_39 : decode cX11_number 39 = .ok (.ldc2_w 257, 3) := by decide +kernel
theorem dX11_number_42 : decode cX11_number 42 = .ok (.ldc2_w 259, 3) := by decide +kernel
theorem dX11_number_45 : decode cX11_number 45 = .ok (.invokestatic 65, 3) := by decide +kernel
theorem dX11_number_48 : decode cX11_number 48 = .ok (.ifCond .eq 50, 3) := by decide +kernel
theorem dX11_number_51 : decode cX11_number 51 = .ok (.aload_n 0, 1) := by decide +kernel
theorem dX11_number_52 : decode cX11_number 52 = .ok (.getfield 228, 3) := by decide +kernel
theorem dX11_number_55 : decode cX11_number 55 = .ok (.aload_n 0, 1) := by decide +kernel
theorem dX11_number_56 : decode cX11_number 56 = .ok (.getfield 234, 3) := by decide +kernel
theorem dX11_number_59 : decode cX11_number 59 = .ok (.isub, 1) := by decide +kernel
theorem dX11_number_60 : decode cX11_number 60 = .ok (.iconst 3, 1) := by decide +kernel
theorem dX11_number_61 : decode cX11_number 61 = .ok (.if_icmp .ge 22, 3) := by decide +kernel
theorem dX11_number_64 : decode cX11_number 64 = .ok (.bipush 10, 2) := by decide +kernel
theorem dX11_number_66 : decode cX11_number 66 = .ok (.iload_n 3, 1) := by decide +kernel
theorem dX11_number_67 : decode cX11_number 67 = .ok (.imul, 1) := by decide +kernel
theorem dX11_number_68 : decode cX11_number 68 = .ok (.aload_n 0, 1) := by decide +kernel
theorem dX11_number_69 : decode cX11_number 69 = .ok (.aload_n 0, 1) := by decide +kernel
theorem dX11_number_70 : decode cX11_number 70 = .ok (.getfield 228, 3) := by decide +kernel
theorem dX11_number_73 : decode cX11_number 73 = .ok (.invokevirtual 231, 3) := by decide +kernel
theorem dX11_number_76 : decode cX11_number 76 = .ok (.iadd, 1) := by decide +kernel
theorem dX11_number_77 : decode cX11_number 77 = .ok (.bipush 48, 2) := by decide +kernel
theorem dX11_number_79 : decode cX11_number 79 = .ok (.isub, 1) := by decide +kernel
theorem dX11_number_80 : decode cX11_number 80 = .ok (.goto 4, 3) := by decide +kernel
theorem dX11_number_83 : decode cX11_number 83 = .ok (.iload_n 3, 1) := by decide +kernel
theorem dX11_number_84 : decode cX11_number 84 = .ok (.istore_n 3, 1) := by decide +kernel
theorem dX11_number_85 : decode cX11_number 85 = .ok (.aload_n 0, 1) := by decide +kernel
theorem dX11_number_86 : decode cX11_number 86 = .ok (.dup, 1) := by decide +kernel
theorem dX11_number_87 : decode cX11_number 87 = .ok (.getfield 228, 3) := by decide +kernel
theorem dX11_number_90 : decode cX11_number 90 = .ok (.iconst 1, 1) := by decide +kernel
theorem dX11_number_91 : decode cX11_number 91 = .ok (.iadd, 1) := by decide +kernel
theorem dX11_number_92 : decode cX11_number 92 = .ok (.putfield 228, 3) := by decide +kernel
theorem dX11_number_95 : decode cX11_number 95 = .ok (.goto (-65), 3) := by decide +kernel
theorem dX11_number_98 : decode cX11_number 98 = .ok (.aload_n 0, 1) := by decide +kernel
theorem dX11_number_99 : decode cX11_number 99 = .ok (.aload_n 0, 1) := by decide +kernel
theorem dX11_number_100 : decode cX11_number 100 = .ok (.getfield 228, 3) := by decide +kernel
theorem dX11_number_103 : decode cX11_number 103 = .ok (.aload_n 0, 1) := by decide +kernel
theorem dX11_number_104 : decode cX11_number 104 = .ok (.getfield 234, 3) := by decide +kernel
theorem dX11_number_107 : decode cX11_number 107 = .ok (.isub, 1) := by decide +kernel
theorem dX11_number_108 : decode cX11_number 108 = .ok (.iconst 3, 1) := by decide +kernel
theorem dX11_number_109 : decode cX11_number 109 = .ok (.if_icmp .gt 7, 3) := by decide +kernel
theorem dX11_number_112 : decode cX11_number 112 = .ok (.iconst 1, 1) := by decide +kernel
theorem dX11_number_113 : decode cX11_number 113 = .ok (.goto 4, 3) := by decide +kernel
theorem dX11_number_116 : decode cX11_number 116 = .ok (.iconst 0, 1) := by decide +kernel
theorem dX11_number_117 : decode cX11_number 117 = .ok (.iconst 1, 1) := by decide +kernel
theorem dX11_number_118 : decode cX11_number 118 = .ok (.invokevirtual 253, 3) := by decide +kernel
theorem dX11_number_121 : decode cX11_number 121 = .ok (.aload_n 0, 1) := by decide +kernel
theorem dX11_number_122 : decode cX11_number 122 = .ok (.iload_n 3, 1) := by decide +kernel
theorem dX11_number_123 : decode cX11_number 123 = .ok (.i2l, 1) := by decide +kernel
theorem dX11_number_124 : decode cX11_number 124 = .ok (.iload_n 1, 1) := by decide +kernel
theorem dX11_number_125 : decode cX11_number 125 = .ok (.i2l, 1) := by decide +kernel
theorem dX11_number_126 : decode cX11_number 126 = .ok (.iload_n 2, 1) := by decide +kernel
theorem dX11_number_127 : decode cX11_number 127 = .ok (.i2l, 1) := by decide +kernel
theorem dX11_number_128 : decode cX11_number 128 = .ok (.invokestatic 65, 3) := by decide +kernel
theorem dX11_number_131 : decode cX11_number 131 = .ok (.iconst 2, 1) := by decide +kernel
theorem dX11_number_132 : decode cX11_number 132 = .ok (.invokevirtual 253, 3) := by decide +kernel
theorem dX11_number_135 : decode cX11_number 135 = .ok (.aload_n 0, 1) := by decide +kernel
theorem dX11_number_136 : decode cX11_number 136 = .ok (.getfield 244, 3) := by decide +kernel
theorem dX11_number_139 : decode cX11_number 139 = .ok (.ifCond .ne 7, 3) := by decide +kernel
theorem dX11_number_142 : decode cX11_number 142 = .ok (.iload_n 3, 1) := by decide +kernel
theorem dX11_number_143 : decode cX11_number 143 = .ok (.goto 4, 3) := by decide +kernel
theorem dX11_number_146 : decode cX11_number 146 = .ok (.iload_n 1, 1) := by decide +kernel
theorem dX11_number_147 : decode cX11_number 147 = .ok (.ireturn, 1) := by decide +kernel
def st_X11_number_30 (N : Nat) (l1 : Int32) (l2 : Int32) (l3 : Int32) (t : HV) : Option ((Int32 × HV) ⊕ (Int32 × (HV))) := (ob1 (F_X11_byteAt (t.1 12) t) fun v5 => (if (F_X11_in ((v5 : Int32).toInt64) (48 : Int64) (57 : Int64)) = true then (if 3 ≤ ((t.1 12) - (t.1 13)) then (lt (sS t 12 ((t.1 12) + 1)) fun t14 => some (.inl (l3, t14))) else (ob1 (F_X11_byteAt (t.1 12) t) fun v15 => (lt (sS t 12 ((t.1 12) + 1)) fun t16 => some (.inl ((((10 * l3) + v15) - 48), t16))))) else (if 3 < ((t.1 12) - (t.1 13)) then (lt (F_X11_must false 1 t) fun t7 => (lt (F_X11_must (F_X11_in ((l3 : Int32).toInt64) ((l1 : Int32).toInt64) ((l2 : Int32).toInt64)) 2 t7) fun t9 => (if (t9.1 15) = 0 then some (.inr (l3, t9)) else some (.inr (l1, t9))))) else (lt (F_X11_must true 1 t) fun t11 => (lt (F_X11_must (F_X11_in ((l3 : Int32).toInt64) ((l1 : Int32).toInt64) ((l2 : Int32).toInt64)) 2 t11) fun t13 => (if (t13.1 15) = 0 then some (.inr (l3, t13)) else some (.inr (l1, t13))))))))
def F_X11_number (N : Nat) (a1 : Int32) (a2 : Int32) (t : HV) : Option (Int32 × (HV)) := (if (t.1 15) = 0 then (ob (F_X11_next N t) fun v1 t2 => (lt (F_X11_must (F_X11_in ((v1 : Int32).toInt64) (48 : Int64) (57 : Int64)) 1 t2) fun t4 => (lpN N (fun z => st_X11_number_30 N a1 a2 z.1 z.2) (0, t4)))) else some (a1, t))
theorem lp_X11_number_30 {w : WP} (hW : gWM w) {Ω : OM}   (l1 : Int32) (l2 : Int32) {N : Nat} {X : CX} (C : gC w X cX11_number "HedgeMessagesModel" (some .int) 2 4) {v : Int32} {t' : HV}  : ∀ (n : Nat) (l3 : Int32) (t : HV), lpN n (fun z : Int32 × HV => st_X11_number_30 N l1 l2 z.1 z.2) (l3, t) = some (v, t') → gV w X (some (.int v), cA w (sM Ω t')) (cA w (sM Ω t)) 30 [(0, .ref (wAd w (11, 12, 0, 0))), (1, .int l1), (2, .int l2), (3, .int l3)] [] := by
  intro n
  induction n with
  | zero => intro l3 t hL; exact lpN_0 hL
  | succ n ih =>
    intro l3 t hL
    obtain ⟨q9, hF, hL⟩ := lpN_e hL
    change st_X11_number_30 N l1 l2 l3 t = some q9 at hF
    unfold st_X11_number_30 at hF
    refine r_aload_n C (k := 0) rfl rfl dX11_number_30 ?_
    refine r_aload_n C (k := 0) rfl rfl dX11_number_31 ?_
    refine og_11_12 C (hW.ok k11) (show (sM Ω t).2.1 = t from rfl) wm7_79 dX11_number_32 ?_
    obtain ⟨v5, hv5, hF⟩ := ob1_e hF
    refine r_callV C (d' := 0) [.int (t.1 12)] (c_X11_byteAt hW (show (sM Ω t).2.1 = t from rfl) (t.1 12) hv5) myX11_byteAt wm6_202 ⟨_, _, _, _, (hW.ok k11), rfl, rfl, rfl, rfl⟩ rfl (kR rfl) (by decide) (kR rfl) rfl dX11_number_35 ?_
    refine r_i2l C (v := ((v5 : Int32).toInt64)) rfl dX11_number_38 ?_
    refine r_ldc2 C wm6_223 dX11_number_39 ?_
    refine r_ldc2 C wm6_224 dX11_number_42 ?_
    refine r_callS C (d' := 0) [.long ((v5 : Int32).toInt64), .long (48 : Int64), .long (57 : Int64)] (c_X11_in ((v5 : Int32).toInt64) (48 : Int64) (57 : Int64) rfl) myX11_in wm6_208 rfl (kR rfl) (by decide) (kR rfl) rfl dX11_number_45 ?_
    refine r_if_eq C (tgt := 98) rfl dX11_number_48 (fun hc => ?_) (fun hc => ?_)
    · rw [if_neg (b2i_f hc)] at hF
      refine r_aload_n C (k := 0) rfl rfl dX11_number_98 ?_
      refine r_aload_n C (k := 0) rfl rfl dX11_number_99 ?_
      refine og_11_12 C (hW.ok k11) (show (sM Ω t).2.1 = t from rfl) wm7_79 dX11_number_100 ?_
      refine r_aload_n C (k := 0) rfl rfl dX11_number_103 ?_
      refine og_11_13 C (hW.ok k11) (show (sM Ω t).2.1 = t from rfl) wm7_80 dX11_number_104 ?_
      refine r_isub C dX11_number_107 ?_
      refine r_iconst C (v := 3) rfl dX11_number_108 ?_
      refine r_icmp_gt C (tgt := 116) rfl dX11_number_109 (fun hc => ?_) (fun hc => ?_)
      · rw [if_pos hc] at hF
        refine r_iconst C (v := 0) rfl dX11_number_116 ?_
        refine r_iconst C (v := 1) rfl dX11_number_117 ?_
        obtain ⟨t7, ht7, hF⟩ := lt_e hF
        refine r_callV C (d' := 0) [.int (b2i false), .int 1] (c_X11_must hW (show (sM Ω t).2.1 = t from rfl) false 1 ht7 rfl) myX11_must wm6_211 ⟨_, _, _, _, (hW.ok k11), rfl, rfl, rfl, rfl⟩ rfl (kR rfl) (by decide) (kR rfl) rfl dX11_number_118 ?_
        refine r_aload_n C (k := 0) rfl rfl dX11_number_121 ?_
        refine r_iload_n C (k := 3) rfl rfl dX11_number_122 ?_
        refine r_i2l C (v := ((l3 : Int32).toInt64)) rfl dX11_number_123 ?_
        refine r_iload_n C (k := 1) rfl rfl dX11_number_124 ?_
        refine r_i2l C (v := ((l1 : Int32).toInt64)) rfl dX11_number_125 ?_
        refine r_iload_n C (k := 2) rfl rfl dX11_number_126 ?_
        refine r_i2l C (v := ((l2 : Int32).toInt64)) rfl dX11_number_127 ?_
        refine r_callS C (d' := 0) [.long ((l3 : Int32).toInt64), .long ((l1 : Int32).toInt64), .long ((l2 : Int32).toInt64)] (c_X11_in ((l3 : Int32).toInt64) ((l1 : Int32).toInt64) ((l2 : Int32).toInt64) rfl) myX11_in wm6_208 rfl (kR rfl) (by decide) (kR rfl) rfl dX11_number_128 ?_
        refine r_iconst C (v := 2) rfl dX11_number_131 ?_
        obtain ⟨t9, ht9, hF⟩ := lt_e hF
        refine r_callV C (d' := 0) [.int (b2i (F_X11_in ((l3 : Int32).toInt64) ((l1 : Int32).toInt64) ((l2 : Int32).toInt64))), .int 2] (c_X11_must hW (show (sM Ω t7).2.1 = t7 from rfl) (F_X11_in ((l3 : Int32).toInt64) ((l1 : Int32).toInt64) ((l2 : Int32).toInt64)) 2 ht9 rfl) myX11_must wm6_211 ⟨_, _, _, _, (hW.ok k11), rfl, rfl, rfl, rfl⟩ rfl (kR rfl) (by decide) (kR rfl) rfl dX11_number_132 ?_
        refine r_aload_n C (k := 0) rfl rfl dX11_number_135 ?_
        refine og_11_15 C (hW.ok k11) (show (sM Ω t9).2.1 = t9 from rfl) wm7_82 dX11_number_136 ?_
        refine r_if_ne C (tgt := 146) rfl dX11_number_139 (fun hc => ?_) (fun hc => ?_)
        · rw [if_neg hc] at hF
          refine r_iload_n C (k := 1) rfl rfl dX11_number_146 ?_
          cases hF
          change some _ = some _ at hL
          cases hL
          exact r_ireturn C dX11_number_147
        · rw [if_pos hc] at hF
          refine r_iload_n C (k := 3) rfl rfl dX11_number_142 ?_
          refine r_goto C (tgt := 147) rfl dX11_number_143 ?_
          cases hF
          change some _ = some _ at hL
          cases hL
          exact r_ireturn C dX11_number_147
      · rw [if_neg hc] at hF
        refine r_iconst C (v := 1) rfl dX11_number_112 ?_
        refine r_goto C (tgt := 117) rfl dX11_number_113 ?_
        refine r_iconst C (v := 1) rfl dX11_number_117 ?_
        obtain ⟨t11, ht11, hF⟩ := lt_e hF
        refine r_callV C (d' := 0) [.int (b2i true), .int 1] (c_X11_must hW (show (sM Ω t).2.1 = t from rfl) true 1 ht11 rfl) myX11_must wm6_211 ⟨_, _, _, _, (hW.ok k11), rfl, rfl, rfl, rfl⟩ rfl (kR rfl) (by decide) (kR rfl) rfl dX11_number_118 ?_
        refine r_aload_n C (k := 0) rfl rfl dX11_number_121 ?_
        refine r_iload_n C (k := 3) rfl rfl dX11_number_122 ?_
        refine r_i2l C (v := ((l3 : Int32).toInt64)) rfl dX11_number_123 ?_
        refine r_iload_n C (k := 1) rfl rfl dX11_number_124 ?_
        refine r_i2l C (v := ((l1 : Int32).toInt64)) rfl dX11_number_125 ?_
        refine r_iload_n C (k := 2) rfl rfl dX11_number_126 ?_
        refine r_i2l C (v := ((l2 : Int32).toInt64)) rfl dX11_number_127 ?_
        refine r_callS C (d' := 0) [.long ((l3 : Int32).toInt64), .long ((l1 : Int32).toInt64), .long ((l2 : Int32).toInt64)] (c_X11_in ((l3 : Int32).toInt64) ((l1 : Int32).toInt64) ((l2 : Int32).toInt64) rfl) myX11_in wm6_208 rfl (kR rfl) (by decide) (kR rfl) rfl dX11_number_128 ?_
        refine r_iconst C (v := 2) rfl dX11_number_131 ?_
        obtain ⟨t13, ht13, hF⟩ := lt_e hF
        refine r_callV C (d' := 0) [.int (b2i (F_X11_in ((l3 : Int32).toInt64) ((l1 : Int32).toInt64) ((l2 : Int32).toInt64))), .int 2] (c_X11_must hW (show (sM Ω t11).2.1 = t11 from rfl) (F_X11_in ((l3 : Int32).toInt64) ((l1 : Int32).toInt64) ((l2 : Int32).toInt64)) 2 ht13 rfl) myX11_must wm6_211 ⟨_, _, _, _, (hW.ok k11), rfl, rfl, rfl, rfl⟩ rfl (kR rfl) (by decide) (kR rfl) rfl dX11_number_132 ?_
        refine r_aload_n C (k := 0) rfl rfl dX11_number_135 ?_
        refine og_11_15 C (hW.ok k11) (show (sM Ω t13).2.1 = t13 from rfl) wm7_82 dX11_number_136 ?_
        refine r_if_ne C (tgt := 146) rfl dX11_number_139 (fun hc => ?_) (fun hc => ?_)
        · rw [if_neg hc] at hF
          refine r_iload_n C (k := 1) rfl rfl dX11_number_146 ?_
          cases hF
          change some _ = some _ at hL
          cases hL
          exact r_ireturn C dX11_number_147
        · rw [if_pos hc] at hF
          refine r_iload_n C (k := 3) rfl rfl dX11_number_142 ?_
          refine r_goto C (tgt := 147) rfl dX11_number_143 ?_
          cases hF
          change some _ = some _ at hL
          cases hL
          exact r_ireturn C dX11_number_147
    · rw [if_pos (b2i_t hc)] at hF
      refine r_aload_n C (k := 0) rfl rfl dX11_number_51 ?_
      refine og_11_12 C (hW.ok k11) (show (sM Ω t).2.1 = t from rfl) wm7_79 dX11_number_52 ?_
      refine r_aload_n C (k := 0) rfl rfl dX11_number_55 ?_
      refine og_11_13 C (hW.ok k11) (show (sM Ω t).2.1 = t from rfl) wm7_80 dX11_number_56 ?_
      refine r_isub C dX11_number_59 ?_
      refine r_iconst C (v := 3) rfl dX11_number_60 ?_
      refine r_icmp_ge C (tgt := 83) rfl dX11_number_61 (fun hc => ?_) (fun hc => ?_)
      · rw [if_pos hc] at hF
        refine r_iload_n C (k := 3) rfl rfl dX11_number_83 ?_
        refine r_istore_n C (lo' := [(3, .int l3), (0, .ref (wAd w (11, 12, 0, 0))), (1, .int l1), (2, .int l2)]) rfl (by decide) rfl dX11_number_84 ?_
        refine r_aload_n C (k := 1) rfl rfl dX11_number_85 ?_
        refine r_dup C rfl dX11_number_86 ?_
        refine og_11_12 C (hW.ok k11) (show (sM Ω t).2.1 = t from rfl) wm7_79 dX11_number_87 ?_
        refine r_iconst C (v := 1) rfl dX11_number_90 ?_
        refine r_iadd C dX11_number_91 ?_
        obtain ⟨t14, et14, hF⟩ := lt_e hF
        refine op_11_12 C hW.x (hW.fr k11) (show (sM Ω t).2.1 = t from rfl) wm7_79 dX11_number_92 (congrArg (sM Ω) et14) ?_
        refine r_goto C (tgt := 30) rfl dX11_number_95 ?_
        cases hF
        change lpN n _ _ = some _ at hL
        refine r_lo [1, 2, 3, 0] (lo' := [(0, .ref (wAd w (11, 12, 0, 0))), (1, .int l1), (2, .int l2), (3, .int l3)]) rfl ?_
        exact ih l3 t14 hL
      · rw [if_neg hc] at hF
        refine r_bipush C (v := 10) rfl dX11_number_64 ?_
        refine r_iload_n C (k := 3) rfl rfl dX11_number_66 ?_
        refine r_imul C dX11_number_67 ?_
        refine r_aload_n C (k := 0) rfl rfl dX11_number_68 ?_
        refine r_aload_n C (k := 0) rfl rfl dX11_number_69 ?_
        refine og_11_12 C (hW.ok k11) (show (sM Ω t).2.1 = t from rfl) wm7_79 dX11_number_70 ?_
        obtain ⟨v15, hv15, hF⟩ := ob1_e hF
        refine r_callV C (d' := 0) [.int (t.1 12)] (c_X11_byteAt hW (show (sM Ω t).2.1 = t from rfl) (t.1 12) hv15) myX11_byteAt wm6_202 ⟨_, _, _, _, (hW.ok k11), rfl, rfl, rfl, rfl⟩ rfl (kR rfl) (by decide) (kR rfl) rfl dX11_number_73 ?_
        refine r_iadd C dX11_number_76 ?_
        refine r_bipush C (v := 48) rfl dX11_number_77 ?_
        refine r_isub C dX11_number_79 ?_
        refine r_goto C (tgt := 84) rfl dX11_number_80 ?_
        refine r_istore_n C (lo' := [(3, .int (((10 * l3) + v15) - 48)), (0, .ref (wAd w (11, 12, 0, 0))), (1, .int l1), (2, .int l2)]) rfl (by decide) rfl dX11_number_84 ?_
        refine r_aload_n C (k := 1) rfl rfl dX11_number_85 ?_
        refine r_dup C rfl dX11_number_86 ?_
        refine og_11_12 C (hW.ok k11) (show (sM Ω t).2.1 = t from rfl) wm7_79 dX11_number_87 ?_
        refine r_iconst C (v := 1) rfl dX11_number_90 ?_
        refine r_iadd C dX11_number_91 ?_
        obtain ⟨t16, et16, hF⟩ := lt_e hF
        refine op_11_12 C hW.x (hW.fr k11) (show (sM Ω t).2.1 = t from rfl) wm7_79 dX11_number_92 (congrArg (sM Ω) et16) ?_
        refine r_goto C (tgt := 30) rfl dX11_number_95 ?_
        cases hF
        change lpN n _ _ = some _ at hL
        refine r_lo [1, 2, 3, 0] (lo' := [(0, .ref (wAd w (11, 12, 0, 0))), (1, .int l1), (2, .int l2), (3, .int (((10 * l3) + v15) - 48))]) rfl ?_
        exact ih (((10 * l3) + v15) - 48) t16 hL
theorem c_X11_number {w : WP} (hW : gWM w) {Ω : OM}  {t : HV} (e : Ω.2.1 = t) (N : Nat) (a1 : Int32) (a2 : Int32) {v : Int32} {t' : HV} (hF : F_X11_number N a1 a2 t = some (v, t')) {Ω' : OM} (e2 : (sM Ω t') = Ω') : gM w 2 yX11_number cX11_number 4 (some .int) [.ref (wAd w (11, 12, 0, 0)), .int a1, .int a2] (cA w Ω) (some (.int v)) (cA w Ω') := by
  refine gM_of "HedgeMessagesModel" rfl (by decide) (kR rfl) fun X C => ?_
  unfold F_X11_number at hF
  subst e2
  show gV w X _ _ 0 [(0, .ref (wAd w (11, 12, 0, 0))), (1, .int a1), (2, .int a2)] []
  refine r_ct (ct' := cA w (sM Ω t)) (congrArg (cA w) (sM_i e).symm) ?_
  refine r_aload_n C (k := 0) rfl rfl dX11_number_0 ?_
  refine og_11_15 C (hW.ok k11) (show (sM Ω t).2.1 = t from rfl) wm7_82 dX11_number_1 ?_
  refine r_if_eq C (tgt := 9) rfl dX11_number_4 (fun hc => ?_) (fun hc => ?_)
  · rw [if_pos hc] at hF
    refine r_aload_n C (k := 0) rfl rfl dX11_number_9 ?_
    refine r_aload_n C (k := 0) rfl rfl dX11_number_10 ?_
    obtain ⟨v1, t2, ht2, hF⟩ := ob_e hF
    refine r_callV C (d' := 1) [] (c_X11_next hW (show (sM Ω t).2.1 = t from rfl) N ht2 rfl) myX11_next wm6_198 ⟨_, _, _, _, (hW.ok k11), rfl, rfl, rfl, rfl⟩ rfl (kR rfl) (by decide) (kR rfl) rfl dX11_number_11 ?_
    refine r_i2l C (v := ((v1 : Int32).toInt64)) rfl dX11_number_14 ?_
    refine r_ldc2 C wm6_223 dX11_number_15 ?_
    refine r_ldc2 C wm6_224 dX11_number_18 ?_
    refine r_callS C (d' := 0) [.long ((v1 : Int32).toInt64), .long (48 : Int64), .long (57 : Int64)] (c_X11_in ((v1 : Int32).toInt64) (48 : Int64) (57 : Int64) rfl) myX11_in wm6_208 rfl (kR rfl) (by decide) (kR rfl) rfl dX11_number_21 ?_
    refine r_iconst C (v := 1) rfl dX11_number_24 ?_
    obtain ⟨t4, ht4, hF⟩ := lt_e hF
    refine r_callV C (d' := 0) [.int (b2i (F_X11_in ((v1 : Int32).toInt64) (48 : Int64) (57 : Int64))), .int 1] (c_X11_must hW (show (sM Ω t2).2.1 = t2 from rfl) (F_X11_in ((v1 : Int32).toInt64) (48 : Int64) (57 : Int64)) 1 ht4 rfl) myX11_must wm6_211 ⟨_, _, _, _, (hW.ok k11), rfl, rfl, rfl, rfl⟩ rfl (kR rfl) (by decide) (kR rfl) rfl dX11_number_25 ?_
    refine r_iconst C (v := 0) rfl dX11_number_28 ?_
    refine r_istore_n C (lo' := [(3, .int 0), (0, .ref (wAd w (11, 12, 0, 0))), (1, .int a1), (2, .int a2)]) rfl (by decide) rfl dX11_number_29 ?_
    refine r_lo [1, 2, 3, 0] (lo' := [(0, .ref (wAd w (11, 12, 0, 0))), (1, .int a1), (2, .int a2), (3, .int 0)]) rfl ?_
    exact lp_X11_number_30 hW a1 a2 C N 0 t4 hF
  · rw [if_neg hc] at hF
    refine r_iload_n C (k := 1) rfl rfl dX11_number_7 ?_
    cases hF
    exact r_ireturn C dX11_number_8
theorem dX11_letterHere_0 : decode cX11_letterHere 0 = .ok (.aload_n 0, 1) := by decide +kernel
theorem dX11_letterHere_1 : decode cX11_letterHere 1 = .ok (.getfield 244, 3) := by decide +kernel
theorem dX11_letterHere_4 : decode cX11_letterHere 4 = .ok (.ifCond .eq 6, 3) := by decide +kernel
theorem dX11_letterHere_7 : decode cX11_letterHere 7 = .ok (.bipush 97, 2) := by decide +kernel
theorem dX11_letterHere_9 : decode cX11_letterHere 9 = .ok (.ireturn, 1) := by decide +kernel
theorem dX11_letterHere_10 : decode cX11_letterHere 10 = .ok (.aload_n 0, 1) := by decide +kernel
theorem dX11_letterHere_11 : decode cX11_letterHere 11 = .ok (.invokevirtual 250, 3) := by decide +kernel
theorem dX11_letterHere_14 : decode cX11_letterHere 14 = .ok (.istore_n 1, 1) := by decide +kernel
theorem dX11_letterHere_15 : decode cX11_letterHere 15 = .ok (.aload_n 0, 1) := by decide +kernel
theorem dX11_letterHere_16 : decode cX11_letterHere 16 = .ok (.aload_n 0, 1) := by decide +kernel
theorem dX11_letterHere_17 : decode cX11_letterHere 17 = .ok (.getfield 237, 3) := by decide +kernel
theorem dX11_letterHere_20 : decode cX11_letterHere 20 = .ok (.iconst 1, 1) := by decide +kernel
theorem dX11_letterHere_21 : decode cX11_letterHere 21 = .ok (.if_icmp .ne 7, 3) := by decide +kernel
theorem dX11_letterHere_24 : decode cX11_letterHere 24 = .ok (.iconst 1, 1) := by decide +kernel
theorem dX11_letterHere_25 : decode cX11_letterHere 25 = .ok (.goto 4, 3) := by decide +kernel
theorem dX11_letterHere_28 : decode cX11_letterHere 28 = .ok (.iconst 0, 1) := by decide +kernel
theorem dX11_letterHere_29 : decode cX11_letterHere 29 = .ok (.iconst 1, 1) := by decide +kernel
theorem dX11_letterHere_30 : decode cX11_letterHere 30 = .ok (.invokevirtual 253, 3) := by decide +kernel
theorem dX11_letterHere_33 : decode cX11_letterHere 33 = .ok (.aload_n 0, 1) := by decide +kernel
theorem dX11_letterHere_34 : decode cX11_letterHere 34 = .ok (.invokevirtual 261, 3) := by decide +kernel
theorem dX11_letterHere_37 : decode cX11_letterHere 37 = .ok (.iload_n 1, 1) := by decide +kernel
theorem dX11_letterHere_38 : decode cX11_letterHere 38 = .ok (.ireturn, 1) := by decide +kernel
def F_X11_letterHere (N : Nat) (t : HV) : Option (Int32 × (HV)) := (if (t.1 15) = 0 then (ob (F_X11_next N t) fun v1 t2 => (if (t2.1 14) = 1 then (lt (F_X11_must true 1 t2) fun t8 => (lt (F_X11_goesPast t8) fun t10 => some (v1, t10))) else (lt (F_X11_must false 1 t2) fun t4 => (lt (F_X11_goesPast t4) fun t6 => some (v1, t6))))) else some (97, t))
theorem c_X11_letterHere {w : WP} (hW : gWM w) {Ω : OM}  {t : HV} (e : Ω.2.1 = t) (N : Nat)  {v : Int32} {t' : HV} (hF : F_X11_letterHere N t = some (v, t')) {Ω' : OM} (e2 : (sM Ω t') = Ω') : gM w 2 yX11_letterHere cX11_letterHere 2 (some .int) [.ref (wAd w (11, 12, 0, 0))] (cA w Ω) (some (.int v)) (cA w Ω') := by
  refine gM_of "HedgeMessagesModel" rfl (by decide) (kR rfl) fun X C => ?_
  unfold F_X11_letterHere at hF
  subst e2
  show gV w X _ _ 0 [(0, .ref (wAd w (11, 12, 0, 0)))] []
  refine r_ct (ct' := cA w (sM Ω t)) (congrArg (cA w) (sM_i e).symm) ?_
  refine r_aload_n C (k := 0) rfl rfl dX11_letterHere_0 ?_
  refine og_11_15 C (hW.ok k11) (show (sM Ω t).2.1 = t from rfl) wm7_82 dX11_letterHere_1 ?_
  refine r_if_eq C (tgt := 10) rfl dX11_letterHere_4 (fun hc => ?_) (fun hc => ?_)
  · rw [if_pos hc] at hF
    refine r_aload_n C (k := 0) rfl rfl dX11_letterHere_10 ?_
    obtain ⟨v1, t2, ht2, hF⟩ := ob_e hF
    refine r_callV C (d' := 1) [] (c_X11_next hW (show (sM Ω t).2.1 = t from rfl) N ht2 rfl) myX11_next wm6_198 ⟨_, _, _, _, (hW.ok k11), rfl, rfl, rfl, rfl⟩ rfl (kR rfl) (by decide) (kR rfl) rfl dX11_letterHere_11 ?_
    refine r_istore_n C (lo' := [(1, .int v1), (0, .ref (wAd w (11, 12, 0, 0)))]) rfl (by decide) rfl dX11_letterHere_14 ?_
    refine r_aload_n C (k := 1) rfl rfl dX11_letterHere_15 ?_
    refine r_aload_n C (k := 1) rfl rfl dX11_letterHere_16 ?_
    refine og_11_14 C (hW.ok k11) (show (sM Ω t2).2.1 = t2 from rfl) wm7_81 dX11_letterHere_17 ?_
    refine r_iconst C (v := 1) rfl dX11_letterHere_20 ?_
    refine r_icmp_ne C (tgt := 28) rfl dX11_letterHere_21 (fun hc => ?_) (fun hc => ?_)
    · rw [if_neg hc] at hF
      refine r_iconst C (v := 0) rfl dX11_letterHere_28 ?_
      refine r_iconst C (v := 1) rfl dX11_letterHere_29 ?_
      obtain ⟨t4, ht4, hF⟩ := lt_e hF
      refine r_callV C (d' := 0) [.int (b2i false), .int 1] (c_X11_must hW (show (sM Ω t2).2.1 = t2 from rfl) false 1 ht4 rfl) myX11_must wm6_211 ⟨_, _, _, _, (hW.ok k11), rfl, rfl, rfl, rfl⟩ rfl (kR rfl) (by decide) (kR rfl) rfl dX11_letterHere_30 ?_
      refine r_aload_n C (k := 1) rfl rfl dX11_letterHere_33 ?_
      obtain ⟨t6, ht6, hF⟩ := lt_e hF
      refine r_callV C (d' := 0) [] (c_X11_goesPast hW (show (sM Ω t4).2.1 = t4 from rfl) ht6 rfl) myX11_goesPast wm6_215 ⟨_, _, _, _, (hW.ok k11), rfl, rfl, rfl, rfl⟩ rfl (kR rfl) (by decide) (kR rfl) rfl dX11_letterHere_34 ?_
      refine r_iload_n C (k := 0) rfl rfl dX11_letterHere_37 ?_
      cases hF
      exact r_ireturn C dX11_letterHere_38
    · rw [if_pos hc] at hF
      refine r_iconst C (v := 1) rfl dX11_letterHere_24 ?_
      refine r_goto C (tgt := 29) rfl dX11_letterHere_25 ?_
      refine r_iconst C (v := 1) rfl dX11_letterHere_29 ?_
      obtain ⟨t8, ht8, hF⟩ := lt_e hF
      refine r_callV C (d' := 0) [.int (b2i true), .int 1] (c_X11_must hW (show (sM Ω t2).2.1 = t2 from rfl) true 1 ht8 rfl) myX11_must wm6_211 ⟨_, _, _, _, (hW.ok k11), rfl, rfl, rfl, rfl⟩ rfl (kR rfl) (by decide) (kR rfl) rfl dX11_letterHere_30 ?_
      refine r_aload_n C (k := 1) rfl rfl dX11_letterHere_33 ?_
      obtain ⟨t10, ht10, hF⟩ := lt_e hF
      refine r_callV C (d' := 0) [] (c_X11_goesPast hW (show (sM Ω t8).2.1 = t8 from rfl) ht10 rfl) myX11_goesPast wm6_215 ⟨_, _, _, _, (hW.ok k11), rfl, rfl, rfl, rfl⟩ rfl (kR rfl) (by decide) (kR rfl) rfl dX11_letterHere_34 ?_
      refine r_iload_n C (k := 0) rfl rfl dX11_letterHere_37 ?_
      cases hF
      exact r_ireturn C dX11_letterHere_38
  · rw [if_neg hc] at hF
    refine r_bipush C (v := 97) rfl dX11_letterHere_7 ?_
    cases hF
    exact r_ireturn C dX11_letterHere_9
