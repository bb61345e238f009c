/-! ===== 50.face: printed by wip/p66/genface.py ===== -/
theorem dX10_append_0 : decode cX10_append 0 = .ok (.aload_n 0, 1) := by decide +kernel
theorem dX10_append_1 : decode cX10_append 1 = .ok (.getfield 32, 3) := by decide +kernel
theorem dX10_append_4 : decode cX10_append 4 = .ok (.getfield 74, 3) := by decide +kernel
theorem dX10_append_7 : decode cX10_append 7 = .ok (.bipush 20, 2) := by decide +kernel
theorem dX10_append_9 : decode cX10_append 9 = .ok (.iadd, 1) := by decide +kernel
theorem dX10_append_10 : decode cX10_append 10 = .ok (.sipush 800, 3) := by decide +kernel
theorem dX10_append_13 : decode cX10_append 13 = .ok (.if_icmp .le 13, 3) := by decide +kernel
theorem dX10_append_16 : decode cX10_append 16 = .ok (.new 78, 3) := by decide +kernel
theorem dX10_append_19 : decode cX10_append 19 = .ok (.dup, 1) := by decide +kernel
theorem dX10_append_20 : decode cX10_append 20 = .ok (.ldc 80, 2) := by decide +kernel
theorem dX10_append_22 : decode cX10_append 22 = .ok (.invokespecial 82, 3) := by decide +kernel
theorem dX10_append_25 : decode cX10_append 25 = .ok (.athrow, 1) := by decide +kernel
theorem dX10_append_26 : decode cX10_append 26 = .ok (.aload_n 0, 1) := by decide +kernel
theorem dX10_append_27 : decode cX10_append 27 = .ok (.getfield 32, 3) := by decide +kernel
theorem dX10_append_30 : decode cX10_append 30 = .ok (.iload_n 1, 1) := by decide +kernel
theorem dX10_append_31 : decode cX10_append 31 = .ok (.invokevirtual 85, 3) := by decide +kernel
theorem dX10_append_34 : decode cX10_append 34 = .ok (.aload_n 0, 1) := by decide +kernel
theorem dX10_append_35 : decode cX10_append 35 = .ok (.getfield 32, 3) := by decide +kernel
theorem dX10_append_38 : decode cX10_append 38 = .ok (.iload_n 2, 1) := by decide +kernel
theorem dX10_append_39 : decode cX10_append 39 = .ok (.invokevirtual 85, 3) := by decide +kernel
theorem dX10_append_42 : decode cX10_append 42 = .ok (.aload_n 0, 1) := by decide +kernel
theorem dX10_append_43 : decode cX10_append 43 = .ok (.getfield 32, 3) := by decide +kernel
theorem dX10_append_46 : decode cX10_append 46 = .ok (.iload_n 3, 1) := by decide +kernel
theorem dX10_append_47 : decode cX10_append 47 = .ok (.invokevirtual 85, 3) := by decide +kernel
theorem dX10_append_50 : decode cX10_append 50 = .ok (.aload_n 0, 1) := by decide +kernel
theorem dX10_append_51 : decode cX10_append 51 = .ok (.getfield 32, 3) := by decide +kernel
theorem dX10_append_54 : decode cX10_append 54 = .ok (.iload 4, 2) := by decide +kernel
theorem dX10_append_56 : decode cX10_append 56 = .ok (.invokevirtual 85, 3) := by decide +kernel
theorem dX10_append_59 : decode cX10_append 59 = .ok (.aload_n 0, 1) := by decide +kernel
theorem dX10_append_60 : decode cX10_append 60 = .ok (.getfield 32, 3) := by decide +kernel
theorem dX10_append_63 : decode cX10_append 63 = .ok (.iload 5, 2) := by decide +kernel
theorem dX10_append_65 : decode cX10_append 65 = .ok (.invokevirtual 85, 3) := by decide +kernel
theorem dX10_append_68 : decode cX10_append 68 = .ok (.aload_n 0, 1) := by decide +kernel
theorem dX10_append_69 : decode cX10_append 69 = .ok (.getfield 32, 3) := by decide +kernel
theorem dX10_append_72 : decode cX10_append 72 = .ok (.getfield 74, 3) := by decide +kernel
theorem dX10_append_75 : decode cX10_append 75 = .ok (.ireturn, 1) := by decide +kernel
def F_X10_append (a1 : Int32) (a2 : Int32) (a3 : Int32) (a4 : Int32) (a5 : Int32) (S : Nat → Nat → HV) : Option ((Int32 × (Nat → Nat → HV)) ⊕ (Nat × (Nat → Nat → HV))) := (if (((S 11 4).1 1) + 20) ≤ 800 then (lt (F_X9_appendBytes a1 (S 11 4)) fun g2 => (lt (up S 11 (up (S 11) 4 g2)) fun S3 => (lt (F_X9_appendBytes a2 (S3 11 4)) fun g5 => (lt (up S3 11 (up (S3 11) 4 g5)) fun S6 => (lt (F_X9_appendBytes a3 (S6 11 4)) fun g8 => (lt (up S6 11 (up (S6 11) 4 g8)) fun S9 => (lt (F_X9_appendBytes a4 (S9 11 4)) fun g11 => (lt (up S9 11 (up (S9 11) 4 g11)) fun S12 => (lt (F_X9_appendBytes a5 (S12 11 4)) fun g14 => (lt (up S12 11 (up (S12 11) 4 g14)) fun S15 => some (.inl (((S15 11 4).1 1), S15)))))))))))) else some (.inr (1, S)))
theorem c_X10_append {w : WP} (hW : gW w) (hS : gS w) {Ω : OM}  {S : Nat → Nat → HV} (e : Ω.1 = S) (a1 : Int32) (a2 : Int32) (a3 : Int32) (a4 : Int32) (a5 : Int32) {v : Int32} {S' : Nat → Nat → HV} (hF : F_X10_append a1 a2 a3 a4 a5 S = some (.inl (v, S'))) {Ω' : OM} (e2 : (S', Ω.2) = Ω') : gM w 6 yX10_append cX10_append 6 (some .int) [.ref (wAd w (7, 11, 6, 0)), .int a1, .int a2, .int a3, .int a4, .int a5] (cA w Ω) (some (.int v)) (cA w Ω') := by
  refine gM_of "HedgeMessages" rfl (by decide) (kR rfl) fun X C => ?_
  unfold F_X10_append at hF
  subst e2
  show gV w X _ _ 0 [(0, .ref (wAd w (7, 11, 6, 0))), (1, .int a1), (2, .int a2), (3, .int a3), (4, .int a4), (5, .int a5)] []
  refine r_ct (ct' := cA w (S, Ω.2)) (by rw [← e]) ?_
  refine r_aload_n C (k := 0) rfl rfl dX10_append_0 ?_
  refine og_7_5 C (hW.ok k7) wm2_164 dX10_append_1 ?_
  refine ogN_5_1 C (hW.ok k5) (congrFun (congrFun (show (S, Ω.2).1 = S from rfl) 11) 4) wm1_238 dX10_append_4 ?_
  refine r_bipush C (v := 20) rfl dX10_append_7 ?_
  refine r_iadd C dX10_append_9 ?_
  refine r_sipush C (v := 800) rfl dX10_append_10 ?_
  refine r_icmp_le C (tgt := 26) rfl dX10_append_13 (fun hc => ?_) (fun hc => ?_)
  · rw [if_pos hc] at hF
    refine r_aload_n C (k := 0) rfl rfl dX10_append_26 ?_
    refine og_7_5 C (hW.ok k7) wm2_164 dX10_append_27 ?_
    refine r_iload_n C (k := 1) rfl rfl dX10_append_30 ?_
    obtain ⟨g2, hg2, hF⟩ := lt_e hF
    obtain ⟨S3, eS3, hF⟩ := lt_e hF
    refine r_callV C (d' := 1) [.int a1] (c_X9_appendBytes hW (congrFun (congrFun (show (S, Ω.2).1 = S from rfl) 11) 4) a1 hg2 (congrArg (fun z => (z, Ω.2)) eS3)) myX9_appendBytes wm3_69 ⟨_, _, _, _, (hW.ok k5), rfl, rfl, rfl, rfl⟩ rfl (kR rfl) (by decide) (kR rfl) rfl dX10_append_31 ?_
    refine r_aload_n C (k := 0) rfl rfl dX10_append_34 ?_
    refine og_7_5 C (hW.ok k7) wm2_164 dX10_append_35 ?_
    refine r_iload_n C (k := 2) rfl rfl dX10_append_38 ?_
    obtain ⟨g5, hg5, hF⟩ := lt_e hF
    obtain ⟨S6, eS6, hF⟩ := lt_e hF
    refine r_callV C (d' := 1) [.int a2] (c_X9_appendBytes hW (congrFun (congrFun (show (S3, Ω.2).1 = S3 from rfl) 11) 4) a2 hg5 (congrArg (fun z => (z, Ω.2)) eS6)) myX9_appendBytes wm3_69 ⟨_, _, _, _, (hW.ok k5), rfl, rfl, rfl, rfl⟩ rfl (kR rfl) (by decide) (kR rfl) rfl dX10_append_39 ?_
    refine r_aload_n C (k := 0) rfl rfl dX10_append_42 ?_
    refine og_7_5 C (hW.ok k7) wm2_164 dX10_append_43 ?_
    refine r_iload_n C (k := 3) rfl rfl dX10_append_46 ?_
    obtain ⟨g8, hg8, hF⟩ := lt_e hF
    obtain ⟨S9, eS9, hF⟩ := lt_e hF
    refine r_callV C (d' := 1) [.int a3] (c_X9_appendBytes hW (congrFun (congrFun (show (S6, Ω.2).1 = S6 from rfl) 11) 4) a3 hg8 (congrArg (fun z => (z, Ω.2)) eS9)) myX9_appendBytes wm3_69 ⟨_, _, _, _, (hW.ok k5), rfl, rfl, rfl, rfl⟩ rfl (kR rfl) (by decide) (kR rfl) rfl dX10_append_47 ?_
    refine r_aload_n C (k := 0) rfl rfl dX10_append_50 ?_
    refine og_7_5 C (hW.ok k7) wm2_164 dX10_append_51 ?_
    refine r_iload C (k := 4) rfl dX10_append_54 ?_
    obtain ⟨g11, hg11, hF⟩ := lt_e hF
    obtain ⟨S12, eS12, hF⟩ := lt_e hF
    refine r_callV C (d' := 1) [.int a4] (c_X9_appendBytes hW (congrFun (congrFun (show (S9, Ω.2).1 = S9 from rfl) 11) 4) a4 hg11 (congrArg (fun z => (z, Ω.2)) eS12)) myX9_appendBytes wm3_69 ⟨_, _, _, _, (hW.ok k5), rfl, rfl, rfl, rfl⟩ rfl (kR rfl) (by decide) (kR rfl) rfl dX10_append_56 ?_
    refine r_aload_n C (k := 0) rfl rfl dX10_append_59 ?_
    refine og_7_5 C (hW.ok k7) wm2_164 dX10_append_60 ?_
    refine r_iload C (k := 5) rfl dX10_append_63 ?_
    obtain ⟨g14, hg14, hF⟩ := lt_e hF
    obtain ⟨S15, eS15, hF⟩ := lt_e hF
    refine r_callV C (d' := 1) [.int a5] (c_X9_appendBytes hW (congrFun (congrFun (show (S12, Ω.2).1 = S12 from rfl) 11) 4) a5 hg14 (congrArg (fun z => (z, Ω.2)) eS15)) myX9_appendBytes wm3_69 ⟨_, _, _, _, (hW.ok k5), rfl, rfl, rfl, rfl⟩ rfl (kR rfl) (by decide) (kR rfl) rfl dX10_append_65 ?_
    refine r_aload_n C (k := 0) rfl rfl dX10_append_68 ?_
    refine og_7_5 C (hW.ok k7) wm2_164 dX10_append_69 ?_
    refine ogN_5_1 C (hW.ok k5) (congrFun (congrFun (show (S15, Ω.2).1 = S15 from rfl) 11) 4) wm1_238 dX10_append_72 ?_
    cases hF
    exact r_ireturn C dX10_append_75
  · rw [if_neg hc] at hF
    cases hF
theorem x_X10_append {w : WP} (hW : gW w) (hS : gS w) (hZ : gZ w) {Ω : OM}  {S : Nat → Nat → HV} (e : Ω.1 = S) (a1 : Int32) (a2 : Int32) (a3 : Int32) (a4 : Int32) (a5 : Int32) {k9 : Nat} {S' : Nat → Nat → HV} (hF : F_X10_append a1 a2 a3 a4 a5 S = some (.inr (k9, S'))) {Ω' : OM} (e2 : (S', Ω.2) = Ω') : gMx w 6 yX10_append cX10_append 6 (some .int) [.ref (wAd w (7, 11, 6, 0)), .int a1, .int a2, .int a3, .int a4, .int a5] (cA w Ω) (xN k9) (cA w Ω') := by
  refine gMx_of "HedgeMessages" rfl (by decide) (kR rfl) fun X C hT9 => ?_
  unfold F_X10_append at hF
  subst e2
  show gU w X _ _ 0 [(0, .ref (wAd w (7, 11, 6, 0))), (1, .int a1), (2, .int a2), (3, .int a3), (4, .int a4), (5, .int a5)] []
  refine r_ct (ct' := cA w (S, Ω.2)) (by rw [← e]) ?_
  refine r_aload_n C (k := 0) rfl rfl dX10_append_0 ?_
  refine og_7_5 C (hW.ok k7) wm2_164 dX10_append_1 ?_
  refine ogN_5_1 C (hW.ok k5) (congrFun (congrFun (show (S, Ω.2).1 = S from rfl) 11) 4) wm1_238 dX10_append_4 ?_
  refine r_bipush C (v := 20) rfl dX10_append_7 ?_
  refine r_iadd C dX10_append_9 ?_
  refine r_sipush C (v := 800) rfl dX10_append_10 ?_
  refine r_icmp_le C (tgt := 26) rfl dX10_append_13 (fun hc => ?_) (fun hc => ?_)
  · rw [if_pos hc] at hF
    refine r_aload_n C (k := 0) rfl rfl dX10_append_26 ?_
    refine og_7_5 C (hW.ok k7) wm2_164 dX10_append_27 ?_
    refine r_iload_n C (k := 1) rfl rfl dX10_append_30 ?_
    obtain ⟨g2, hg2, hF⟩ := lt_e hF
    obtain ⟨S3, eS3, hF⟩ := lt_e hF
    refine r_callV C (d' := 1) [.int a1] (c_X9_appendBytes hW (congrFun (congrFun (show (S, Ω.2).1 = S from rfl) 11) 4) a1 hg2 (congrArg (fun z => (z, Ω.2)) eS3)) myX9_appendBytes wm3_69 ⟨_, _, _, _, (hW.ok k5), rfl, rfl, rfl, rfl⟩ rfl (kR rfl) (by decide) (kR rfl) rfl dX10_append_31 ?_
    refine r_aload_n C (k := 0) rfl rfl dX10_append_34 ?_
    refine og_7_5 C (hW.ok k7) wm2_164 dX10_append_35 ?_
    refine r_iload_n C (k := 2) rfl rfl dX10_append_38 ?_
    obtain ⟨g5, hg5, hF⟩ := lt_e hF
    obtain ⟨S6, eS6, hF⟩ := lt_e hF
    refine r_callV C (d' := 1) [.int a2] (c_X9_appendBytes hW (congrFun (congrFun (show (S3, Ω.2).1 = S3 from rfl) 11) 4) a2 hg5 (congrArg (fun z => (z, Ω.2)) eS6)) myX9_appendBytes wm3_69 ⟨_, _, _, _, (hW.ok k5), rfl, rfl, rfl, rfl⟩ rfl (kR rfl) (by decide) (kR rfl) rfl dX10_append_39 ?_
    refine r_aload_n C (k := 0) rfl rfl dX10_append_42 ?_
    refine og_7_5 C (hW.ok k7) wm2_164 dX10_append_43 ?_
    refine r_iload_n C (k := 3) rfl rfl dX10_append_46 ?_
    obtain ⟨g8, hg8, hF⟩ := lt_e hF
    obtain ⟨S9, eS9, hF⟩ := lt_e hF
    refine r_callV C (d' := 1) [.int a3] (c_X9_appendBytes hW (congrFun (congrFun (show (S6, Ω.2).1 = S6 from rfl) 11) 4) a3 hg8 (congrArg (fun z => (z, Ω.2)) eS9)) myX9_appendBytes wm3_69 ⟨_, _, _, _, (hW.ok k5), rfl, rfl, rfl, rfl⟩ rfl (kR rfl) (by decide) (kR rfl) rfl dX10_append_47 ?_
    refine r_aload_n C (k := 0) rfl rfl dX10_append_50 ?_
    refine og_7_5 C (hW.ok k7) wm2_164 dX10_append_51 ?_
    refine r_iload C (k := 4) rfl dX10_append_54 ?_
    obtain ⟨g11, hg11, hF⟩ := lt_e hF
    obtain ⟨S12, eS12, hF⟩ := lt_e hF
    refine r_callV C (d' := 1) [.int a4] (c_X9_appendBytes hW (congrFun (congrFun (show (S9, Ω.2).1 = S9 from rfl) 11) 4) a4 hg11 (congrArg (fun z => (z, Ω.2)) eS12)) myX9_appendBytes wm3_69 ⟨_, _, _, _, (hW.ok k5), rfl, rfl, rfl, rfl⟩ rfl (kR rfl) (by decide) (kR rfl) rfl dX10_append_56 ?_
    refine r_aload_n C (k := 0) rfl rfl dX10_append_59 ?_
    refine og_7_5 C (hW.ok k7) wm2_164 dX10_append_60 ?_
    refine r_iload C (k := 5) rfl dX10_append_63 ?_
    obtain ⟨g14, hg14, hF⟩ := lt_e hF
    obtain ⟨S15, eS15, hF⟩ := lt_e hF
    refine r_callV C (d' := 1) [.int a5] (c_X9_appendBytes hW (congrFun (congrFun (show (S12, Ω.2).1 = S12 from rfl) 11) 4) a5 hg14 (congrArg (fun z => (z, Ω.2)) eS15)) myX9_appendBytes wm3_69 ⟨_, _, _, _, (hW.ok k5), rfl, rfl, rfl, rfl⟩ rfl (kR rfl) (by decide) (kR rfl) rfl dX10_append_65 ?_
    refine r_aload_n C (k := 0) rfl rfl dX10_append_68 ?_
    refine og_7_5 C (hW.ok k7) wm2_164 dX10_append_69 ?_
    refine ogN_5_1 C (hW.ok k5) (congrFun (congrFun (show (S15, Ω.2).1 = S15 from rfl) 11) 4) wm1_238 dX10_append_72 ?_
    cases hF
  · rw [if_neg hc] at hF
    cases hF
    exact x_throwS C hZ hT9 (by decide +kernel) xK1 rfl xI1 xO1 ((hS.s C).imp fun _ _ _ h => h.2.2.1 4 (by decide)) (kR rfl) (kR rfl) dX10_append_16 dX10_append_19 dX10_append_20 dX10_append_22 dX10_append_25
theorem dX10_truncate_0 : decode cX10_truncate 0 = .ok (.iload_n 1, 1) := by decide +kernel
theorem dX10_truncate_1 : decode cX10_truncate 1 = .ok (.ifCond .lt 14, 3) := by decide +kernel
theorem dX10_truncate_4 : decode cX10_truncate 4 = .ok (.iload_n 1, 1) := by decide +kernel
theorem dX10_truncate_5 : decode cX10_truncate 5 = .ok (.aload_n 0, 1) := by decide +kernel
theorem dX10_truncate_6 : decode cX10_truncate 6 = .ok (.getfield 32, 3) := by decide +kernel
theorem dX10_truncate_9 : decode cX10_truncate 9 = .ok (.getfield 74, 3) := by decide +kernel
theorem dX10_truncate_12 : decode cX10_truncate 12 = .ok (.if_icmp .le 13, 3) := by decide +kernel
theorem dX10_truncate_15 : decode cX10_truncate 15 = .ok (.new 88, 3) := by decide +kernel
theorem dX10_truncate_18 : decode cX10_truncate 18 = .ok (.dup, 1) := by decide +kernel
theorem dX10_truncate_19 : decode cX10_truncate 19 = .ok (.ldc 90, 2) := by decide +kernel
theorem dX10_truncate_21 : decode cX10_truncate 21 = .ok (.invokespecial 92, 3) := by decide +kernel
theorem dX10_truncate_24 : decode cX10_truncate 24 = .ok (.athrow, 1) := by decide +kernel
theorem dX10_truncate_25 : decode cX10_truncate 25 = .ok (.aload_n 0, 1) := by decide +kernel
theorem dX10_truncate_26 : decode cX10_truncate 26 = .ok (.getfield 32, 3) := by decide +kernel
theorem dX10_truncate_29 : decode cX10_truncate 29 = .ok (.iload_n 1, 1) := by decide +kernel
theorem dX10_truncate_30 : decode cX10_truncate 30 = .ok (.putfield 74, 3) := by decide +kernel
theorem dX10_truncate_33 : decode cX10_truncate 33 = .ok (.iload_n 1, 1) := by decide +kernel
theorem dX10_truncate_34 : decode cX10_truncate 34 = .ok (.ireturn, 1) := by decide +kernel
def F_X10_truncate (a1 : Int32) (S : Nat → Nat → HV) : Option ((Int32 × (Nat → Nat → HV)) ⊕ (Nat × (Nat → Nat → HV))) := (if a1 < 0 then some (.inr (2, S)) else (if a1 ≤ ((S 11 4).1 1) then (lt (up S 11 (up (S 11) 4 (sS (S 11 4) 1 a1))) fun S1 => some (.inl (a1, S1))) else some (.inr (2, S))))
theorem c_X10_truncate {w : WP} (hW : gW w) (hS : gS w) {Ω : OM}  {S : Nat → Nat → HV} (e : Ω.1 = S) (a1 : Int32) {v : Int32} {S' : Nat → Nat → HV} (hF : F_X10_truncate a1 S = some (.inl (v, S'))) {Ω' : OM} (e2 : (S', Ω.2) = Ω') : gM w 6 yX10_truncate cX10_truncate 2 (some .int) [.ref (wAd w (7, 11, 6, 0)), .int a1] (cA w Ω) (some (.int v)) (cA w Ω') := by
  refine gM_of "HedgeMessages" rfl (by decide) (kR rfl) fun X C => ?_
  unfold F_X10_truncate at hF
  subst e2
  show gV w X _ _ 0 [(0, .ref (wAd w (7, 11, 6, 0))), (1, .int a1)] []
  refine r_ct (ct' := cA w (S, Ω.2)) (by rw [← e]) ?_
  refine r_iload_n C (k := 1) rfl rfl dX10_truncate_0 ?_
  refine r_if_lt C (tgt := 15) rfl dX10_truncate_1 (fun hc => ?_) (fun hc => ?_)
  · rw [if_pos hc] at hF
    cases hF
  · rw [if_neg hc] at hF
    refine r_iload_n C (k := 1) rfl rfl dX10_truncate_4 ?_
    refine r_aload_n C (k := 0) rfl rfl dX10_truncate_5 ?_
    refine og_7_5 C (hW.ok k7) wm2_164 dX10_truncate_6 ?_
    refine ogN_5_1 C (hW.ok k5) (congrFun (congrFun (show (S, Ω.2).1 = S from rfl) 11) 4) wm1_238 dX10_truncate_9 ?_
    refine r_icmp_le C (tgt := 25) rfl dX10_truncate_12 (fun hc => ?_) (fun hc => ?_)
    · rw [if_pos hc] at hF
      refine r_aload_n C (k := 0) rfl rfl dX10_truncate_25 ?_
      refine og_7_5 C (hW.ok k7) wm2_164 dX10_truncate_26 ?_
      refine r_iload_n C (k := 1) rfl rfl dX10_truncate_29 ?_
      obtain ⟨S1, eS1, hF⟩ := lt_e hF
      refine opN_5_1 C hW.x (Or.inl k5) (hW.fr k5) (congrFun (congrFun (show (S, Ω.2).1 = S from rfl) 11) 4) wm1_238 dX10_truncate_30 (congrArg (fun z => (z, Ω.2)) eS1) ?_
      refine r_iload_n C (k := 1) rfl rfl dX10_truncate_33 ?_
      cases hF
      exact r_ireturn C dX10_truncate_34
    · rw [if_neg hc] at hF
      cases hF
theorem x_X10_truncate {w : WP} (hW : gW w) (hS : gS w) (hZ : gZ w) {Ω : OM}  {S : Nat → Nat → HV} (e : Ω.1 = S) (a1 : Int32) {k9 : Nat} {S' : Nat → Nat → HV} (hF : F_X10_truncate a1 S = some (.inr (k9, S'))) {Ω' : OM} (e2 : (S', Ω.2) = Ω') : gMx w 6 yX10_truncate cX10_truncate 2 (some .int) [.ref (wAd w (7, 11, 6, 0)), .int a1] (cA w Ω) (xN k9) (cA w Ω') := by
  refine gMx_of "HedgeMessages" rfl (by decide) (kR rfl) fun X C hT9 => ?_
  unfold F_X10_truncate at hF
  subst e2
  show gU w X _ _ 0 [(0, .ref (wAd w (7, 11, 6, 0))), (1, .int a1)] []
  refine r_ct (ct' := cA w (S, Ω.2)) (by rw [← e]) ?_
  refine r_iload_n C (k := 1) rfl rfl dX10_truncate_0 ?_
  refine r_if_lt C (tgt := 15) rfl dX10_truncate_1 (fun hc => ?_) (fun hc => ?_)
  · rw [if_pos hc] at hF
    cases hF
    exact x_throwS C hZ hT9 (by decide +kernel) xK2 rfl xI2 xO2 ((hS.s C).imp fun _ _ _ h => h.2.2.1 5 (by decide)) (kR rfl) (kR rfl) dX10_truncate_15 dX10_truncate_18 dX10_truncate_19 dX10_truncate_21 dX10_truncate_24
  · rw [if_neg hc] at hF
    refine r_iload_n C (k := 1) rfl rfl dX10_truncate_4 ?_
    refine r_aload_n C (k := 0) rfl rfl dX10_truncate_5 ?_
    refine og_7_5 C (hW.ok k7) wm2_164 dX10_truncate_6 ?_
    refine ogN_5_1 C (hW.ok k5) (congrFun (congrFun (show (S, Ω.2).1 = S from rfl) 11) 4) wm1_238 dX10_truncate_9 ?_
    refine r_icmp_le C (tgt := 25) rfl dX10_truncate_12 (fun hc => ?_) (fun hc => ?_)
    · rw [if_pos hc] at hF
      refine r_aload_n C (k := 0) rfl rfl dX10_truncate_25 ?_
      refine og_7_5 C (hW.ok k7) wm2_164 dX10_truncate_26 ?_
      refine r_iload_n C (k := 1) rfl rfl dX10_truncate_29 ?_
      obtain ⟨S1, eS1, hF⟩ := lt_e hF
      refine opN_5_1 C hW.x (Or.inl k5) (hW.fr k5) (congrFun (congrFun (show (S, Ω.2).1 = S from rfl) 11) 4) wm1_238 dX10_truncate_30 (congrArg (fun z => (z, Ω.2)) eS1) ?_
      refine r_iload_n C (k := 1) rfl rfl dX10_truncate_33 ?_
      cases hF
    · rw [if_neg hc] at hF
      cases hF
      exact x_throwS C hZ hT9 (by decide +kernel) xK2 rfl xI2 xO2 ((hS.s C).imp fun _ _ _ h => h.2.2.1 5 (by decide)) (kR rfl) (kR rfl) dX10_truncate_15 dX10_truncate_18 dX10_truncate_19 dX10_truncate_21 dX10_truncate_24
theorem dX10_load_0 : decode cX10_load 0 = .ok (.aload_n 0, 1) := by decide +kernel
theorem dX10_load_1 : decode cX10_load 1 = .ok (.getfield 32, 3) := by decide +kernel
theorem dX10_load_4 : decode cX10_load 4 = .ok (.aload_n 0, 1) := by decide +kernel
theorem dX10_load_5 : decode cX10_load 5 = .ok (.getfield 16, 3) := by decide +kernel
theorem dX10_load_8 : decode cX10_load 8 = .ok (.invokestatic 93, 3) := by decide +kernel
theorem dX10_load_11 : decode cX10_load 11 = .ok (.istore_n 1, 1) := by decide +kernel
theorem dX10_load_12 : decode cX10_load 12 = .ok (.aload_n 0, 1) := by decide +kernel
theorem dX10_load_13 : decode cX10_load 13 = .ok (.getfield 32, 3) := by decide +kernel
theorem dX10_load_16 : decode cX10_load 16 = .ok (.iconst 0, 1) := by decide +kernel
theorem dX10_load_17 : decode cX10_load 17 = .ok (.putfield 74, 3) := by decide +kernel
theorem dX10_load_20 : decode cX10_load 20 = .ok (.iload_n 1, 1) := by decide +kernel
theorem dX10_load_21 : decode cX10_load 21 = .ok (.ifCond .ne 13, 3) := by decide +kernel
theorem dX10_load_24 : decode cX10_load 24 = .ok (.new 88, 3) := by decide +kernel
theorem dX10_load_27 : decode cX10_load 27 = .ok (.dup, 1) := by decide +kernel
theorem dX10_load_28 : decode cX10_load 28 = .ok (.ldc 99, 2) := by decide +kernel
theorem dX10_load_30 : decode cX10_load 30 = .ok (.invokespecial 92, 3) := by decide +kernel
theorem dX10_load_33 : decode cX10_load 33 = .ok (.athrow, 1) := by decide +kernel
theorem dX10_load_34 : decode cX10_load 34 = .ok (.aload_n 0, 1) := by decide +kernel
theorem dX10_load_35 : decode cX10_load 35 = .ok (.getfield 10, 3) := by decide +kernel
theorem dX10_load_38 : decode cX10_load 38 = .ok (.aload_n 0, 1) := by decide +kernel
theorem dX10_load_39 : decode cX10_load 39 = .ok (.getfield 16, 3) := by decide +kernel
theorem dX10_load_42 : decode cX10_load 42 = .ok (.invokevirtual 101, 3) := by decide +kernel
theorem dX10_load_45 : decode cX10_load 45 = .ok (.aload_n 0, 1) := by decide +kernel
theorem dX10_load_46 : decode cX10_load 46 = .ok (.getfield 25, 3) := by decide +kernel
theorem dX10_load_49 : decode cX10_load 49 = .ok (.invokevirtual 105, 3) := by decide +kernel
theorem dX10_load_52 : decode cX10_load 52 = .ok (.aload_n 0, 1) := by decide +kernel
theorem dX10_load_53 : decode cX10_load 53 = .ok (.getfield 10, 3) := by decide +kernel
theorem dX10_load_56 : decode cX10_load 56 = .ok (.getfield 108, 3) := by decide +kernel
theorem dX10_load_59 : decode cX10_load 59 = .ok (.ireturn, 1) := by decide +kernel
def F_X10_load (N : Nat) (S : Nat → Nat → HV) : Option ((Int32 × (Nat → Nat → HV)) ⊕ (Nat × (Nat → Nat → HV))) := (ob (F_X3_read N 1 S) fun v1 S2 => (lt (up S2 11 (up (S2 11) 4 (sS (S2 11 4) 1 0))) fun S3 => (if v1 = true then (lt (F_X5_copyFrom 0 1 S3) fun S5 => (lt (F_X6_forget S5) fun S7 => some (.inl (((S7 0 0).1 0), S7)))) else some (.inr (2, S3)))))
theorem c_X10_load {w : WP} (hW : gW w) (hS : gS w) {Ω : OM}  {S : Nat → Nat → HV} (e : Ω.1 = S) (N : Nat)  {v : Int32} {S' : Nat → Nat → HV} (hF : F_X10_load N S = some (.inl (v, S'))) {Ω' : OM} (e2 : (S', Ω.2) = Ω') : gM w 7 yX10_load cX10_load 2 (some .int) [.ref (wAd w (7, 11, 6, 0))] (cA w Ω) (some (.int v)) (cA w Ω') := by
  refine gM_of "HedgeMessages" rfl (by decide) (kR rfl) fun X C => ?_
  unfold F_X10_load at hF
  subst e2
  show gV w X _ _ 0 [(0, .ref (wAd w (7, 11, 6, 0)))] []
  refine r_ct (ct' := cA w (S, Ω.2)) (by rw [← e]) ?_
  refine r_aload_n C (k := 0) rfl rfl dX10_load_0 ?_
  refine og_7_5 C (hW.ok k7) wm2_164 dX10_load_1 ?_
  refine r_aload_n C (k := 0) rfl rfl dX10_load_4 ?_
  refine og_7_1 C (hW.ok k7) wm2_160 dX10_load_5 ?_
  obtain ⟨v1, S2, hS2, hF⟩ := ob_e hF
  refine r_callS C (d' := 6) [.ref (wAd w (5, 11, 4, 0)), .ref (wAd w (0, 1, 0, 0))] (c_X3_read hW hS (show (S, Ω.2).1 = S from rfl) N 1 (by decide) hS2 rfl) myX3_read wm3_102 rfl (kR rfl) (by decide) (kR rfl) rfl dX10_load_8 ?_
  refine r_istore_n C (lo' := [(1, .int (b2i v1)), (0, .ref (wAd w (7, 11, 6, 0)))]) rfl (by decide) rfl dX10_load_11 ?_
  refine r_aload_n C (k := 1) rfl rfl dX10_load_12 ?_
  refine og_7_5 C (hW.ok k7) wm2_164 dX10_load_13 ?_
  refine r_iconst C (v := 0) rfl dX10_load_16 ?_
  obtain ⟨S3, eS3, hF⟩ := lt_e hF
  refine opN_5_1 C hW.x (Or.inl k5) (hW.fr k5) (congrFun (congrFun (show (S2, Ω.2).1 = S2 from rfl) 11) 4) wm1_238 dX10_load_17 (congrArg (fun z => (z, Ω.2)) eS3) ?_
  refine r_iload_n C (k := 0) rfl rfl dX10_load_20 ?_
  refine r_if_ne C (tgt := 34) rfl dX10_load_21 (fun hc => ?_) (fun hc => ?_)
  · rw [if_pos (b2i_t hc)] at hF
    refine r_aload_n C (k := 1) rfl rfl dX10_load_34 ?_
    refine og_7_0 C (hW.ok k7) wm2_159 dX10_load_35 ?_
    refine r_aload_n C (k := 1) rfl rfl dX10_load_38 ?_
    refine og_7_1 C (hW.ok k7) wm2_160 dX10_load_39 ?_
    obtain ⟨S5, hS5, hF⟩ := lt_e hF
    refine r_callV C (d' := 4) [.ref (wAd w (0, 1, 0, 0))] (c_X5_copyFrom hW (by decide) (by decide) (show (S3, Ω.2).1 = S3 from rfl) hS5 rfl) myX5_copyFrom wm2_195 ⟨_, _, _, _, (hW.ok (k0 (by decide))), rfl, rfl, rfl, rfl⟩ rfl (kR rfl) (by decide) (kR rfl) rfl dX10_load_42 ?_
    refine r_aload_n C (k := 1) rfl rfl dX10_load_45 ?_
    refine og_7_4 C (hW.ok k7) wm2_163 dX10_load_46 ?_
    obtain ⟨S7, hS7, hF⟩ := lt_e hF
    refine r_callV C (d' := 0) [] (c_X6_forget hW (show (S5, Ω.2).1 = S5 from rfl) hS7 rfl) myX6_forget wm3_45 ⟨_, _, _, _, (hW.ok k8), rfl, rfl, rfl, rfl⟩ rfl (kR rfl) (by decide) (kR rfl) rfl dX10_load_49 ?_
    refine r_aload_n C (k := 1) rfl rfl dX10_load_52 ?_
    refine og_7_0 C (hW.ok k7) wm2_159 dX10_load_53 ?_
    refine ogN_0_0 C (hW.ok (k0 (by decide))) (congrFun (congrFun (show (S7, Ω.2).1 = S7 from rfl) 0) 0) wm1_134 dX10_load_56 ?_
    cases hF
    exact r_ireturn C dX10_load_59
  · rw [if_neg (b2i_f hc)] at hF
    cases hF
theorem x_X10_load {w : WP} (hW : gW w) (hS : gS w) (hZ : gZ w) {Ω : OM}  {S : Nat → Nat → HV} (e : Ω.1 = S) (N : Nat)  {k9 : Nat} {S' : Nat → Nat → HV} (hF : F_X10_load N S = some (.inr (k9, S'))) {Ω' : OM} (e2 : (S', Ω.2) = Ω') : gMx w 7 yX10_load cX10_load 2 (some .int) [.ref (wAd w (7, 11, 6, 0))] (cA w Ω) (xN k9) (cA w Ω') := by
  refine gMx_of "HedgeMessages" rfl (by decide) (kR rfl) fun X C hT9 => ?_
  unfold F_X10_load at hF
  subst e2
  show gU w X _ _ 0 [(0, .ref (wAd w (7, 11, 6, 0)))] []
  refine r_ct (ct' := cA w (S, Ω.2)) (by rw [← e]) ?_
  refine r_aload_n C (k := 0) rfl rfl dX10_load_0 ?_
  refine og_7_5 C (hW.ok k7) wm2_164 dX10_load_1 ?_
  refine r_aload_n C (k := 0) rfl rfl dX10_load_4 ?_
  refine og_7_1 C (hW.ok k7) wm2_160 dX10_load_5 ?_
  obtain ⟨v1, S2, hS2, hF⟩ := ob_e hF
  refine r_callS C (d' := 6) [.ref (wAd w (5, 11, 4, 0)), .ref (wAd w (0, 1, 0, 0))] (c_X3_read hW hS (show (S, Ω.2).1 = S from rfl) N 1 (by decide) hS2 rfl) myX3_read wm3_102 rfl (kR rfl) (by decide) (kR rfl) rfl dX10_load_8 ?_
  refine r_istore_n C (lo' := [(1, .int (b2i v1)), (0, .ref (wAd w (7, 11, 6, 0)))]) rfl (by decide) rfl dX10_load_11 ?_
  refine r_aload_n C (k := 1) rfl rfl dX10_load_12 ?_
  refine og_7_5 C (hW.ok k7) wm2_164 dX10_load_13 ?_
  refine r_iconst C (v := 0) rfl dX10_load_16 ?_
  obtain ⟨S3, eS3, hF⟩ := lt_e hF
  refine opN_5_1 C hW.x (Or.inl k5) (hW.fr k5) (congrFun (congrFun (show (S2, Ω.2).1 = S2 from rfl) 11) 4) wm1_238 dX10_load_17 (congrArg (fun z => (z, Ω.2)) eS3) ?_
  refine r_iload_n C (k := 0) rfl rfl dX10_load_20 ?_
  refine r_if_ne C (tgt := 34) rfl dX10_load_21 (fun hc => ?_) (fun hc => ?_)
  · rw [if_pos (b2i_t hc)] at hF
    refine r_aload_n C (k := 1) rfl rfl dX10_load_34 ?_
    refine og_7_0 C (hW.ok k7) wm2_159 dX10_load_35 ?_
    refine r_aload_n C (k := 1) rfl rfl dX10_load_38 ?_
    refine og_7_1 C (hW.ok k7) wm2_160 dX10_load_39 ?_
    obtain ⟨S5, hS5, hF⟩ := lt_e hF
    refine r_callV C (d' := 4) [.ref (wAd w (0, 1, 0, 0))] (c_X5_copyFrom hW (by decide) (by decide) (show (S3, Ω.2).1 = S3 from rfl) hS5 rfl) myX5_copyFrom wm2_195 ⟨_, _, _, _, (hW.ok (k0 (by decide))), rfl, rfl, rfl, rfl⟩ rfl (kR rfl) (by decide) (kR rfl) rfl dX10_load_42 ?_
    refine r_aload_n C (k := 1) rfl rfl dX10_load_45 ?_
    refine og_7_4 C (hW.ok k7) wm2_163 dX10_load_46 ?_
    obtain ⟨S7, hS7, hF⟩ := lt_e hF
    refine r_callV C (d' := 0) [] (c_X6_forget hW (show (S5, Ω.2).1 = S5 from rfl) hS7 rfl) myX6_forget wm3_45 ⟨_, _, _, _, (hW.ok k8), rfl, rfl, rfl, rfl⟩ rfl (kR rfl) (by decide) (kR rfl) rfl dX10_load_49 ?_
    refine r_aload_n C (k := 1) rfl rfl dX10_load_52 ?_
    refine og_7_0 C (hW.ok k7) wm2_159 dX10_load_53 ?_
    refine ogN_0_0 C (hW.ok (k0 (by decide))) (congrFun (congrFun (show (S7, Ω.2).1 = S7 from rfl) 0) 0) wm1_134 dX10_load_56 ?_
    cases hF
  · rw [if_neg (b2i_f hc)] at hF
    cases hF
    exact x_throwS C hZ hT9 (by decide +kernel) xK2 rfl xI2 xO2 ((hS.s C).imp fun _ _ _ h => h.2.2.1 10 (by decide)) (kR rfl) (kR rfl) dX10_load_24 dX10_load_27 dX10_load_28 dX10_load_30 dX10_load_33
theorem dX10_requireSlot_0 : decode cX10_requireSlot 0 = .ok (.aload_n 0, 1) := by decide +kernel
theorem dX10_requireSlot_1 : decode cX10_requireSlot 1 = .ok (.getfield 10, 3) := by decide +kernel
theorem dX10_requireSlot_4 : decode cX10_requireSlot 4 = .ok (.iload_n 1, 1) := by decide +kernel
theorem dX10_requireSlot_5 : decode cX10_requireSlot 5 = .ok (.invokevirtual 388, 3) := by decide +kernel
theorem dX10_requireSlot_8 : decode cX10_requireSlot 8 = .ok (.ifCond .ne 14, 3) := by decide +kernel
theorem dX10_requireSlot_11 : decode cX10_requireSlot 11 = .ok (.new 357, 3) := by decide +kernel
theorem dX10_requireSlot_14 : decode cX10_requireSlot 14 = .ok (.dup, 1) := by decide +kernel
theorem dX10_requireSlot_15 : decode cX10_requireSlot 15 = .ok (.ldc_w 391, 3) := by decide +kernel
theorem dX10_requireSlot_18 : decode cX10_requireSlot 18 = .ok (.invokespecial 361, 3) := by decide +kernel
theorem dX10_requireSlot_21 : decode cX10_requireSlot 21 = .ok (.athrow, 1) := by decide +kernel
theorem dX10_requireSlot_22 : decode cX10_requireSlot 22 = .ok (.return_, 1) := by decide +kernel
def F_X10_requireSlot (a1 : Int32) (S : Nat → Nat → HV) : Option ((Unit) ⊕ Nat) := (if (F_X5_hasSlot a1 (S 0)) = true then some (.inl ()) else some (.inr 3))
theorem c_X10_requireSlot {w : WP} (hW : gW w) (hS : gS w) {Ω : OM}  {S : Nat → Nat → HV} (e : Ω.1 = S) (a1 : Int32) (hF : F_X10_requireSlot a1 S = some (.inl ())) : gM w 6 yX10_requireSlot cX10_requireSlot 2 none [.ref (wAd w (7, 11, 6, 0)), .int a1] (cA w Ω) none (cA w Ω) := by
  refine gM_of "HedgeMessages" rfl (by decide) (kR rfl) fun X C => ?_
  unfold F_X10_requireSlot at hF
  show gV w X _ _ 0 [(0, .ref (wAd w (7, 11, 6, 0))), (1, .int a1)] []
  refine r_aload_n C (k := 0) rfl rfl dX10_requireSlot_0 ?_
  refine og_7_0 C (hW.ok k7) wm2_159 dX10_requireSlot_1 ?_
  refine r_iload_n C (k := 1) rfl rfl dX10_requireSlot_4 ?_
  refine r_callV C (d' := 0) [.int a1] (c_X5_hasSlot hW (by decide) (congrFun e 0) a1 rfl) myX5_hasSlot wm3_206 ⟨_, _, _, _, (hW.ok (k0 (by decide))), rfl, rfl, rfl, rfl⟩ rfl (kR rfl) (by decide) (kR rfl) rfl dX10_requireSlot_5 ?_
  refine r_if_ne C (tgt := 22) rfl dX10_requireSlot_8 (fun hc => ?_) (fun hc => ?_)
  · rw [if_pos (b2i_t hc)] at hF
    cases hF
    exact r_return C dX10_requireSlot_22
  · rw [if_neg (b2i_f hc)] at hF
    cases hF
theorem x_X10_requireSlot {w : WP} (hW : gW w) (hS : gS w) (hZ : gZ w) {Ω : OM}  {S : Nat → Nat → HV} (e : Ω.1 = S) (a1 : Int32) {k9 : Nat} (hF : F_X10_requireSlot a1 S = some (.inr k9)) : gMx w 6 yX10_requireSlot cX10_requireSlot 2 none [.ref (wAd w (7, 11, 6, 0)), .int a1] (cA w Ω) (xN k9) (cA w Ω) := by
  refine gMx_of "HedgeMessages" rfl (by decide) (kR rfl) fun X C hT9 => ?_
  unfold F_X10_requireSlot at hF
  show gU w X _ _ 0 [(0, .ref (wAd w (7, 11, 6, 0))), (1, .int a1)] []
  refine r_aload_n C (k := 0) rfl rfl dX10_requireSlot_0 ?_
  refine og_7_0 C (hW.ok k7) wm2_159 dX10_requireSlot_1 ?_
  refine r_iload_n C (k := 1) rfl rfl dX10_requireSlot_4 ?_
  refine r_callV C (d' := 0) [.int a1] (c_X5_hasSlot hW (by decide) (congrFun e 0) a1 rfl) myX5_hasSlot wm3_206 ⟨_, _, _, _, (hW.ok (k0 (by decide))), rfl, rfl, rfl, rfl⟩ rfl (kR rfl) (by decide) (kR rfl) rfl dX10_requireSlot_5 ?_
  refine r_if_ne C (tgt := 22) rfl dX10_requireSlot_8 (fun hc => ?_) (fun hc => ?_)
  · rw [if_pos (b2i_t hc)] at hF
    cases hF
  · rw [if_neg (b2i_f hc)] at hF
    cases hF
    exact x_throwSW C hZ hT9 (by decide +kernel) xK3 rfl xI3 xO3 ((hS.s C).imp fun _ _ _ h => h.2.2.1 11 (by decide)) (kR rfl) (kR rfl) dX10_requireSlot_11 dX10_requireSlot_14 dX10_requireSlot_15 dX10_requireSlot_18 dX10_requireSlot_21
theorem dX10_letterAt_0 : decode cX10_letterAt 0 = .ok (.aload_n 0, 1) := by decide +kernel
theorem dX10_letterAt_1 : decode cX10_letterAt 1 = .ok (.iload_n 1, 1) := by decide +kernel
theorem dX10_letterAt_2 : decode cX10_letterAt 2 = .ok (.invokevirtual 148, 3) := by decide +kernel
theorem dX10_letterAt_5 : decode cX10_letterAt 5 = .ok (.aload_n 0, 1) := by decide +kernel
theorem dX10_letterAt_6 : decode cX10_letterAt 6 = .ok (.getfield 10, 3) := by decide +kernel
theorem dX10_letterAt_9 : decode cX10_letterAt 9 = .ok (.iload_n 1, 1) := by decide +kernel
theorem dX10_letterAt_10 : decode cX10_letterAt 10 = .ok (.invokevirtual 151, 3) := by decide +kernel
theorem dX10_letterAt_13 : decode cX10_letterAt 13 = .ok (.ifCond .eq 17, 3) := by decide +kernel
theorem dX10_letterAt_16 : decode cX10_letterAt 16 = .ok (.aload_n 0, 1) := by decide +kernel
theorem dX10_letterAt_17 : decode cX10_letterAt 17 = .ok (.getfield 10, 3) := by decide +kernel
theorem dX10_letterAt_20 : decode cX10_letterAt 20 = .ok (.getfield 154, 3) := by decide +kernel
theorem dX10_letterAt_23 : decode cX10_letterAt 23 = .ok (.iload_n 1, 1) := by decide +kernel
theorem dX10_letterAt_24 : decode cX10_letterAt 24 = .ok (.invokevirtual 157, 3) := by decide +kernel
theorem dX10_letterAt_27 : decode cX10_letterAt 27 = .ok (.goto 4, 3) := by decide +kernel
theorem dX10_letterAt_30 : decode cX10_letterAt 30 = .ok (.iconst (-1), 1) := by decide +kernel
theorem dX10_letterAt_31 : decode cX10_letterAt 31 = .ok (.ireturn, 1) := by decide +kernel
def F_X10_letterAt (a1 : Int32) (S : Nat → Nat → HV) : Option ((Int32) ⊕ Nat) := (ox (F_X10_requireSlot a1 S) (fun k9 => some (.inr k9)) fun u1 => (if (F_X5_hasTwig a1 (S 0)) = true then some (.inl (rget 40 ((S 0 0).2 0) a1)) else some (.inl (-1))))
theorem c_X10_letterAt {w : WP} (hW : gW w) (hS : gS w) {Ω : OM}  {S : Nat → Nat → HV} (e : Ω.1 = S) (a1 : Int32) {v : Int32} (hF : F_X10_letterAt a1 S = some (.inl v)) : gM w 7 yX10_letterAt cX10_letterAt 2 (some .int) [.ref (wAd w (7, 11, 6, 0)), .int a1] (cA w Ω) (some (.int v)) (cA w Ω) := by
  refine gM_of "HedgeMessages" rfl (by decide) (kR rfl) fun X C => ?_
  unfold F_X10_letterAt at hF
  show gV w X _ _ 0 [(0, .ref (wAd w (7, 11, 6, 0))), (1, .int a1)] []
  refine r_aload_n C (k := 0) rfl rfl dX10_letterAt_0 ?_
  refine r_iload_n C (k := 1) rfl rfl dX10_letterAt_1 ?_
  rcases ox_e hF with ⟨u1, hu1, hF⟩ | ⟨kx2, hkx2, hF⟩
  rotate_left
  · cases hF
  refine r_callV C (d' := 6) [.int a1] (c_X10_requireSlot hW hS e a1 hu1) myX10_requireSlot wm3_202 ⟨_, _, _, _, (hW.ok k7), rfl, rfl, rfl, rfl⟩ rfl (kR rfl) (by decide) (kR rfl) rfl dX10_letterAt_2 ?_
  refine r_aload_n C (k := 0) rfl rfl dX10_letterAt_5 ?_
  refine og_7_0 C (hW.ok k7) wm2_159 dX10_letterAt_6 ?_
  refine r_iload_n C (k := 1) rfl rfl dX10_letterAt_9 ?_
  refine r_callV C (d' := 1) [.int a1] (c_X5_hasTwig hW (by decide) (congrFun e 0) a1 rfl) myX5_hasTwig wm5_16 ⟨_, _, _, _, (hW.ok (k0 (by decide))), rfl, rfl, rfl, rfl⟩ rfl (kR rfl) (by decide) (kR rfl) rfl dX10_letterAt_10 ?_
  refine r_if_eq C (tgt := 30) rfl dX10_letterAt_13 (fun hc => ?_) (fun hc => ?_)
  · rw [if_neg (b2i_f hc)] at hF
    refine r_iconst C (v := (-1)) (by decide) dX10_letterAt_30 ?_
    cases hF
    exact r_ireturn C dX10_letterAt_31
  · rw [if_pos (b2i_t hc)] at hF
    refine r_aload_n C (k := 0) rfl rfl dX10_letterAt_16 ?_
    refine og_7_0 C (hW.ok k7) wm2_159 dX10_letterAt_17 ?_
    refine ogN_0_8 C (hW.ok (k0 (by decide))) wm1_147 dX10_letterAt_20 ?_
    refine r_iload_n C (k := 1) rfl rfl dX10_letterAt_23 ?_
    refine r_callV C (d' := 0) [.int a1] (c_rget (hW.ok (i := (3, 0, 0, 0)) (q0 (by decide) (kR rfl))) (hW.ok (i := (4, 0, 0, 0)) (q0 (by decide) (kR rfl))) (show rlen 0 0 = 40 from rfl) (by decide) (congrArg (fun z => z.2 0) (congrFun (congrFun e 0) 0)) rfl) myX8_get wm4_45 ⟨_, _, _, _, (hW.ok (i := (3, 0, 0, 0)) (q0 (by decide) (kR rfl))), rfl, rfl, rfl, rfl⟩ rfl (kR rfl) (by decide) (kR rfl) rfl dX10_letterAt_24 ?_
    refine r_goto C (tgt := 31) rfl dX10_letterAt_27 ?_
    cases hF
    exact r_ireturn C dX10_letterAt_31
theorem x_X10_letterAt {w : WP} (hW : gW w) (hS : gS w) (hZ : gZ w) {Ω : OM}  {S : Nat → Nat → HV} (e : Ω.1 = S) (a1 : Int32) {k9 : Nat} (hF : F_X10_letterAt a1 S = some (.inr k9)) : gMx w 7 yX10_letterAt cX10_letterAt 2 (some .int) [.ref (wAd w (7, 11, 6, 0)), .int a1] (cA w Ω) (xN k9) (cA w Ω) := by
  refine gMx_of "HedgeMessages" rfl (by decide) (kR rfl) fun X C hT9 => ?_
  unfold F_X10_letterAt at hF
  show gU w X _ _ 0 [(0, .ref (wAd w (7, 11, 6, 0))), (1, .int a1)] []
  refine r_aload_n C (k := 0) rfl rfl dX10_letterAt_0 ?_
  refine r_iload_n C (k := 1) rfl rfl dX10_letterAt_1 ?_
  rcases ox_e hF with ⟨u1, hu1, hF⟩ | ⟨kx2, hkx2, hF⟩
  rotate_left
  · cases hF
    exact x_callV C hT9 (d' := 6) [.int a1] (x_X10_requireSlot hW hS hZ e a1 hkx2) myX10_requireSlot wm3_202 ⟨_, _, _, _, (hW.ok k7), rfl, rfl, rfl, rfl⟩ rfl (kR rfl) (by decide) (kR rfl) rfl dX10_letterAt_2
  refine r_callV C (d' := 6) [.int a1] (c_X10_requireSlot hW hS e a1 hu1) myX10_requireSlot wm3_202 ⟨_, _, _, _, (hW.ok k7), rfl, rfl, rfl, rfl⟩ rfl (kR rfl) (by decide) (kR rfl) rfl dX10_letterAt_2 ?_
  refine r_aload_n C (k := 0) rfl rfl dX10_letterAt_5 ?_
  refine og_7_0 C (hW.ok k7) wm2_159 dX10_letterAt_6 ?_
  refine r_iload_n C (k := 1) rfl rfl dX10_letterAt_9 ?_
  refine r_callV C (d' := 1) [.int a1] (c_X5_hasTwig hW (by decide) (congrFun e 0) a1 rfl) myX5_hasTwig wm5_16 ⟨_, _, _, _, (hW.ok (k0 (by decide))), rfl, rfl, rfl, rfl⟩ rfl (kR rfl) (by decide) (kR rfl) rfl dX10_letterAt_10 ?_
  refine r_if_eq C (tgt := 30) rfl dX10_letterAt_13 (fun hc => ?_) (fun hc => ?_)
  · rw [if_neg (b2i_f hc)] at hF
    refine r_iconst C (v := (-1)) (by decide) dX10_letterAt_30 ?_
    cases hF
  · rw [if_pos (b2i_t hc)] at hF
    refine r_aload_n C (k := 0) rfl rfl dX10_letterAt_16 ?_
    refine og_7_0 C (hW.ok k7) wm2_159 dX10_letterAt_17 ?_
    refine ogN_0_8 C (hW.ok (k0 (by decide))) wm1_147 dX10_letterAt_20 ?_
    refine r_iload_n C (k := 1) rfl rfl dX10_letterAt_23 ?_
    refine r_callV C (d' := 0) [.int a1] (c_rget (hW.ok (i := (3, 0, 0, 0)) (q0 (by decide) (kR rfl))) (hW.ok (i := (4, 0, 0, 0)) (q0 (by decide) (kR rfl))) (show rlen 0 0 = 40 from rfl) (by decide) (congrArg (fun z => z.2 0) (congrFun (congrFun e 0) 0)) rfl) myX8_get wm4_45 ⟨_, _, _, _, (hW.ok (i := (3, 0, 0, 0)) (q0 (by decide) (kR rfl))), rfl, rfl, rfl, rfl⟩ rfl (kR rfl) (by decide) (kR rfl) rfl dX10_letterAt_24 ?_
    refine r_goto C (tgt := 31) rfl dX10_letterAt_27 ?_
    cases hF
theorem dX10_ownerAt_0 : decode cX10_ownerAt 0 = .ok (.aload_n 0, 1) := by decide +kernel
theorem dX10_ownerAt_1 : decode cX10_ownerAt 1 = .ok (.iload_n 1, 1) := by decide +kernel
theorem dX10_ownerAt_2 : decode cX10_ownerAt 2 = .ok (.invokevirtual 148, 3) := by decide +kernel
theorem dX10_ownerAt_5 : decode cX10_ownerAt 5 = .ok (.aload_n 0, 1) := by decide +kernel
theorem dX10_ownerAt_6 : decode cX10_ownerAt 6 = .ok (.getfield 10, 3) := by decide +kernel
theorem dX10_ownerAt_9 : decode cX10_ownerAt 9 = .ok (.iload_n 1, 1) := by decide +kernel
theorem dX10_ownerAt_10 : decode cX10_ownerAt 10 = .ok (.invokevirtual 151, 3) := by decide +kernel
theorem dX10_ownerAt_13 : decode cX10_ownerAt 13 = .ok (.ifCond .eq 17, 3) := by decide +kernel
theorem dX10_ownerAt_16 : decode cX10_ownerAt 16 = .ok (.aload_n 0, 1) := by decide +kernel
theorem dX10_ownerAt_17 : decode cX10_ownerAt 17 = .ok (.getfield 10, 3) := by decide +kernel
theorem dX10_ownerAt_20 : decode cX10_ownerAt 20 = .ok (.getfield 161, 3) := by decide +kernel
theorem dX10_ownerAt_23 : decode cX10_ownerAt 23 = .ok (.iload_n 1, 1) := by decide +kernel
theorem dX10_ownerAt_24 : decode cX10_ownerAt 24 = .ok (.invokevirtual 157, 3) := by decide +kernel
theorem dX10_ownerAt_27 : decode cX10_ownerAt 27 = .ok (.goto 4, 3) := by decide +kernel
theorem dX10_ownerAt_30 : decode cX10_ownerAt 30 = .ok (.iconst (-1), 1) := by decide +kernel
theorem dX10_ownerAt_31 : decode cX10_ownerAt 31 = .ok (.ireturn, 1) := by decide +kernel
def F_X10_ownerAt (a1 : Int32) (S : Nat → Nat → HV) : Option ((Int32) ⊕ Nat) := (ox (F_X10_requireSlot a1 S) (fun k9 => some (.inr k9)) fun u1 => (if (F_X5_hasTwig a1 (S 0)) = true then some (.inl (rget 40 ((S 0 0).2 1) a1)) else some (.inl (-1))))
theorem c_X10_ownerAt {w : WP} (hW : gW w) (hS : gS w) {Ω : OM}  {S : Nat → Nat → HV} (e : Ω.1 = S) (a1 : Int32) {v : Int32} (hF : F_X10_ownerAt a1 S = some (.inl v)) : gM w 7 yX10_ownerAt cX10_ownerAt 2 (some .int) [.ref (wAd w (7, 11, 6, 0)), .int a1] (cA w Ω) (some (.int v)) (cA w Ω) := by
  refine gM_of "HedgeMessages" rfl (by decide) (kR rfl) fun X C => ?_
  unfold F_X10_ownerAt at hF
  show gV w X _ _ 0 [(0, .ref (wAd w (7, 11, 6, 0))), (1, .int a1)] []
  refine r_aload_n C (k := 0) rfl rfl dX10_ownerAt_0 ?_
  refine r_iload_n C (k := 1) rfl rfl dX10_ownerAt_1 ?_
  rcases ox_e hF with ⟨u1, hu1, hF⟩ | ⟨kx2, hkx2, hF⟩
  rotate_left
  · cases hF
  refine r_callV C (d' := 6) [.int a1] (c_X10_requireSlot hW hS e a1 hu1) myX10_requireSlot wm3_202 ⟨_, _, _, _, (hW.ok k7), rfl, rfl, rfl, rfl⟩ rfl (kR rfl) (by decide) (kR rfl) rfl dX10_ownerAt_2 ?_
  refine r_aload_n C (k := 0) rfl rfl dX10_ownerAt_5 ?_
  refine og_7_0 C (hW.ok k7) wm2_159 dX10_ownerAt_6 ?_
  refine r_iload_n C (k := 1) rfl rfl dX10_ownerAt_9 ?_
  refine r_callV C (d' := 1) [.int a1] (c_X5_hasTwig hW (by decide) (congrFun e 0) a1 rfl) myX5_hasTwig wm5_16 ⟨_, _, _, _, (hW.ok (k0 (by decide))), rfl, rfl, rfl, rfl⟩ rfl (kR rfl) (by decide) (kR rfl) rfl dX10_ownerAt_10 ?_
  refine r_if_eq C (tgt := 30) rfl dX10_ownerAt_13 (fun hc => ?_) (fun hc => ?_)
  · rw [if_neg (b2i_f hc)] at hF
    refine r_iconst C (v := (-1)) (by decide) dX10_ownerAt_30 ?_
    cases hF
    exact r_ireturn C dX10_ownerAt_31
  · rw [if_pos (b2i_t hc)] at hF
    refine r_aload_n C (k := 0) rfl rfl dX10_ownerAt_16 ?_
    refine og_7_0 C (hW.ok k7) wm2_159 dX10_ownerAt_17 ?_
    refine ogN_0_9 C (hW.ok (k0 (by decide))) wm1_149 dX10_ownerAt_20 ?_
    refine r_iload_n C (k := 1) rfl rfl dX10_ownerAt_23 ?_
    refine r_callV C (d' := 0) [.int a1] (c_rget (hW.ok (i := (3, 0, 0, 1)) (q0 (by decide) (kR rfl))) (hW.ok (i := (4, 0, 0, 1)) (q0 (by decide) (kR rfl))) (show rlen 0 1 = 40 from rfl) (by decide) (congrArg (fun z => z.2 1) (congrFun (congrFun e 0) 0)) rfl) myX8_get wm4_45 ⟨_, _, _, _, (hW.ok (i := (3, 0, 0, 1)) (q0 (by decide) (kR rfl))), rfl, rfl, rfl, rfl⟩ rfl (kR rfl) (by decide) (kR rfl) rfl dX10_ownerAt_24 ?_
    refine r_goto C (tgt := 31) rfl dX10_ownerAt_27 ?_
    cases hF
    exact r_ireturn C dX10_ownerAt_31
theorem x_X10_ownerAt {w : WP} (hW : gW w) (hS : gS w) (hZ : gZ w) {Ω : OM}  {S : Nat → Nat → HV} (e : Ω.1 = S) (a1 : Int32) {k9 : Nat} (hF : F_X10_ownerAt a1 S = some (.inr k9)) : gMx w 7 yX10_ownerAt cX10_ownerAt 2 (some .int) [.ref (wAd w (7, 11, 6, 0)), .int a1] (cA w Ω) (xN k9) (cA w Ω) := by
  refine gMx_of "HedgeMessages" rfl (by decide) (kR rfl) fun X C hT9 => ?_
  unfold F_X10_ownerAt at hF
  show gU w X _ _ 0 [(0, .ref (wAd w (7, 11, 6, 0))), (1, .int a1)] []
  refine r_aload_n C (k := 0) rfl rfl dX10_ownerAt_0 ?_
  refine r_iload_n C (k := 1) rfl rfl dX10_ownerAt_1 ?_
  rcases ox_e hF with ⟨u1, hu1, hF⟩ | ⟨kx2, hkx2, hF⟩
  rotate_left
  · cases hF
    exact x_callV C hT9 (d' := 6) [.int a1] (x_X10_requireSlot hW hS hZ e a1 hkx2) myX10_requireSlot wm3_202 ⟨_, _, _, _, (hW.ok k7), rfl, rfl, rfl, rfl⟩ rfl (kR rfl) (by decide) (kR rfl) rfl dX10_ownerAt_2
  refine r_callV C (d' := 6) [.int a1] (c_X10_requireSlot hW hS e a1 hu1) myX10_requireSlot wm3_202 ⟨_, _, _, _, (hW.ok k7), rfl, rfl, rfl, rfl⟩ rfl (kR rfl) (by decide) (kR rfl) rfl dX10_ownerAt_2 ?_
  refine r_aload_n C (k := 0) rfl rfl dX10_ownerAt_5 ?_
  refine og_7_0 C (hW.ok k7) wm2_159 dX10_ownerAt_6 ?_
  refine r_iload_n C (k := 1) rfl rfl dX10_ownerAt_9 ?_
  refine r_callV C (d' := 1) [.int a1] (c_X5_hasTwig hW (by decide) (congrFun e 0) a1 rfl) myX5_hasTwig wm5_16 ⟨_, _, _, _, (hW.ok (k0 (by decide))), rfl, rfl, rfl, rfl⟩ rfl (kR rfl) (by decide) (kR rfl) rfl dX10_ownerAt_10 ?_
  refine r_if_eq C (tgt := 30) rfl dX10_ownerAt_13 (fun hc => ?_) (fun hc => ?_)
  · rw [if_neg (b2i_f hc)] at hF
    refine r_iconst C (v := (-1)) (by decide) dX10_ownerAt_30 ?_
    cases hF
  · rw [if_pos (b2i_t hc)] at hF
    refine r_aload_n C (k := 0) rfl rfl dX10_ownerAt_16 ?_
    refine og_7_0 C (hW.ok k7) wm2_159 dX10_ownerAt_17 ?_
    refine ogN_0_9 C (hW.ok (k0 (by decide))) wm1_149 dX10_ownerAt_20 ?_
    refine r_iload_n C (k := 1) rfl rfl dX10_ownerAt_23 ?_
    refine r_callV C (d' := 0) [.int a1] (c_rget (hW.ok (i := (3, 0, 0, 1)) (q0 (by decide) (kR rfl))) (hW.ok (i := (4, 0, 0, 1)) (q0 (by decide) (kR rfl))) (show rlen 0 1 = 40 from rfl) (by decide) (congrArg (fun z => z.2 1) (congrFun (congrFun e 0) 0)) rfl) myX8_get wm4_45 ⟨_, _, _, _, (hW.ok (i := (3, 0, 0, 1)) (q0 (by decide) (kR rfl))), rfl, rfl, rfl, rfl⟩ rfl (kR rfl) (by decide) (kR rfl) rfl dX10_ownerAt_24 ?_
    refine r_goto C (tgt := 31) rfl dX10_ownerAt_27 ?_
    cases hF
theorem dX10_lengthAt_0 : decode cX10_lengthAt 0 = .ok (.aload_n 0, 1) := by decide +kernel
theorem dX10_lengthAt_1 : decode cX10_lengthAt 1 = .ok (.iload_n 1, 1) := by decide +kernel
theorem dX10_lengthAt_2 : decode cX10_lengthAt 2 = .ok (.invokevirtual 148, 3) := by decide +kernel
theorem dX10_lengthAt_5 : decode cX10_lengthAt 5 = .ok (.aload_n 0, 1) := by decide +kernel
theorem dX10_lengthAt_6 : decode cX10_lengthAt 6 = .ok (.getfield 10, 3) := by decide +kernel
theorem dX10_lengthAt_9 : decode cX10_lengthAt 9 = .ok (.getfield 164, 3) := by decide +kernel
theorem dX10_lengthAt_12 : decode cX10_lengthAt 12 = .ok (.iload_n 1, 1) := by decide +kernel
theorem dX10_lengthAt_13 : decode cX10_lengthAt 13 = .ok (.invokevirtual 157, 3) := by decide +kernel
theorem dX10_lengthAt_16 : decode cX10_lengthAt 16 = .ok (.ireturn, 1) := by decide +kernel
def F_X10_lengthAt (a1 : Int32) (S : Nat → Nat → HV) : Option ((Int32) ⊕ Nat) := (ox (F_X10_requireSlot a1 S) (fun k9 => some (.inr k9)) fun u1 => some (.inl (rget 40 ((S 0 0).2 2) a1)))
theorem c_X10_lengthAt {w : WP} (hW : gW w) (hS : gS w) {Ω : OM}  {S : Nat → Nat → HV} (e : Ω.1 = S) (a1 : Int32) {v : Int32} (hF : F_X10_lengthAt a1 S = some (.inl v)) : gM w 7 yX10_lengthAt cX10_lengthAt 2 (some .int) [.ref (wAd w (7, 11, 6, 0)), .int a1] (cA w Ω) (some (.int v)) (cA w Ω) := by
  refine gM_of "HedgeMessages" rfl (by decide) (kR rfl) fun X C => ?_
  unfold F_X10_lengthAt at hF
  show gV w X _ _ 0 [(0, .ref (wAd w (7, 11, 6, 0))), (1, .int a1)] []
  refine r_aload_n C (k := 0) rfl rfl dX10_lengthAt_0 ?_
  refine r_iload_n C (k := 1) rfl rfl dX10_lengthAt_1 ?_
  rcases ox_e hF with ⟨u1, hu1, hF⟩ | ⟨kx2, hkx2, hF⟩
  rotate_left
  · cases hF
  refine r_callV C (d' := 6) [.int a1] (c_X10_requireSlot hW hS e a1 hu1) myX10_requireSlot wm3_202 ⟨_, _, _, _, (hW.ok k7), rfl, rfl, rfl, rfl⟩ rfl (kR rfl) (by decide) (kR rfl) rfl dX10_lengthAt_2 ?_
  refine r_aload_n C (k := 0) rfl rfl dX10_lengthAt_5 ?_
  refine og_7_0 C (hW.ok k7) wm2_159 dX10_lengthAt_6 ?_
  refine ogN_0_10 C (hW.ok (k0 (by decide))) wm1_151 dX10_lengthAt_9 ?_
  refine r_iload_n C (k := 1) rfl rfl dX10_lengthAt_12 ?_
  refine r_callV C (d' := 0) [.int a1] (c_rget (hW.ok (i := (3, 0, 0, 2)) (q0 (by decide) (kR rfl))) (hW.ok (i := (4, 0, 0, 2)) (q0 (by decide) (kR rfl))) (show rlen 0 2 = 40 from rfl) (by decide) (congrArg (fun z => z.2 2) (congrFun (congrFun e 0) 0)) rfl) myX8_get wm4_45 ⟨_, _, _, _, (hW.ok (i := (3, 0, 0, 2)) (q0 (by decide) (kR rfl))), rfl, rfl, rfl, rfl⟩ rfl (kR rfl) (by decide) (kR rfl) rfl dX10_lengthAt_13 ?_
  cases hF
  exact r_ireturn C dX10_lengthAt_16
theorem x_X10_lengthAt {w : WP} (hW : gW w) (hS : gS w) (hZ : gZ w) {Ω : OM}  {S : Nat → Nat → HV} (e : Ω.1 = S) (a1 : Int32) {k9 : Nat} (hF : F_X10_lengthAt a1 S = some (.inr k9)) : gMx w 7 yX10_lengthAt cX10_lengthAt 2 (some .int) [.ref (wAd w (7, 11, 6, 0)), .int a1] (cA w Ω) (xN k9) (cA w Ω) := by
  refine gMx_of "HedgeMessages" rfl (by decide) (kR rfl) fun X C hT9 => ?_
  unfold F_X10_lengthAt at hF
  show gU w X _ _ 0 [(0, .ref (wAd w (7, 11, 6, 0))), (1, .int a1)] []
  refine r_aload_n C (k := 0) rfl rfl dX10_lengthAt_0 ?_
  refine r_iload_n C (k := 1) rfl rfl dX10_lengthAt_1 ?_
  rcases ox_e hF with ⟨u1, hu1, hF⟩ | ⟨kx2, hkx2, hF⟩
  rotate_left
  · cases hF
    exact x_callV C hT9 (d' := 6) [.int a1] (x_X10_requireSlot hW hS hZ e a1 hkx2) myX10_requireSlot wm3_202 ⟨_, _, _, _, (hW.ok k7), rfl, rfl, rfl, rfl⟩ rfl (kR rfl) (by decide) (kR rfl) rfl dX10_lengthAt_2
  refine r_callV C (d' := 6) [.int a1] (c_X10_requireSlot hW hS e a1 hu1) myX10_requireSlot wm3_202 ⟨_, _, _, _, (hW.ok k7), rfl, rfl, rfl, rfl⟩ rfl (kR rfl) (by decide) (kR rfl) rfl dX10_lengthAt_2 ?_
  refine r_aload_n C (k := 0) rfl rfl dX10_lengthAt_5 ?_
  refine og_7_0 C (hW.ok k7) wm2_159 dX10_lengthAt_6 ?_
  refine ogN_0_10 C (hW.ok (k0 (by decide))) wm1_151 dX10_lengthAt_9 ?_
  refine r_iload_n C (k := 1) rfl rfl dX10_lengthAt_12 ?_
  refine r_callV C (d' := 0) [.int a1] (c_rget (hW.ok (i := (3, 0, 0, 2)) (q0 (by decide) (kR rfl))) (hW.ok (i := (4, 0, 0, 2)) (q0 (by decide) (kR rfl))) (show rlen 0 2 = 40 from rfl) (by decide) (congrArg (fun z => z.2 2) (congrFun (congrFun e 0) 0)) rfl) myX8_get wm4_45 ⟨_, _, _, _, (hW.ok (i := (3, 0, 0, 2)) (q0 (by decide) (kR rfl))), rfl, rfl, rfl, rfl⟩ rfl (kR rfl) (by decide) (kR rfl) rfl dX10_lengthAt_13 ?_
  cases hF
theorem dX10_isReserved_0 : decode cX10_isReserved 0 = .ok (.aload_n 0, 1) := by decide +kernel
theorem dX10_isReserved_1 : decode cX10_isReserved 1 = .ok (.iload_n 1, 1) := by decide +kernel
theorem dX10_isReserved_2 : decode cX10_isReserved 2 = .ok (.invokevirtual 148, 3) := by decide +kernel
theorem dX10_isReserved_5 : decode cX10_isReserved 5 = .ok (.aload_n 0, 1) := by decide +kernel
theorem dX10_isReserved_6 : decode cX10_isReserved 6 = .ok (.getfield 10, 3) := by decide +kernel
theorem dX10_isReserved_9 : decode cX10_isReserved 9 = .ok (.iload_n 1, 1) := by decide +kernel
theorem dX10_isReserved_10 : decode cX10_isReserved 10 = .ok (.invokevirtual 167, 3) := by decide +kernel
theorem dX10_isReserved_13 : decode cX10_isReserved 13 = .ok (.ireturn, 1) := by decide +kernel
def F_X10_isReserved (a1 : Int32) (S : Nat → Nat → HV) : Option ((Bool) ⊕ Nat) := (ox (F_X10_requireSlot a1 S) (fun k9 => some (.inr k9)) fun u1 => some (.inl (F_X5_isBooked a1 (S 0))))
theorem c_X10_isReserved {w : WP} (hW : gW w) (hS : gS w) {Ω : OM}  {S : Nat → Nat → HV} (e : Ω.1 = S) (a1 : Int32) {v : Bool} (hF : F_X10_isReserved a1 S = some (.inl v)) : gM w 7 yX10_isReserved cX10_isReserved 2 (some .boolean) [.ref (wAd w (7, 11, 6, 0)), .int a1] (cA w Ω) (some (.int (b2i v))) (cA w Ω) := by
  refine gM_of "HedgeMessages" rfl (by decide) (kR rfl) fun X C => ?_
  unfold F_X10_isReserved at hF
  show gV w X _ _ 0 [(0, .ref (wAd w (7, 11, 6, 0))), (1, .int a1)] []
  refine r_aload_n C (k := 0) rfl rfl dX10_isReserved_0 ?_
  refine r_iload_n C (k := 1) rfl rfl dX10_isReserved_1 ?_
  rcases ox_e hF with ⟨u1, hu1, hF⟩ | ⟨kx2, hkx2, hF⟩
  rotate_left
  · cases hF
  refine r_callV C (d' := 6) [.int a1] (c_X10_requireSlot hW hS e a1 hu1) myX10_requireSlot wm3_202 ⟨_, _, _, _, (hW.ok k7), rfl, rfl, rfl, rfl⟩ rfl (kR rfl) (by decide) (kR rfl) rfl dX10_isReserved_2 ?_
  refine r_aload_n C (k := 0) rfl rfl dX10_isReserved_5 ?_
  refine og_7_0 C (hW.ok k7) wm2_159 dX10_isReserved_6 ?_
  refine r_iload_n C (k := 1) rfl rfl dX10_isReserved_9 ?_
  refine r_callV C (d' := 1) [.int a1] (c_X5_isBooked hW (by decide) (congrFun e 0) a1 rfl) myX5_isBooked wm5_35 ⟨_, _, _, _, (hW.ok (k0 (by decide))), rfl, rfl, rfl, rfl⟩ rfl (kR rfl) (by decide) (kR rfl) rfl dX10_isReserved_10 ?_
  cases hF
  exact r_zreturn C _ rfl dX10_isReserved_13
theorem x_X10_isReserved {w : WP} (hW : gW w) (hS : gS w) (hZ : gZ w) {Ω : OM}  {S : Nat → Nat → HV} (e : Ω.1 = S) (a1 : Int32) {k9 : Nat} (hF : F_X10_isReserved a1 S = some (.inr k9)) : gMx w 7 yX10_isReserved cX10_isReserved 2 (some .boolean) [.ref (wAd w (7, 11, 6, 0)), .int a1] (cA w Ω) (xN k9) (cA w Ω) := by
  refine gMx_of "HedgeMessages" rfl (by decide) (kR rfl) fun X C hT9 => ?_
  unfold F_X10_isReserved at hF
  show gU w X _ _ 0 [(0, .ref (wAd w (7, 11, 6, 0))), (1, .int a1)] []
  refine r_aload_n C (k := 0) rfl rfl dX10_isReserved_0 ?_
  refine r_iload_n C (k := 1) rfl rfl dX10_isReserved_1 ?_
  rcases ox_e hF with ⟨u1, hu1, hF⟩ | ⟨kx2, hkx2, hF⟩
  rotate_left
  · cases hF
    exact x_callV C hT9 (d' := 6) [.int a1] (x_X10_requireSlot hW hS hZ e a1 hkx2) myX10_requireSlot wm3_202 ⟨_, _, _, _, (hW.ok k7), rfl, rfl, rfl, rfl⟩ rfl (kR rfl) (by decide) (kR rfl) rfl dX10_isReserved_2
  refine r_callV C (d' := 6) [.int a1] (c_X10_requireSlot hW hS e a1 hu1) myX10_requireSlot wm3_202 ⟨_, _, _, _, (hW.ok k7), rfl, rfl, rfl, rfl⟩ rfl (kR rfl) (by decide) (kR rfl) rfl dX10_isReserved_2 ?_
  refine r_aload_n C (k := 0) rfl rfl dX10_isReserved_5 ?_
  refine og_7_0 C (hW.ok k7) wm2_159 dX10_isReserved_6 ?_
  refine r_iload_n C (k := 1) rfl rfl dX10_isReserved_9 ?_
  refine r_callV C (d' := 1) [.int a1] (c_X5_isBooked hW (by decide) (congrFun e 0) a1 rfl) myX5_isBooked wm5_35 ⟨_, _, _, _, (hW.ok (k0 (by decide))), rfl, rfl, rfl, rfl⟩ rfl (kR rfl) (by decide) (kR rfl) rfl dX10_isReserved_10 ?_
  cases hF
theorem dX10_nestDays_0 : decode cX10_nestDays 0 = .ok (.aload_n 0, 1) := by decide +kernel
theorem dX10_nestDays_1 : decode cX10_nestDays 1 = .ok (.iload_n 1, 1) := by decide +kernel
theorem dX10_nestDays_2 : decode cX10_nestDays 2 = .ok (.invokevirtual 148, 3) := by decide +kernel
theorem dX10_nestDays_5 : decode cX10_nestDays 5 = .ok (.aload_n 0, 1) := by decide +kernel
theorem dX10_nestDays_6 : decode cX10_nestDays 6 = .ok (.getfield 10, 3) := by decide +kernel
theorem dX10_nestDays_9 : decode cX10_nestDays 9 = .ok (.getfield 170, 3) := by decide +kernel
theorem dX10_nestDays_12 : decode cX10_nestDays 12 = .ok (.iload_n 1, 1) := by decide +kernel
theorem dX10_nestDays_13 : decode cX10_nestDays 13 = .ok (.invokevirtual 157, 3) := by decide +kernel
theorem dX10_nestDays_16 : decode cX10_nestDays 16 = .ok (.ireturn, 1) := by decide +kernel
def F_X10_nestDays (a1 : Int32) (S : Nat → Nat → HV) : Option ((Int32) ⊕ Nat) := (ox (F_X10_requireSlot a1 S) (fun k9 => some (.inr k9)) fun u1 => some (.inl (rget 40 ((S 0 0).2 3) a1)))
theorem c_X10_nestDays {w : WP} (hW : gW w) (hS : gS w) {Ω : OM}  {S : Nat → Nat → HV} (e : Ω.1 = S) (a1 : Int32) {v : Int32} (hF : F_X10_nestDays a1 S = some (.inl v)) : gM w 7 yX10_nestDays cX10_nestDays 2 (some .int) [.ref (wAd w (7, 11, 6, 0)), .int a1] (cA w Ω) (some (.int v)) (cA w Ω) := by
  refine gM_of "HedgeMessages" rfl (by decide) (kR rfl) fun X C => ?_
  unfold F_X10_nestDays at hF
  show gV w X _ _ 0 [(0, .ref (wAd w (7, 11, 6, 0))), (1, .int a1)] []
  refine r_aload_n C (k := 0) rfl rfl dX10_nestDays_0 ?_
  refine r_iload_n C (k := 1) rfl rfl dX10_nestDays_1 ?_
  rcases ox_e hF with ⟨u1, hu1, hF⟩ | ⟨kx2, hkx2, hF⟩
  rotate_left
  · cases hF
  refine r_callV C (d' := 6) [.int a1] (c_X10_requireSlot hW hS e a1 hu1) myX10_requireSlot wm3_202 ⟨_, _, _, _, (hW.ok k7), rfl, rfl, rfl, rfl⟩ rfl (kR rfl) (by decide) (kR rfl) rfl dX10_nestDays_2 ?_
  refine r_aload_n C (k := 0) rfl rfl dX10_nestDays_5 ?_
  refine og_7_0 C (hW.ok k7) wm2_159 dX10_nestDays_6 ?_
  refine ogN_0_11 C (hW.ok (k0 (by decide))) wm1_154 dX10_nestDays_9 ?_
  refine r_iload_n C (k := 1) rfl rfl dX10_nestDays_12 ?_
  refine r_callV C (d' := 0) [.int a1] (c_rget (hW.ok (i := (3, 0, 0, 3)) (q0 (by decide) (kR rfl))) (hW.ok (i := (4, 0, 0, 3)) (q0 (by decide) (kR rfl))) (show rlen 0 3 = 40 from rfl) (by decide) (congrArg (fun z => z.2 3) (congrFun (congrFun e 0) 0)) rfl) myX8_get wm4_45 ⟨_, _, _, _, (hW.ok (i := (3, 0, 0, 3)) (q0 (by decide) (kR rfl))), rfl, rfl, rfl, rfl⟩ rfl (kR rfl) (by decide) (kR rfl) rfl dX10_nestDays_13 ?_
  cases hF
  exact r_ireturn C dX10_nestDays_16
theorem x_X10_nestDays {w : WP} (hW : gW w) (hS : gS w) (hZ : gZ w) {Ω : OM}  {S : Nat → Nat → HV} (e : Ω.1 = S) (a1 : Int32) {k9 : Nat} (hF : F_X10_nestDays a1 S = some (.inr k9)) : gMx w 7 yX10_nestDays cX10_nestDays 2 (some .int) [.ref (wAd w (7, 11, 6, 0)), .int a1] (cA w Ω) (xN k9) (cA w Ω) := by
  refine gMx_of "HedgeMessages" rfl (by decide) (kR rfl) fun X C hT9 => ?_
  unfold F_X10_nestDays at hF
  show gU w X _ _ 0 [(0, .ref (wAd w (7, 11, 6, 0))), (1, .int a1)] []
  refine r_aload_n C (k := 0) rfl rfl dX10_nestDays_0 ?_
  refine r_iload_n C (k := 1) rfl rfl dX10_nestDays_1 ?_
  rcases ox_e hF with ⟨u1, hu1, hF⟩ | ⟨kx2, hkx2, hF⟩
  rotate_left
  · cases hF
    exact x_callV C hT9 (d' := 6) [.int a1] (x_X10_requireSlot hW hS hZ e a1 hkx2) myX10_requireSlot wm3_202 ⟨_, _, _, _, (hW.ok k7), rfl, rfl, rfl, rfl⟩ rfl (kR rfl) (by decide) (kR rfl) rfl dX10_nestDays_2
  refine r_callV C (d' := 6) [.int a1] (c_X10_requireSlot hW hS e a1 hu1) myX10_requireSlot wm3_202 ⟨_, _, _, _, (hW.ok k7), rfl, rfl, rfl, rfl⟩ rfl (kR rfl) (by decide) (kR rfl) rfl dX10_nestDays_2 ?_
  refine r_aload_n C (k := 0) rfl rfl dX10_nestDays_5 ?_
  refine og_7_0 C (hW.ok k7) wm2_159 dX10_nestDays_6 ?_
  refine ogN_0_11 C (hW.ok (k0 (by decide))) wm1_154 dX10_nestDays_9 ?_
  refine r_iload_n C (k := 1) rfl rfl dX10_nestDays_12 ?_
  refine r_callV C (d' := 0) [.int a1] (c_rget (hW.ok (i := (3, 0, 0, 3)) (q0 (by decide) (kR rfl))) (hW.ok (i := (4, 0, 0, 3)) (q0 (by decide) (kR rfl))) (show rlen 0 3 = 40 from rfl) (by decide) (congrArg (fun z => z.2 3) (congrFun (congrFun e 0) 0)) rfl) myX8_get wm4_45 ⟨_, _, _, _, (hW.ok (i := (3, 0, 0, 3)) (q0 (by decide) (kR rfl))), rfl, rfl, rfl, rfl⟩ rfl (kR rfl) (by decide) (kR rfl) rfl dX10_nestDays_13 ?_
  cases hF
theorem dX10_isProtected_0 : decode cX10_isProtected 0 = .ok (.aload_n 0, 1) := by decide +kernel
theorem dX10_isProtected_1 : decode cX10_isProtected 1 = .ok (.iload_n 1, 1) := by decide +kernel
theorem dX10_isProtected_2 : decode cX10_isProtected 2 = .ok (.invokevirtual 148, 3) := by decide +kernel
theorem dX10_isProtected_5 : decode cX10_isProtected 5 = .ok (.aload_n 0, 1) := by decide +kernel
theorem dX10_isProtected_6 : decode cX10_isProtected 6 = .ok (.getfield 10, 3) := by decide +kernel
theorem dX10_isProtected_9 : decode cX10_isProtected 9 = .ok (.iload_n 1, 1) := by decide +kernel
theorem dX10_isProtected_10 : decode cX10_isProtected 10 = .ok (.invokevirtual 173, 3) := by decide +kernel
theorem dX10_isProtected_13 : decode cX10_isProtected 13 = .ok (.ireturn, 1) := by decide +kernel
def F_X10_isProtected (a1 : Int32) (S : Nat → Nat → HV) : Option ((Bool) ⊕ Nat) := (ox (F_X10_requireSlot a1 S) (fun k9 => some (.inr k9)) fun u1 => some (.inl (F_X5_isGuarded a1 (S 0))))
theorem c_X10_isProtected {w : WP} (hW : gW w) (hS : gS w) {Ω : OM}  {S : Nat → Nat → HV} (e : Ω.1 = S) (a1 : Int32) {v : Bool} (hF : F_X10_isProtected a1 S = some (.inl v)) : gM w 7 yX10_isProtected cX10_isProtected 2 (some .boolean) [.ref (wAd w (7, 11, 6, 0)), .int a1] (cA w Ω) (some (.int (b2i v))) (cA w Ω) := by
  refine gM_of "HedgeMessages" rfl (by decide) (kR rfl) fun X C => ?_
  unfold F_X10_isProtected at hF
  show gV w X _ _ 0 [(0, .ref (wAd w (7, 11, 6, 0))), (1, .int a1)] []
  refine r_aload_n C (k := 0) rfl rfl dX10_isProtected_0 ?_
  refine r_iload_n C (k := 1) rfl rfl dX10_isProtected_1 ?_
  rcases ox_e hF with ⟨u1, hu1, hF⟩ | ⟨kx2, hkx2, hF⟩
  rotate_left
  · cases hF
  refine r_callV C (d' := 6) [.int a1] (c_X10_requireSlot hW hS e a1 hu1) myX10_requireSlot wm3_202 ⟨_, _, _, _, (hW.ok k7), rfl, rfl, rfl, rfl⟩ rfl (kR rfl) (by decide) (kR rfl) rfl dX10_isProtected_2 ?_
  refine r_aload_n C (k := 0) rfl rfl dX10_isProtected_5 ?_
  refine og_7_0 C (hW.ok k7) wm2_159 dX10_isProtected_6 ?_
  refine r_iload_n C (k := 1) rfl rfl dX10_isProtected_9 ?_
  refine r_callV C (d' := 1) [.int a1] (c_X5_isGuarded hW (by decide) (congrFun e 0) a1 rfl) myX5_isGuarded wm5_106 ⟨_, _, _, _, (hW.ok (k0 (by decide))), rfl, rfl, rfl, rfl⟩ rfl (kR rfl) (by decide) (kR rfl) rfl dX10_isProtected_10 ?_
  cases hF
  exact r_zreturn C _ rfl dX10_isProtected_13
theorem x_X10_isProtected {w : WP} (hW : gW w) (hS : gS w) (hZ : gZ w) {Ω : OM}  {S : Nat → Nat → HV} (e : Ω.1 = S) (a1 : Int32) {k9 : Nat} (hF : F_X10_isProtected a1 S = some (.inr k9)) : gMx w 7 yX10_isProtected cX10_isProtected 2 (some .boolean) [.ref (wAd w (7, 11, 6, 0)), .int a1] (cA w Ω) (xN k9) (cA w Ω) := by
  refine gMx_of "HedgeMessages" rfl (by decide) (kR rfl) fun X C hT9 => ?_
  unfold F_X10_isProtected at hF
  show gU w X _ _ 0 [(0, .ref (wAd w (7, 11, 6, 0))), (1, .int a1)] []
  refine r_aload_n C (k := 0) rfl rfl dX10_isProtected_0 ?_
  refine r_iload_n C (k := 1) rfl rfl dX10_isProtected_1 ?_
  rcases ox_e hF with ⟨u1, hu1, hF⟩ | ⟨kx2, hkx2, hF⟩
  rotate_left
  · cases hF
    exact x_callV C hT9 (d' := 6) [.int a1] (x_X10_requireSlot hW hS hZ e a1 hkx2) myX10_requireSlot wm3_202 ⟨_, _, _, _, (hW.ok k7), rfl, rfl, rfl, rfl⟩ rfl (kR rfl) (by decide) (kR rfl) rfl dX10_isProtected_2
  refine r_callV C (d' := 6) [.int a1] (c_X10_requireSlot hW hS e a1 hu1) myX10_requireSlot wm3_202 ⟨_, _, _, _, (hW.ok k7), rfl, rfl, rfl, rfl⟩ rfl (kR rfl) (by decide) (kR rfl) rfl dX10_isProtected_2 ?_
  refine r_aload_n C (k := 0) rfl rfl dX10_isProtected_5 ?_
  refine og_7_0 C (hW.ok k7) wm2_159 dX10_isProtected_6 ?_
  refine r_iload_n C (k := 1) rfl rfl dX10_isProtected_9 ?_
  refine r_callV C (d' := 1) [.int a1] (c_X5_isGuarded hW (by decide) (congrFun e 0) a1 rfl) myX5_isGuarded wm5_106 ⟨_, _, _, _, (hW.ok (k0 (by decide))), rfl, rfl, rfl, rfl⟩ rfl (kR rfl) (by decide) (kR rfl) rfl dX10_isProtected_10 ?_
  cases hF
theorem dX10_requireGardener_0 : decode cX10_requireGardener 0 = .ok (.iload_n 0, 1) := by decide +kernel
theorem dX10_requireGardener_1 : decode cX10_requireGardener 1 = .ok (.ifCond .eq 19, 3) := by decide +kernel
theorem dX10_requireGardener_4 : decode cX10_requireGardener 4 = .ok (.iload_n 0, 1) := by decide +kernel
theorem dX10_requireGardener_5 : decode cX10_requireGardener 5 = .ok (.iconst 1, 1) := by decide +kernel
theorem dX10_requireGardener_6 : decode cX10_requireGardener 6 = .ok (.if_icmp .eq 14, 3) := by decide +kernel
theorem dX10_requireGardener_9 : decode cX10_requireGardener 9 = .ok (.new 88, 3) := by decide +kernel
theorem dX10_requireGardener_12 : decode cX10_requireGardener 12 = .ok (.dup, 1) := by decide +kernel
theorem dX10_requireGardener_13 : decode cX10_requireGardener 13 = .ok (.ldc_w 393, 3) := by decide +kernel
theorem dX10_requireGardener_16 : decode cX10_requireGardener 16 = .ok (.invokespecial 92, 3) := by decide +kernel
theorem dX10_requireGardener_19 : decode cX10_requireGardener 19 = .ok (.athrow, 1) := by decide +kernel
theorem dX10_requireGardener_20 : decode cX10_requireGardener 20 = .ok (.return_, 1) := by decide +kernel
def F_X10_requireGardener (a0 : Int32) : Option ((Unit) ⊕ Nat) := (if a0 = 0 then some (.inl ()) else (if a0 = 1 then some (.inl ()) else some (.inr 2)))
theorem c_X10_requireGardener {w : WP}  (hS : gS w) {ct : CT}  (a0 : Int32) (hF : F_X10_requireGardener a0 = some (.inl ())) : gM w 6 yX10_requireGardener cX10_requireGardener 1 none [.int a0] (ct) none (ct) := by
  refine gM_of "HedgeMessages" rfl (by decide) (kR rfl) fun X C => ?_
  unfold F_X10_requireGardener at hF
  show gV w X _ _ 0 [(0, .int a0)] []
  refine r_iload_n C (k := 0) rfl rfl dX10_requireGardener_0 ?_
  refine r_if_eq C (tgt := 20) rfl dX10_requireGardener_1 (fun hc => ?_) (fun hc => ?_)
  · rw [if_pos hc] at hF
    cases hF
    exact r_return C dX10_requireGardener_20
  · rw [if_neg hc] at hF
    refine r_iload_n C (k := 0) rfl rfl dX10_requireGardener_4 ?_
    refine r_iconst C (v := 1) rfl dX10_requireGardener_5 ?_
    refine r_icmp_eq C (tgt := 20) rfl dX10_requireGardener_6 (fun hc => ?_) (fun hc => ?_)
    · rw [if_pos hc] at hF
      cases hF
      exact r_return C dX10_requireGardener_20
    · rw [if_neg hc] at hF
      cases hF
theorem x_X10_requireGardener {w : WP}  (hS : gS w) (hZ : gZ w) {ct : CT}  (a0 : Int32) {k9 : Nat} (hF : F_X10_requireGardener a0 = some (.inr k9)) : gMx w 6 yX10_requireGardener cX10_requireGardener 1 none [.int a0] (ct) (xN k9) (ct) := by
  refine gMx_of "HedgeMessages" rfl (by decide) (kR rfl) fun X C hT9 => ?_
  unfold F_X10_requireGardener at hF
  show gU w X _ _ 0 [(0, .int a0)] []
  refine r_iload_n C (k := 0) rfl rfl dX10_requireGardener_0 ?_
  refine r_if_eq C (tgt := 20) rfl dX10_requireGardener_1 (fun hc => ?_) (fun hc => ?_)
  · rw [if_pos hc] at hF
    cases hF
  · rw [if_neg hc] at hF
    refine r_iload_n C (k := 0) rfl rfl dX10_requireGardener_4 ?_
    refine r_iconst C (v := 1) rfl dX10_requireGardener_5 ?_
    refine r_icmp_eq C (tgt := 20) rfl dX10_requireGardener_6 (fun hc => ?_) (fun hc => ?_)
    · rw [if_pos hc] at hF
      cases hF
    · rw [if_neg hc] at hF
      cases hF
      exact x_throwSW C hZ hT9 (by decide +kernel) xK2 rfl xI2 xO2 ((hS.s C).imp fun _ _ _ h => h.2.2.1 19 (by decide)) (kR rfl) (kR rfl) dX10_requireGardener_9 dX10_requireGardener_12 dX10_requireGardener_13 dX10_requireGardener_16 dX10_requireGardener_19
theorem dX10_pendingCount_0 : decode cX10_pendingCount 0 = .ok (.iload_n 1, 1) := by decide +kernel
theorem dX10_pendingCount_1 : decode cX10_pendingCount 1 = .ok (.invokestatic 179, 3) := by decide +kernel
theorem dX10_pendingCount_4 : decode cX10_pendingCount 4 = .ok (.aload_n 0, 1) := by decide +kernel
theorem dX10_pendingCount_5 : decode cX10_pendingCount 5 = .ok (.getfield 10, 3) := by decide +kernel
theorem dX10_pendingCount_8 : decode cX10_pendingCount 8 = .ok (.iload_n 1, 1) := by decide +kernel
theorem dX10_pendingCount_9 : decode cX10_pendingCount 9 = .ok (.invokevirtual 182, 3) := by decide +kernel
theorem dX10_pendingCount_12 : decode cX10_pendingCount 12 = .ok (.getfield 186, 3) := by decide +kernel
theorem dX10_pendingCount_15 : decode cX10_pendingCount 15 = .ok (.ireturn, 1) := by decide +kernel
def F_X10_pendingCount (a1 : Int32) (S : Nat → Nat → HV) : Option ((Int32) ⊕ Nat) := (ox (F_X10_requireGardener a1) (fun k9 => some (.inr k9)) fun u1 => some (.inl ((S 0 (gsel a1)).1 2)))
theorem c_X10_pendingCount {w : WP} (hW : gW w) (hS : gS w) {Ω : OM}  {S : Nat → Nat → HV} (e : Ω.1 = S) (a1 : Int32) {v : Int32} (hF : F_X10_pendingCount a1 S = some (.inl v)) : gM w 7 yX10_pendingCount cX10_pendingCount 2 (some .int) [.ref (wAd w (7, 11, 6, 0)), .int a1] (cA w Ω) (some (.int v)) (cA w Ω) := by
  refine gM_of "HedgeMessages" rfl (by decide) (kR rfl) fun X C => ?_
  unfold F_X10_pendingCount at hF
  show gV w X _ _ 0 [(0, .ref (wAd w (7, 11, 6, 0))), (1, .int a1)] []
  refine r_iload_n C (k := 1) rfl rfl dX10_pendingCount_0 ?_
  rcases ox_e hF with ⟨u1, hu1, hF⟩ | ⟨kx2, hkx2, hF⟩
  rotate_left
  · cases hF
  refine r_callS C (d' := 6) [.int a1] (c_X10_requireGardener hS a1 hu1) myX10_requireGardener wm4_84 rfl (kR rfl) (by decide) (kR rfl) rfl dX10_pendingCount_1 ?_
  refine r_aload_n C (k := 0) rfl rfl dX10_pendingCount_4 ?_
  refine og_7_0 C (hW.ok k7) wm2_159 dX10_pendingCount_5 ?_
  refine r_iload_n C (k := 1) rfl rfl dX10_pendingCount_8 ?_
  refine r_callV C (d' := 0) [.int a1] (c_X5_gardener hW (by decide) a1) myX5_gardener wm4_96 ⟨_, _, _, _, (hW.ok (k0 (by decide))), rfl, rfl, rfl, rfl⟩ rfl (kR rfl) (by decide) (kR rfl) rfl dX10_pendingCount_9 ?_
  refine ogN_1_2 C (hW.ok (k1 (by decide) gsel_12)) (congrFun (congrFun e 0) (gsel a1)) wm1_65 dX10_pendingCount_12 ?_
  cases hF
  exact r_ireturn C dX10_pendingCount_15
theorem x_X10_pendingCount {w : WP} (hW : gW w) (hS : gS w) (hZ : gZ w) {Ω : OM}  {S : Nat → Nat → HV} (e : Ω.1 = S) (a1 : Int32) {k9 : Nat} (hF : F_X10_pendingCount a1 S = some (.inr k9)) : gMx w 7 yX10_pendingCount cX10_pendingCount 2 (some .int) [.ref (wAd w (7, 11, 6, 0)), .int a1] (cA w Ω) (xN k9) (cA w Ω) := by
  refine gMx_of "HedgeMessages" rfl (by decide) (kR rfl) fun X C hT9 => ?_
  unfold F_X10_pendingCount at hF
  show gU w X _ _ 0 [(0, .ref (wAd w (7, 11, 6, 0))), (1, .int a1)] []
  refine r_iload_n C (k := 1) rfl rfl dX10_pendingCount_0 ?_
  rcases ox_e hF with ⟨u1, hu1, hF⟩ | ⟨kx2, hkx2, hF⟩
  rotate_left
  · cases hF
    exact x_callS C hT9 (d' := 6) [.int a1] (x_X10_requireGardener hS hZ a1 hkx2) myX10_requireGardener wm4_84 rfl (kR rfl) (by decide) (kR rfl) rfl dX10_pendingCount_1
  refine r_callS C (d' := 6) [.int a1] (c_X10_requireGardener hS a1 hu1) myX10_requireGardener wm4_84 rfl (kR rfl) (by decide) (kR rfl) rfl dX10_pendingCount_1 ?_
  refine r_aload_n C (k := 0) rfl rfl dX10_pendingCount_4 ?_
  refine og_7_0 C (hW.ok k7) wm2_159 dX10_pendingCount_5 ?_
  refine r_iload_n C (k := 1) rfl rfl dX10_pendingCount_8 ?_
  refine r_callV C (d' := 0) [.int a1] (c_X5_gardener hW (by decide) a1) myX5_gardener wm4_96 ⟨_, _, _, _, (hW.ok (k0 (by decide))), rfl, rfl, rfl, rfl⟩ rfl (kR rfl) (by decide) (kR rfl) rfl dX10_pendingCount_9 ?_
  refine ogN_1_2 C (hW.ok (k1 (by decide) gsel_12)) (congrFun (congrFun e 0) (gsel a1)) wm1_65 dX10_pendingCount_12 ?_
  cases hF
theorem dX10_pendingLetter_0 : decode cX10_pendingLetter 0 = .ok (.iload_n 1, 1) := by decide +kernel
theorem dX10_pendingLetter_1 : decode cX10_pendingLetter 1 = .ok (.invokestatic 179, 3) := by decide +kernel
theorem dX10_pendingLetter_4 : decode cX10_pendingLetter 4 = .ok (.aload_n 0, 1) := by decide +kernel
theorem dX10_pendingLetter_5 : decode cX10_pendingLetter 5 = .ok (.getfield 10, 3) := by decide +kernel
theorem dX10_pendingLetter_8 : decode cX10_pendingLetter 8 = .ok (.iload_n 1, 1) := by decide +kernel
theorem dX10_pendingLetter_9 : decode cX10_pendingLetter 9 = .ok (.invokevirtual 182, 3) := by decide +kernel
theorem dX10_pendingLetter_12 : decode cX10_pendingLetter 12 = .ok (.iload_n 2, 1) := by decide +kernel
theorem dX10_pendingLetter_13 : decode cX10_pendingLetter 13 = .ok (.iload_n 3, 1) := by decide +kernel
theorem dX10_pendingLetter_14 : decode cX10_pendingLetter 14 = .ok (.invokevirtual 191, 3) := by decide +kernel
theorem dX10_pendingLetter_17 : decode cX10_pendingLetter 17 = .ok (.ireturn, 1) := by decide +kernel
def F_X10_pendingLetter (a1 : Int32) (a2 : Int32) (a3 : Int32) (S : Nat → Nat → HV) : Option ((Int32) ⊕ Nat) := (ox (F_X10_requireGardener a1) (fun k9 => some (.inr k9)) fun u1 => some (.inl (F_X4_letterOf a2 a3 (S 0 (gsel a1)))))
theorem c_X10_pendingLetter {w : WP} (hW : gW w) (hS : gS w) {Ω : OM}  {S : Nat → Nat → HV} (e : Ω.1 = S) (a1 : Int32) (a2 : Int32) (a3 : Int32) {v : Int32} (hF : F_X10_pendingLetter a1 a2 a3 S = some (.inl v)) : gM w 7 yX10_pendingLetter cX10_pendingLetter 4 (some .int) [.ref (wAd w (7, 11, 6, 0)), .int a1, .int a2, .int a3] (cA w Ω) (some (.int v)) (cA w Ω) := by
  refine gM_of "HedgeMessages" rfl (by decide) (kR rfl) fun X C => ?_
  unfold F_X10_pendingLetter at hF
  show gV w X _ _ 0 [(0, .ref (wAd w (7, 11, 6, 0))), (1, .int a1), (2, .int a2), (3, .int a3)] []
  refine r_iload_n C (k := 1) rfl rfl dX10_pendingLetter_0 ?_
  rcases ox_e hF with ⟨u1, hu1, hF⟩ | ⟨kx2, hkx2, hF⟩
  rotate_left
  · cases hF
  refine r_callS C (d' := 6) [.int a1] (c_X10_requireGardener hS a1 hu1) myX10_requireGardener wm4_84 rfl (kR rfl) (by decide) (kR rfl) rfl dX10_pendingLetter_1 ?_
  refine r_aload_n C (k := 0) rfl rfl dX10_pendingLetter_4 ?_
  refine og_7_0 C (hW.ok k7) wm2_159 dX10_pendingLetter_5 ?_
  refine r_iload_n C (k := 1) rfl rfl dX10_pendingLetter_8 ?_
  refine r_callV C (d' := 0) [.int a1] (c_X5_gardener hW (by decide) a1) myX5_gardener wm4_96 ⟨_, _, _, _, (hW.ok (k0 (by decide))), rfl, rfl, rfl, rfl⟩ rfl (kR rfl) (by decide) (kR rfl) rfl dX10_pendingLetter_9 ?_
  refine r_iload_n C (k := 2) rfl rfl dX10_pendingLetter_12 ?_
  refine r_iload_n C (k := 3) rfl rfl dX10_pendingLetter_13 ?_
  refine r_callV C (d' := 2) [.int a2, .int a3] (c_X4_letterOf hW (by decide) gsel_12 (congrFun (congrFun e 0) (gsel a1)) a2 a3 rfl) myX4_letterOf wm5_77 ⟨_, _, _, _, (hW.ok (k1 (by decide) gsel_12)), rfl, rfl, rfl, rfl⟩ rfl (kR rfl) (by decide) (kR rfl) rfl dX10_pendingLetter_14 ?_
  cases hF
  exact r_ireturn C dX10_pendingLetter_17
theorem x_X10_pendingLetter {w : WP} (hW : gW w) (hS : gS w) (hZ : gZ w) {Ω : OM}  {S : Nat → Nat → HV} (e : Ω.1 = S) (a1 : Int32) (a2 : Int32) (a3 : Int32) {k9 : Nat} (hF : F_X10_pendingLetter a1 a2 a3 S = some (.inr k9)) : gMx w 7 yX10_pendingLetter cX10_pendingLetter 4 (some .int) [.ref (wAd w (7, 11, 6, 0)), .int a1, .int a2, .int a3] (cA w Ω) (xN k9) (cA w Ω) := by
  refine gMx_of "HedgeMessages" rfl (by decide) (kR rfl) fun X C hT9 => ?_
  unfold F_X10_pendingLetter at hF
  show gU w X _ _ 0 [(0, .ref (wAd w (7, 11, 6, 0))), (1, .int a1), (2, .int a2), (3, .int a3)] []
  refine r_iload_n C (k := 1) rfl rfl dX10_pendingLetter_0 ?_
  rcases ox_e hF with ⟨u1, hu1, hF⟩ | ⟨kx2, hkx2, hF⟩
  rotate_left
  · cases hF
    exact x_callS C hT9 (d' := 6) [.int a1] (x_X10_requireGardener hS hZ a1 hkx2) myX10_requireGardener wm4_84 rfl (kR rfl) (by decide) (kR rfl) rfl dX10_pendingLetter_1
  refine r_callS C (d' := 6) [.int a1] (c_X10_requireGardener hS a1 hu1) myX10_requireGardener wm4_84 rfl (kR rfl) (by decide) (kR rfl) rfl dX10_pendingLetter_1 ?_
  refine r_aload_n C (k := 0) rfl rfl dX10_pendingLetter_4 ?_
  refine og_7_0 C (hW.ok k7) wm2_159 dX10_pendingLetter_5 ?_
  refine r_iload_n C (k := 1) rfl rfl dX10_pendingLetter_8 ?_
  refine r_callV C (d' := 0) [.int a1] (c_X5_gardener hW (by decide) a1) myX5_gardener wm4_96 ⟨_, _, _, _, (hW.ok (k0 (by decide))), rfl, rfl, rfl, rfl⟩ rfl (kR rfl) (by decide) (kR rfl) rfl dX10_pendingLetter_9 ?_
  refine r_iload_n C (k := 2) rfl rfl dX10_pendingLetter_12 ?_
  refine r_iload_n C (k := 3) rfl rfl dX10_pendingLetter_13 ?_
  refine r_callV C (d' := 2) [.int a2, .int a3] (c_X4_letterOf hW (by decide) gsel_12 (congrFun (congrFun e 0) (gsel a1)) a2 a3 rfl) myX4_letterOf wm5_77 ⟨_, _, _, _, (hW.ok (k1 (by decide) gsel_12)), rfl, rfl, rfl, rfl⟩ rfl (kR rfl) (by decide) (kR rfl) rfl dX10_pendingLetter_14 ?_
  cases hF
theorem dX10_lettersWritten_0 : decode cX10_lettersWritten 0 = .ok (.iload_n 1, 1) := by decide +kernel
theorem dX10_lettersWritten_1 : decode cX10_lettersWritten 1 = .ok (.invokestatic 179, 3) := by decide +kernel
theorem dX10_lettersWritten_4 : decode cX10_lettersWritten 4 = .ok (.aload_n 0, 1) := by decide +kernel
theorem dX10_lettersWritten_5 : decode cX10_lettersWritten 5 = .ok (.getfield 10, 3) := by decide +kernel
theorem dX10_lettersWritten_8 : decode cX10_lettersWritten 8 = .ok (.iload_n 1, 1) := by decide +kernel
theorem dX10_lettersWritten_9 : decode cX10_lettersWritten 9 = .ok (.invokevirtual 182, 3) := by decide +kernel
theorem dX10_lettersWritten_12 : decode cX10_lettersWritten 12 = .ok (.getfield 195, 3) := by decide +kernel
theorem dX10_lettersWritten_15 : decode cX10_lettersWritten 15 = .ok (.ireturn, 1) := by decide +kernel
def F_X10_lettersWritten (a1 : Int32) (S : Nat → Nat → HV) : Option ((Int32) ⊕ Nat) := (ox (F_X10_requireGardener a1) (fun k9 => some (.inr k9)) fun u1 => some (.inl ((S 0 (gsel a1)).1 5)))
theorem c_X10_lettersWritten {w : WP} (hW : gW w) (hS : gS w) {Ω : OM}  {S : Nat → Nat → HV} (e : Ω.1 = S) (a1 : Int32) {v : Int32} (hF : F_X10_lettersWritten a1 S = some (.inl v)) : gM w 7 yX10_lettersWritten cX10_lettersWritten 2 (some .int) [.ref (wAd w (7, 11, 6, 0)), .int a1] (cA w Ω) (some (.int v)) (cA w Ω) := by
  refine gM_of "HedgeMessages" rfl (by decide) (kR rfl) fun X C => ?_
  unfold F_X10_lettersWritten at hF
  show gV w X _ _ 0 [(0, .ref (wAd w (7, 11, 6, 0))), (1, .int a1)] []
  refine r_iload_n C (k := 1) rfl rfl dX10_lettersWritten_0 ?_
  rcases ox_e hF with ⟨u1, hu1, hF⟩ | ⟨kx2, hkx2, hF⟩
  rotate_left
  · cases hF
  refine r_callS C (d' := 6) [.int a1] (c_X10_requireGardener hS a1 hu1) myX10_requireGardener wm4_84 rfl (kR rfl) (by decide) (kR rfl) rfl dX10_lettersWritten_1 ?_
  refine r_aload_n C (k := 0) rfl rfl dX10_lettersWritten_4 ?_
  refine og_7_0 C (hW.ok k7) wm2_159 dX10_lettersWritten_5 ?_
  refine r_iload_n C (k := 1) rfl rfl dX10_lettersWritten_8 ?_
  refine r_callV C (d' := 0) [.int a1] (c_X5_gardener hW (by decide) a1) myX5_gardener wm4_96 ⟨_, _, _, _, (hW.ok (k0 (by decide))), rfl, rfl, rfl, rfl⟩ rfl (kR rfl) (by decide) (kR rfl) rfl dX10_lettersWritten_9 ?_
  refine ogN_1_5 C (hW.ok (k1 (by decide) gsel_12)) (congrFun (congrFun e 0) (gsel a1)) wm1_72 dX10_lettersWritten_12 ?_
  cases hF
  exact r_ireturn C dX10_lettersWritten_15
theorem x_X10_lettersWritten {w : WP} (hW : gW w) (hS : gS w) (hZ : gZ w) {Ω : OM}  {S : Nat → Nat → HV} (e : Ω.1 = S) (a1 : Int32) {k9 : Nat} (hF : F_X10_lettersWritten a1 S = some (.inr k9)) : gMx w 7 yX10_lettersWritten cX10_lettersWritten 2 (some .int) [.ref (wAd w (7, 11, 6, 0)), .int a1] (cA w Ω) (xN k9) (cA w Ω) := by
  refine gMx_of "HedgeMessages" rfl (by decide) (kR rfl) fun X C hT9 => ?_
  unfold F_X10_lettersWritten at hF
  show gU w X _ _ 0 [(0, .ref (wAd w (7, 11, 6, 0))), (1, .int a1)] []
  refine r_iload_n C (k := 1) rfl rfl dX10_lettersWritten_0 ?_
  rcases ox_e hF with ⟨u1, hu1, hF⟩ | ⟨kx2, hkx2, hF⟩
  rotate_left
  · cases hF
    exact x_callS C hT9 (d' := 6) [.int a1] (x_X10_requireGardener hS hZ a1 hkx2) myX10_requireGardener wm4_84 rfl (kR rfl) (by decide) (kR rfl) rfl dX10_lettersWritten_1
  refine r_callS C (d' := 6) [.int a1] (c_X10_requireGardener hS a1 hu1) myX10_requireGardener wm4_84 rfl (kR rfl) (by decide) (kR rfl) rfl dX10_lettersWritten_1 ?_
  refine r_aload_n C (k := 0) rfl rfl dX10_lettersWritten_4 ?_
  refine og_7_0 C (hW.ok k7) wm2_159 dX10_lettersWritten_5 ?_
  refine r_iload_n C (k := 1) rfl rfl dX10_lettersWritten_8 ?_
  refine r_callV C (d' := 0) [.int a1] (c_X5_gardener hW (by decide) a1) myX5_gardener wm4_96 ⟨_, _, _, _, (hW.ok (k0 (by decide))), rfl, rfl, rfl, rfl⟩ rfl (kR rfl) (by decide) (kR rfl) rfl dX10_lettersWritten_9 ?_
  refine ogN_1_5 C (hW.ok (k1 (by decide) gsel_12)) (congrFun (congrFun e 0) (gsel a1)) wm1_72 dX10_lettersWritten_12 ?_
  cases hF
theorem dX10_startSlot_0 : decode cX10_startSlot 0 = .ok (.iload_n 1, 1) := by decide +kernel
theorem dX10_startSlot_1 : decode cX10_startSlot 1 = .ok (.invokestatic 179, 3) := by decide +kernel
theorem dX10_startSlot_4 : decode cX10_startSlot 4 = .ok (.aload_n 0, 1) := by decide +kernel
theorem dX10_startSlot_5 : decode cX10_startSlot 5 = .ok (.getfield 10, 3) := by decide +kernel
theorem dX10_startSlot_8 : decode cX10_startSlot 8 = .ok (.iload_n 1, 1) := by decide +kernel
theorem dX10_startSlot_9 : decode cX10_startSlot 9 = .ok (.invokevirtual 182, 3) := by decide +kernel
theorem dX10_startSlot_12 : decode cX10_startSlot 12 = .ok (.astore_n 2, 1) := by decide +kernel
theorem dX10_startSlot_13 : decode cX10_startSlot 13 = .ok (.aload_n 2, 1) := by decide +kernel
theorem dX10_startSlot_14 : decode cX10_startSlot 14 = .ok (.invokevirtual 198, 3) := by decide +kernel
theorem dX10_startSlot_17 : decode cX10_startSlot 17 = .ok (.ifCond .eq 10, 3) := by decide +kernel
theorem dX10_startSlot_20 : decode cX10_startSlot 20 = .ok (.aload_n 2, 1) := by decide +kernel
theorem dX10_startSlot_21 : decode cX10_startSlot 21 = .ok (.getfield 202, 3) := by decide +kernel
theorem dX10_startSlot_24 : decode cX10_startSlot 24 = .ok (.goto 4, 3) := by decide +kernel
theorem dX10_startSlot_27 : decode cX10_startSlot 27 = .ok (.iconst (-1), 1) := by decide +kernel
theorem dX10_startSlot_28 : decode cX10_startSlot 28 = .ok (.ireturn, 1) := by decide +kernel
def F_X10_startSlot (a1 : Int32) (S : Nat → Nat → HV) : Option ((Int32) ⊕ Nat) := (ox (F_X10_requireGardener a1) (fun k9 => some (.inr k9)) fun u1 => (if (F_X4_isWriting (S 0 (gsel a1))) = true then some (.inl ((S 0 (gsel a1)).1 3)) else some (.inl (-1))))
theorem c_X10_startSlot {w : WP} (hW : gW w) (hS : gS w) {Ω : OM}  {S : Nat → Nat → HV} (e : Ω.1 = S) (a1 : Int32) {v : Int32} (hF : F_X10_startSlot a1 S = some (.inl v)) : gM w 7 yX10_startSlot cX10_startSlot 3 (some .int) [.ref (wAd w (7, 11, 6, 0)), .int a1] (cA w Ω) (some (.int v)) (cA w Ω) := by
  refine gM_of "HedgeMessages" rfl (by decide) (kR rfl) fun X C => ?_
  unfold F_X10_startSlot at hF
  show gV w X _ _ 0 [(0, .ref (wAd w (7, 11, 6, 0))), (1, .int a1)] []
  refine r_iload_n C (k := 1) rfl rfl dX10_startSlot_0 ?_
  rcases ox_e hF with ⟨u1, hu1, hF⟩ | ⟨kx2, hkx2, hF⟩
  rotate_left
  · cases hF
  refine r_callS C (d' := 6) [.int a1] (c_X10_requireGardener hS a1 hu1) myX10_requireGardener wm4_84 rfl (kR rfl) (by decide) (kR rfl) rfl dX10_startSlot_1 ?_
  refine r_aload_n C (k := 0) rfl rfl dX10_startSlot_4 ?_
  refine og_7_0 C (hW.ok k7) wm2_159 dX10_startSlot_5 ?_
  refine r_iload_n C (k := 1) rfl rfl dX10_startSlot_8 ?_
  refine r_callV C (d' := 0) [.int a1] (c_X5_gardener hW (by decide) a1) myX5_gardener wm4_96 ⟨_, _, _, _, (hW.ok (k0 (by decide))), rfl, rfl, rfl, rfl⟩ rfl (kR rfl) (by decide) (kR rfl) rfl dX10_startSlot_9 ?_
  refine r_astore_n C (lo' := [(2, .ref (wAd w (1, 0, (gsel a1), 0))), (0, .ref (wAd w (7, 11, 6, 0))), (1, .int a1)]) rfl (by decide) rfl dX10_startSlot_12 ?_
  refine r_aload_n C (k := 0) rfl rfl dX10_startSlot_13 ?_
  refine r_callV C (d' := 0) [] (c_X4_isWriting hW (by decide) gsel_12 (congrFun (congrFun e 0) (gsel a1)) rfl) myX4_isWriting wm5_48 ⟨_, _, _, _, (hW.ok (k1 (by decide) gsel_12)), rfl, rfl, rfl, rfl⟩ rfl (kR rfl) (by decide) (kR rfl) rfl dX10_startSlot_14 ?_
  refine r_if_eq C (tgt := 27) rfl dX10_startSlot_17 (fun hc => ?_) (fun hc => ?_)
  · rw [if_neg (b2i_f hc)] at hF
    refine r_iconst C (v := (-1)) (by decide) dX10_startSlot_27 ?_
    cases hF
    exact r_ireturn C dX10_startSlot_28
  · rw [if_pos (b2i_t hc)] at hF
    refine r_aload_n C (k := 0) rfl rfl dX10_startSlot_20 ?_
    refine ogN_1_3 C (hW.ok (k1 (by decide) gsel_12)) (congrFun (congrFun e 0) (gsel a1)) wm1_68 dX10_startSlot_21 ?_
    refine r_goto C (tgt := 28) rfl dX10_startSlot_24 ?_
    cases hF
    exact r_ireturn C dX10_startSlot_28
theorem x_X10_startSlot {w : WP} (hW : gW w) (hS : gS w) (hZ : gZ w) {Ω : OM}  {S : Nat → Nat → HV} (e : Ω.1 = S) (a1 : Int32) {k9 : Nat} (hF : F_X10_startSlot a1 S = some (.inr k9)) : gMx w 7 yX10_startSlot cX10_startSlot 3 (some .int) [.ref (wAd w (7, 11, 6, 0)), .int a1] (cA w Ω) (xN k9) (cA w Ω) := by
  refine gMx_of "HedgeMessages" rfl (by decide) (kR rfl) fun X C hT9 => ?_
  unfold F_X10_startSlot at hF
  show gU w X _ _ 0 [(0, .ref (wAd w (7, 11, 6, 0))), (1, .int a1)] []
  refine r_iload_n C (k := 1) rfl rfl dX10_startSlot_0 ?_
  rcases ox_e hF with ⟨u1, hu1, hF⟩ | ⟨kx2, hkx2, hF⟩
  rotate_left
  · cases hF
    exact x_callS C hT9 (d' := 6) [.int a1] (x_X10_requireGardener hS hZ a1 hkx2) myX10_requireGardener wm4_84 rfl (kR rfl) (by decide) (kR rfl) rfl dX10_startSlot_1
  refine r_callS C (d' := 6) [.int a1] (c_X10_requireGardener hS a1 hu1) myX10_requireGardener wm4_84 rfl (kR rfl) (by decide) (kR rfl) rfl dX10_startSlot_1 ?_
  refine r_aload_n C (k := 0) rfl rfl dX10_startSlot_4 ?_
  refine og_7_0 C (hW.ok k7) wm2_159 dX10_startSlot_5 ?_
  refine r_iload_n C (k := 1) rfl rfl dX10_startSlot_8 ?_
  refine r_callV C (d' := 0) [.int a1] (c_X5_gardener hW (by decide) a1) myX5_gardener wm4_96 ⟨_, _, _, _, (hW.ok (k0 (by decide))), rfl, rfl, rfl, rfl⟩ rfl (kR rfl) (by decide) (kR rfl) rfl dX10_startSlot_9 ?_
  refine r_astore_n C (lo' := [(2, .ref (wAd w (1, 0, (gsel a1), 0))), (0, .ref (wAd w (7, 11, 6, 0))), (1, .int a1)]) rfl (by decide) rfl dX10_startSlot_12 ?_
  refine r_aload_n C (k := 0) rfl rfl dX10_startSlot_13 ?_
  refine r_callV C (d' := 0) [] (c_X4_isWriting hW (by decide) gsel_12 (congrFun (congrFun e 0) (gsel a1)) rfl) myX4_isWriting wm5_48 ⟨_, _, _, _, (hW.ok (k1 (by decide) gsel_12)), rfl, rfl, rfl, rfl⟩ rfl (kR rfl) (by decide) (kR rfl) rfl dX10_startSlot_14 ?_
  refine r_if_eq C (tgt := 27) rfl dX10_startSlot_17 (fun hc => ?_) (fun hc => ?_)
  · rw [if_neg (b2i_f hc)] at hF
    refine r_iconst C (v := (-1)) (by decide) dX10_startSlot_27 ?_
    cases hF
  · rw [if_pos (b2i_t hc)] at hF
    refine r_aload_n C (k := 0) rfl rfl dX10_startSlot_20 ?_
    refine ogN_1_3 C (hW.ok (k1 (by decide) gsel_12)) (congrFun (congrFun e 0) (gsel a1)) wm1_68 dX10_startSlot_21 ?_
    refine r_goto C (tgt := 28) rfl dX10_startSlot_24 ?_
    cases hF
theorem dX10_postedCount_0 : decode cX10_postedCount 0 = .ok (.iload_n 1, 1) := by decide +kernel
theorem dX10_postedCount_1 : decode cX10_postedCount 1 = .ok (.invokestatic 179, 3) := by decide +kernel
theorem dX10_postedCount_4 : decode cX10_postedCount 4 = .ok (.aload_n 0, 1) := by decide +kernel
theorem dX10_postedCount_5 : decode cX10_postedCount 5 = .ok (.getfield 10, 3) := by decide +kernel
theorem dX10_postedCount_8 : decode cX10_postedCount 8 = .ok (.getfield 205, 3) := by decide +kernel
theorem dX10_postedCount_11 : decode cX10_postedCount 11 = .ok (.iload_n 1, 1) := by decide +kernel
theorem dX10_postedCount_12 : decode cX10_postedCount 12 = .ok (.invokevirtual 209, 3) := by decide +kernel
theorem dX10_postedCount_15 : decode cX10_postedCount 15 = .ok (.ireturn, 1) := by decide +kernel
def F_X10_postedCount (N : Nat) (a1 : Int32) (S : Nat → Nat → HV) : Option ((Int32) ⊕ Nat) := (ox (F_X10_requireGardener a1) (fun k9 => some (.inr k9)) fun u1 => (ob1 (F_X7_countOf N a1 (S 0 3)) fun v3 => some (.inl v3)))
theorem c_X10_postedCount {w : WP} (hW : gW w) (hS : gS w) {Ω : OM}  {S : Nat → Nat → HV} (e : Ω.1 = S) (N : Nat) (a1 : Int32) {v : Int32} (hF : F_X10_postedCount N a1 S = some (.inl v)) : gM w 7 yX10_postedCount cX10_postedCount 2 (some .int) [.ref (wAd w (7, 11, 6, 0)), .int a1] (cA w Ω) (some (.int v)) (cA w Ω) := by
  refine gM_of "HedgeMessages" rfl (by decide) (kR rfl) fun X C => ?_
  unfold F_X10_postedCount at hF
  show gV w X _ _ 0 [(0, .ref (wAd w (7, 11, 6, 0))), (1, .int a1)] []
  refine r_iload_n C (k := 1) rfl rfl dX10_postedCount_0 ?_
  rcases ox_e hF with ⟨u1, hu1, hF⟩ | ⟨kx2, hkx2, hF⟩
  rotate_left
  · cases hF
  refine r_callS C (d' := 6) [.int a1] (c_X10_requireGardener hS a1 hu1) myX10_requireGardener wm4_84 rfl (kR rfl) (by decide) (kR rfl) rfl dX10_postedCount_1 ?_
  refine r_aload_n C (k := 0) rfl rfl dX10_postedCount_4 ?_
  refine og_7_0 C (hW.ok k7) wm2_159 dX10_postedCount_5 ?_
  refine ogN_0_15 C (hW.ok (k0 (by decide))) wm1_161 dX10_postedCount_8 ?_
  refine r_iload_n C (k := 1) rfl rfl dX10_postedCount_11 ?_
  obtain ⟨v3, hv3, hF⟩ := ob1_e hF
  refine r_callV C (d' := 1) [.int a1] (c_X7_countOf hW (by decide) (congrFun (congrFun e 0) 3) N a1 hv3) myX7_countOf wm5_53 ⟨_, _, _, _, (hW.ok (k2 (by decide))), rfl, rfl, rfl, rfl⟩ rfl (kR rfl) (by decide) (kR rfl) rfl dX10_postedCount_12 ?_
  cases hF
  exact r_ireturn C dX10_postedCount_15
theorem x_X10_postedCount {w : WP} (hW : gW w) (hS : gS w) (hZ : gZ w) {Ω : OM}  {S : Nat → Nat → HV} (e : Ω.1 = S) (N : Nat) (a1 : Int32) {k9 : Nat} (hF : F_X10_postedCount N a1 S = some (.inr k9)) : gMx w 7 yX10_postedCount cX10_postedCount 2 (some .int) [.ref (wAd w (7, 11, 6, 0)), .int a1] (cA w Ω) (xN k9) (cA w Ω) := by
  refine gMx_of "HedgeMessages" rfl (by decide) (kR rfl) fun X C hT9 => ?_
  unfold F_X10_postedCount at hF
  show gU w X _ _ 0 [(0, .ref (wAd w (7, 11, 6, 0))), (1, .int a1)] []
  refine r_iload_n C (k := 1) rfl rfl dX10_postedCount_0 ?_
  rcases ox_e hF with ⟨u1, hu1, hF⟩ | ⟨kx2, hkx2, hF⟩
  rotate_left
  · cases hF
    exact x_callS C hT9 (d' := 6) [.int a1] (x_X10_requireGardener hS hZ a1 hkx2) myX10_requireGardener wm4_84 rfl (kR rfl) (by decide) (kR rfl) rfl dX10_postedCount_1
  refine r_callS C (d' := 6) [.int a1] (c_X10_requireGardener hS a1 hu1) myX10_requireGardener wm4_84 rfl (kR rfl) (by decide) (kR rfl) rfl dX10_postedCount_1 ?_
  refine r_aload_n C (k := 0) rfl rfl dX10_postedCount_4 ?_
  refine og_7_0 C (hW.ok k7) wm2_159 dX10_postedCount_5 ?_
  refine ogN_0_15 C (hW.ok (k0 (by decide))) wm1_161 dX10_postedCount_8 ?_
  refine r_iload_n C (k := 1) rfl rfl dX10_postedCount_11 ?_
  obtain ⟨v3, hv3, hF⟩ := ob1_e hF
  refine r_callV C (d' := 1) [.int a1] (c_X7_countOf hW (by decide) (congrFun (congrFun e 0) 3) N a1 hv3) myX7_countOf wm5_53 ⟨_, _, _, _, (hW.ok (k2 (by decide))), rfl, rfl, rfl, rfl⟩ rfl (kR rfl) (by decide) (kR rfl) rfl dX10_postedCount_12 ?_
  cases hF
theorem dX10_nextStartSlot_0 : decode cX10_nextStartSlot 0 = .ok (.iload_n 1, 1) := by decide +kernel
theorem dX10_nextStartSlot_1 : decode cX10_nextStartSlot 1 = .ok (.invokestatic 179, 3) := by decide +kernel
theorem dX10_nextStartSlot_4 : decode cX10_nextStartSlot 4 = .ok (.aload_n 0, 1) := by decide +kernel
theorem dX10_nextStartSlot_5 : decode cX10_nextStartSlot 5 = .ok (.getfield 10, 3) := by decide +kernel
theorem dX10_nextStartSlot_8 : decode cX10_nextStartSlot 8 = .ok (.aload_n 0, 1) := by decide +kernel
theorem dX10_nextStartSlot_9 : decode cX10_nextStartSlot 9 = .ok (.getfield 10, 3) := by decide +kernel
theorem dX10_nextStartSlot_12 : decode cX10_nextStartSlot 12 = .ok (.iload_n 1, 1) := by decide +kernel
theorem dX10_nextStartSlot_13 : decode cX10_nextStartSlot 13 = .ok (.invokevirtual 182, 3) := by decide +kernel
theorem dX10_nextStartSlot_16 : decode cX10_nextStartSlot 16 = .ok (.iconst 0, 1) := by decide +kernel
theorem dX10_nextStartSlot_17 : decode cX10_nextStartSlot 17 = .ok (.invokevirtual 214, 3) := by decide +kernel
theorem dX10_nextStartSlot_20 : decode cX10_nextStartSlot 20 = .ok (.invokevirtual 217, 3) := by decide +kernel
theorem dX10_nextStartSlot_23 : decode cX10_nextStartSlot 23 = .ok (.ireturn, 1) := by decide +kernel
def F_X10_nextStartSlot (N : Nat) (a1 : Int32) (S : Nat → Nat → HV) : Option ((Int32) ⊕ Nat) := (ox (F_X10_requireGardener a1) (fun k9 => some (.inr k9)) fun u1 => (ob1 (F_X5_findStart N (F_X4_lengthOf 0 (S 0 (gsel a1))) (S 0)) fun v3 => some (.inl v3)))
theorem c_X10_nextStartSlot {w : WP} (hW : gW w) (hS : gS w) {Ω : OM}  {S : Nat → Nat → HV} (e : Ω.1 = S) (N : Nat) (a1 : Int32) {v : Int32} (hF : F_X10_nextStartSlot N a1 S = some (.inl v)) : gM w 7 yX10_nextStartSlot cX10_nextStartSlot 2 (some .int) [.ref (wAd w (7, 11, 6, 0)), .int a1] (cA w Ω) (some (.int v)) (cA w Ω) := by
  refine gM_of "HedgeMessages" rfl (by decide) (kR rfl) fun X C => ?_
  unfold F_X10_nextStartSlot at hF
  show gV w X _ _ 0 [(0, .ref (wAd w (7, 11, 6, 0))), (1, .int a1)] []
  refine r_iload_n C (k := 1) rfl rfl dX10_nextStartSlot_0 ?_
  rcases ox_e hF with ⟨u1, hu1, hF⟩ | ⟨kx2, hkx2, hF⟩
  rotate_left
  · cases hF
  refine r_callS C (d' := 6) [.int a1] (c_X10_requireGardener hS a1 hu1) myX10_requireGardener wm4_84 rfl (kR rfl) (by decide) (kR rfl) rfl dX10_nextStartSlot_1 ?_
  refine r_aload_n C (k := 0) rfl rfl dX10_nextStartSlot_4 ?_
  refine og_7_0 C (hW.ok k7) wm2_159 dX10_nextStartSlot_5 ?_
  refine r_aload_n C (k := 0) rfl rfl dX10_nextStartSlot_8 ?_
  refine og_7_0 C (hW.ok k7) wm2_159 dX10_nextStartSlot_9 ?_
  refine r_iload_n C (k := 1) rfl rfl dX10_nextStartSlot_12 ?_
  refine r_callV C (d' := 0) [.int a1] (c_X5_gardener hW (by decide) a1) myX5_gardener wm4_96 ⟨_, _, _, _, (hW.ok (k0 (by decide))), rfl, rfl, rfl, rfl⟩ rfl (kR rfl) (by decide) (kR rfl) rfl dX10_nextStartSlot_13 ?_
  refine r_iconst C (v := 0) rfl dX10_nextStartSlot_16 ?_
  refine r_callV C (d' := 1) [.int 0] (c_X4_lengthOf hW (by decide) gsel_12 (congrFun (congrFun e 0) (gsel a1)) 0 rfl) myX4_lengthOf wm4_110 ⟨_, _, _, _, (hW.ok (k1 (by decide) gsel_12)), rfl, rfl, rfl, rfl⟩ rfl (kR rfl) (by decide) (kR rfl) rfl dX10_nextStartSlot_17 ?_
  obtain ⟨v3, hv3, hF⟩ := ob1_e hF
  refine r_callV C (d' := 1) [.int (F_X4_lengthOf 0 (S 0 (gsel a1)))] (c_X5_findStart hW (by decide) (congrFun e 0) N (F_X4_lengthOf 0 (S 0 (gsel a1))) hv3) myX5_findStart wm5_137 ⟨_, _, _, _, (hW.ok (k0 (by decide))), rfl, rfl, rfl, rfl⟩ rfl (kR rfl) (by decide) (kR rfl) rfl dX10_nextStartSlot_20 ?_
  cases hF
  exact r_ireturn C dX10_nextStartSlot_23
theorem x_X10_nextStartSlot {w : WP} (hW : gW w) (hS : gS w) (hZ : gZ w) {Ω : OM}  {S : Nat → Nat → HV} (e : Ω.1 = S) (N : Nat) (a1 : Int32) {k9 : Nat} (hF : F_X10_nextStartSlot N a1 S = some (.inr k9)) : gMx w 7 yX10_nextStartSlot cX10_nextStartSlot 2 (some .int) [.ref (wAd w (7, 11, 6, 0)), .int a1] (cA w Ω) (xN k9) (cA w Ω) := by
  refine gMx_of "HedgeMessages" rfl (by decide) (kR rfl) fun X C hT9 => ?_
  unfold F_X10_nextStartSlot at hF
  show gU w X _ _ 0 [(0, .ref (wAd w (7, 11, 6, 0))), (1, .int a1)] []
  refine r_iload_n C (k := 1) rfl rfl dX10_nextStartSlot_0 ?_
  rcases ox_e hF with ⟨u1, hu1, hF⟩ | ⟨kx2, hkx2, hF⟩
  rotate_left
  · cases hF
    exact x_callS C hT9 (d' := 6) [.int a1] (x_X10_requireGardener hS hZ a1 hkx2) myX10_requireGardener wm4_84 rfl (kR rfl) (by decide) (kR rfl) rfl dX10_nextStartSlot_1
  refine r_callS C (d' := 6) [.int a1] (c_X10_requireGardener hS a1 hu1) myX10_requireGardener wm4_84 rfl (kR rfl) (by decide) (kR rfl) rfl dX10_nextStartSlot_1 ?_
  refine r_aload_n C (k := 0) rfl rfl dX10_nextStartSlot_4 ?_
  refine og_7_0 C (hW.ok k7) wm2_159 dX10_nextStartSlot_5 ?_
  refine r_aload_n C (k := 0) rfl rfl dX10_nextStartSlot_8 ?_
  refine og_7_0 C (hW.ok k7) wm2_159 dX10_nextStartSlot_9 ?_
  refine r_iload_n C (k := 1) rfl rfl dX10_nextStartSlot_12 ?_
  refine r_callV C (d' := 0) [.int a1] (c_X5_gardener hW (by decide) a1) myX5_gardener wm4_96 ⟨_, _, _, _, (hW.ok (k0 (by decide))), rfl, rfl, rfl, rfl⟩ rfl (kR rfl) (by decide) (kR rfl) rfl dX10_nextStartSlot_13 ?_
  refine r_iconst C (v := 0) rfl dX10_nextStartSlot_16 ?_
  refine r_callV C (d' := 1) [.int 0] (c_X4_lengthOf hW (by decide) gsel_12 (congrFun (congrFun e 0) (gsel a1)) 0 rfl) myX4_lengthOf wm4_110 ⟨_, _, _, _, (hW.ok (k1 (by decide) gsel_12)), rfl, rfl, rfl, rfl⟩ rfl (kR rfl) (by decide) (kR rfl) rfl dX10_nextStartSlot_17 ?_
  obtain ⟨v3, hv3, hF⟩ := ob1_e hF
  refine r_callV C (d' := 1) [.int (F_X4_lengthOf 0 (S 0 (gsel a1)))] (c_X5_findStart hW (by decide) (congrFun e 0) N (F_X4_lengthOf 0 (S 0 (gsel a1))) hv3) myX5_findStart wm5_137 ⟨_, _, _, _, (hW.ok (k0 (by decide))), rfl, rfl, rfl, rfl⟩ rfl (kR rfl) (by decide) (kR rfl) rfl dX10_nextStartSlot_20 ?_
  cases hF
theorem dX10_plantReason_0 : decode cX10_plantReason 0 = .ok (.aload_n 0, 1) := by decide +kernel
theorem dX10_plantReason_1 : decode cX10_plantReason 1 = .ok (.iload_n 1, 1) := by decide +kernel
theorem dX10_plantReason_2 : decode cX10_plantReason 2 = .ok (.invokevirtual 148, 3) := by decide +kernel
theorem dX10_plantReason_5 : decode cX10_plantReason 5 = .ok (.aload_n 0, 1) := by decide +kernel
theorem dX10_plantReason_6 : decode cX10_plantReason 6 = .ok (.getfield 10, 3) := by decide +kernel
theorem dX10_plantReason_9 : decode cX10_plantReason 9 = .ok (.iload_n 1, 1) := by decide +kernel
theorem dX10_plantReason_10 : decode cX10_plantReason 10 = .ok (.invokevirtual 226, 3) := by decide +kernel
theorem dX10_plantReason_13 : decode cX10_plantReason 13 = .ok (.ireturn, 1) := by decide +kernel
def F_X10_plantReason (a1 : Int32) (S : Nat → Nat → HV) : Option ((Int32) ⊕ Nat) := (ox (F_X10_requireSlot a1 S) (fun k9 => some (.inr k9)) fun u1 => some (.inl (F_X5_reasonNotToPlant a1 (S 0))))
theorem c_X10_plantReason {w : WP} (hW : gW w) (hS : gS w) {Ω : OM}  {S : Nat → Nat → HV} (e : Ω.1 = S) (a1 : Int32) {v : Int32} (hF : F_X10_plantReason a1 S = some (.inl v)) : gM w 7 yX10_plantReason cX10_plantReason 2 (some .int) [.ref (wAd w (7, 11, 6, 0)), .int a1] (cA w Ω) (some (.int v)) (cA w Ω) := by
  refine gM_of "HedgeMessages" rfl (by decide) (kR rfl) fun X C => ?_
  unfold F_X10_plantReason at hF
  show gV w X _ _ 0 [(0, .ref (wAd w (7, 11, 6, 0))), (1, .int a1)] []
  refine r_aload_n C (k := 0) rfl rfl dX10_plantReason_0 ?_
  refine r_iload_n C (k := 1) rfl rfl dX10_plantReason_1 ?_
  rcases ox_e hF with ⟨u1, hu1, hF⟩ | ⟨kx2, hkx2, hF⟩
  rotate_left
  · cases hF
  refine r_callV C (d' := 6) [.int a1] (c_X10_requireSlot hW hS e a1 hu1) myX10_requireSlot wm3_202 ⟨_, _, _, _, (hW.ok k7), rfl, rfl, rfl, rfl⟩ rfl (kR rfl) (by decide) (kR rfl) rfl dX10_plantReason_2 ?_
  refine r_aload_n C (k := 0) rfl rfl dX10_plantReason_5 ?_
  refine og_7_0 C (hW.ok k7) wm2_159 dX10_plantReason_6 ?_
  refine r_iload_n C (k := 1) rfl rfl dX10_plantReason_9 ?_
  refine r_callV C (d' := 2) [.int a1] (c_X5_reasonNotToPlant hW (by decide) (congrFun e 0) a1 rfl) myX5_reasonNotToPlant wm5_116 ⟨_, _, _, _, (hW.ok (k0 (by decide))), rfl, rfl, rfl, rfl⟩ rfl (kR rfl) (by decide) (kR rfl) rfl dX10_plantReason_10 ?_
  cases hF
  exact r_ireturn C dX10_plantReason_13
theorem x_X10_plantReason {w : WP} (hW : gW w) (hS : gS w) (hZ : gZ w) {Ω : OM}  {S : Nat → Nat → HV} (e : Ω.1 = S) (a1 : Int32) {k9 : Nat} (hF : F_X10_plantReason a1 S = some (.inr k9)) : gMx w 7 yX10_plantReason cX10_plantReason 2 (some .int) [.ref (wAd w (7, 11, 6, 0)), .int a1] (cA w Ω) (xN k9) (cA w Ω) := by
  refine gMx_of "HedgeMessages" rfl (by decide) (kR rfl) fun X C hT9 => ?_
  unfold F_X10_plantReason at hF
  show gU w X _ _ 0 [(0, .ref (wAd w (7, 11, 6, 0))), (1, .int a1)] []
  refine r_aload_n C (k := 0) rfl rfl dX10_plantReason_0 ?_
  refine r_iload_n C (k := 1) rfl rfl dX10_plantReason_1 ?_
  rcases ox_e hF with ⟨u1, hu1, hF⟩ | ⟨kx2, hkx2, hF⟩
  rotate_left
  · cases hF
    exact x_callV C hT9 (d' := 6) [.int a1] (x_X10_requireSlot hW hS hZ e a1 hkx2) myX10_requireSlot wm3_202 ⟨_, _, _, _, (hW.ok k7), rfl, rfl, rfl, rfl⟩ rfl (kR rfl) (by decide) (kR rfl) rfl dX10_plantReason_2
  refine r_callV C (d' := 6) [.int a1] (c_X10_requireSlot hW hS e a1 hu1) myX10_requireSlot wm3_202 ⟨_, _, _, _, (hW.ok k7), rfl, rfl, rfl, rfl⟩ rfl (kR rfl) (by decide) (kR rfl) rfl dX10_plantReason_2 ?_
  refine r_aload_n C (k := 0) rfl rfl dX10_plantReason_5 ?_
  refine og_7_0 C (hW.ok k7) wm2_159 dX10_plantReason_6 ?_
  refine r_iload_n C (k := 1) rfl rfl dX10_plantReason_9 ?_
  refine r_callV C (d' := 2) [.int a1] (c_X5_reasonNotToPlant hW (by decide) (congrFun e 0) a1 rfl) myX5_reasonNotToPlant wm5_116 ⟨_, _, _, _, (hW.ok (k0 (by decide))), rfl, rfl, rfl, rfl⟩ rfl (kR rfl) (by decide) (kR rfl) rfl dX10_plantReason_10 ?_
  cases hF
theorem dX10_removeReason_0 : decode cX10_removeReason 0 = .ok (.aload_n 0, 1) := by decide +kernel
theorem dX10_removeReason_1 : decode cX10_removeReason 1 = .ok (.iload_n 1, 1) := by decide +kernel
theorem dX10_removeReason_2 : decode cX10_removeReason 2 = .ok (.invokevirtual 148, 3) := by decide +kernel
theorem dX10_removeReason_5 : decode cX10_removeReason 5 = .ok (.aload_n 0, 1) := by decide +kernel
theorem dX10_removeReason_6 : decode cX10_removeReason 6 = .ok (.getfield 10, 3) := by decide +kernel
theorem dX10_removeReason_9 : decode cX10_removeReason 9 = .ok (.iload_n 1, 1) := by decide +kernel
theorem dX10_removeReason_10 : decode cX10_removeReason 10 = .ok (.invokevirtual 229, 3) := by decide +kernel
theorem dX10_removeReason_13 : decode cX10_removeReason 13 = .ok (.ireturn, 1) := by decide +kernel
def F_X10_removeReason (a1 : Int32) (S : Nat → Nat → HV) : Option ((Int32) ⊕ Nat) := (ox (F_X10_requireSlot a1 S) (fun k9 => some (.inr k9)) fun u1 => some (.inl (F_X5_reasonNotToRemove a1 (S 0))))
theorem c_X10_removeReason {w : WP} (hW : gW w) (hS : gS w) {Ω : OM}  {S : Nat → Nat → HV} (e : Ω.1 = S) (a1 : Int32) {v : Int32} (hF : F_X10_removeReason a1 S = some (.inl v)) : gM w 7 yX10_removeReason cX10_removeReason 2 (some .int) [.ref (wAd w (7, 11, 6, 0)), .int a1] (cA w Ω) (some (.int v)) (cA w Ω) := by
  refine gM_of "HedgeMessages" rfl (by decide) (kR rfl) fun X C => ?_
  unfold F_X10_removeReason at hF
  show gV w X _ _ 0 [(0, .ref (wAd w (7, 11, 6, 0))), (1, .int a1)] []
  refine r_aload_n C (k := 0) rfl rfl dX10_removeReason_0 ?_
  refine r_iload_n C (k := 1) rfl rfl dX10_removeReason_1 ?_
  rcases ox_e hF with ⟨u1, hu1, hF⟩ | ⟨kx2, hkx2, hF⟩
  rotate_left
  · cases hF
  refine r_callV C (d' := 6) [.int a1] (c_X10_requireSlot hW hS e a1 hu1) myX10_requireSlot wm3_202 ⟨_, _, _, _, (hW.ok k7), rfl, rfl, rfl, rfl⟩ rfl (kR rfl) (by decide) (kR rfl) rfl dX10_removeReason_2 ?_
  refine r_aload_n C (k := 0) rfl rfl dX10_removeReason_5 ?_
  refine og_7_0 C (hW.ok k7) wm2_159 dX10_removeReason_6 ?_
  refine r_iload_n C (k := 1) rfl rfl dX10_removeReason_9 ?_
  refine r_callV C (d' := 2) [.int a1] (c_X5_reasonNotToRemove hW (by decide) (congrFun e 0) a1 rfl) myX5_reasonNotToRemove wm5_111 ⟨_, _, _, _, (hW.ok (k0 (by decide))), rfl, rfl, rfl, rfl⟩ rfl (kR rfl) (by decide) (kR rfl) rfl dX10_removeReason_10 ?_
  cases hF
  exact r_ireturn C dX10_removeReason_13
theorem x_X10_removeReason {w : WP} (hW : gW w) (hS : gS w) (hZ : gZ w) {Ω : OM}  {S : Nat → Nat → HV} (e : Ω.1 = S) (a1 : Int32) {k9 : Nat} (hF : F_X10_removeReason a1 S = some (.inr k9)) : gMx w 7 yX10_removeReason cX10_removeReason 2 (some .int) [.ref (wAd w (7, 11, 6, 0)), .int a1] (cA w Ω) (xN k9) (cA w Ω) := by
  refine gMx_of "HedgeMessages" rfl (by decide) (kR rfl) fun X C hT9 => ?_
  unfold F_X10_removeReason at hF
  show gU w X _ _ 0 [(0, .ref (wAd w (7, 11, 6, 0))), (1, .int a1)] []
  refine r_aload_n C (k := 0) rfl rfl dX10_removeReason_0 ?_
  refine r_iload_n C (k := 1) rfl rfl dX10_removeReason_1 ?_
  rcases ox_e hF with ⟨u1, hu1, hF⟩ | ⟨kx2, hkx2, hF⟩
  rotate_left
  · cases hF
    exact x_callV C hT9 (d' := 6) [.int a1] (x_X10_requireSlot hW hS hZ e a1 hkx2) myX10_requireSlot wm3_202 ⟨_, _, _, _, (hW.ok k7), rfl, rfl, rfl, rfl⟩ rfl (kR rfl) (by decide) (kR rfl) rfl dX10_removeReason_2
  refine r_callV C (d' := 6) [.int a1] (c_X10_requireSlot hW hS e a1 hu1) myX10_requireSlot wm3_202 ⟨_, _, _, _, (hW.ok k7), rfl, rfl, rfl, rfl⟩ rfl (kR rfl) (by decide) (kR rfl) rfl dX10_removeReason_2 ?_
  refine r_aload_n C (k := 0) rfl rfl dX10_removeReason_5 ?_
  refine og_7_0 C (hW.ok k7) wm2_159 dX10_removeReason_6 ?_
  refine r_iload_n C (k := 1) rfl rfl dX10_removeReason_9 ?_
  refine r_callV C (d' := 2) [.int a1] (c_X5_reasonNotToRemove hW (by decide) (congrFun e 0) a1 rfl) myX5_reasonNotToRemove wm5_111 ⟨_, _, _, _, (hW.ok (k0 (by decide))), rfl, rfl, rfl, rfl⟩ rfl (kR rfl) (by decide) (kR rfl) rfl dX10_removeReason_10 ?_
  cases hF
theorem dX10_trimReason_0 : decode cX10_trimReason 0 = .ok (.aload_n 0, 1) := by decide +kernel
theorem dX10_trimReason_1 : decode cX10_trimReason 1 = .ok (.iload_n 1, 1) := by decide +kernel
theorem dX10_trimReason_2 : decode cX10_trimReason 2 = .ok (.invokevirtual 148, 3) := by decide +kernel
theorem dX10_trimReason_5 : decode cX10_trimReason 5 = .ok (.aload_n 0, 1) := by decide +kernel
theorem dX10_trimReason_6 : decode cX10_trimReason 6 = .ok (.getfield 10, 3) := by decide +kernel
theorem dX10_trimReason_9 : decode cX10_trimReason 9 = .ok (.iload_n 1, 1) := by decide +kernel
theorem dX10_trimReason_10 : decode cX10_trimReason 10 = .ok (.invokevirtual 232, 3) := by decide +kernel
theorem dX10_trimReason_13 : decode cX10_trimReason 13 = .ok (.ireturn, 1) := by decide +kernel
def F_X10_trimReason (a1 : Int32) (S : Nat → Nat → HV) : Option ((Int32) ⊕ Nat) := (ox (F_X10_requireSlot a1 S) (fun k9 => some (.inr k9)) fun u1 => some (.inl (F_X5_reasonNotToTrim a1 (S 0))))
theorem c_X10_trimReason {w : WP} (hW : gW w) (hS : gS w) {Ω : OM}  {S : Nat → Nat → HV} (e : Ω.1 = S) (a1 : Int32) {v : Int32} (hF : F_X10_trimReason a1 S = some (.inl v)) : gM w 7 yX10_trimReason cX10_trimReason 2 (some .int) [.ref (wAd w (7, 11, 6, 0)), .int a1] (cA w Ω) (some (.int v)) (cA w Ω) := by
  refine gM_of "HedgeMessages" rfl (by decide) (kR rfl) fun X C => ?_
  unfold F_X10_trimReason at hF
  show gV w X _ _ 0 [(0, .ref (wAd w (7, 11, 6, 0))), (1, .int a1)] []
  refine r_aload_n C (k := 0) rfl rfl dX10_trimReason_0 ?_
  refine r_iload_n C (k := 1) rfl rfl dX10_trimReason_1 ?_
  rcases ox_e hF with ⟨u1, hu1, hF⟩ | ⟨kx2, hkx2, hF⟩
  rotate_left
  · cases hF
  refine r_callV C (d' := 6) [.int a1] (c_X10_requireSlot hW hS e a1 hu1) myX10_requireSlot wm3_202 ⟨_, _, _, _, (hW.ok k7), rfl, rfl, rfl, rfl⟩ rfl (kR rfl) (by decide) (kR rfl) rfl dX10_trimReason_2 ?_
  refine r_aload_n C (k := 0) rfl rfl dX10_trimReason_5 ?_
  refine og_7_0 C (hW.ok k7) wm2_159 dX10_trimReason_6 ?_
  refine r_iload_n C (k := 1) rfl rfl dX10_trimReason_9 ?_
  refine r_callV C (d' := 2) [.int a1] (c_X5_reasonNotToTrim hW (by decide) (congrFun e 0) a1 rfl) myX5_reasonNotToTrim wm5_121 ⟨_, _, _, _, (hW.ok (k0 (by decide))), rfl, rfl, rfl, rfl⟩ rfl (kR rfl) (by decide) (kR rfl) rfl dX10_trimReason_10 ?_
  cases hF
  exact r_ireturn C dX10_trimReason_13
theorem x_X10_trimReason {w : WP} (hW : gW w) (hS : gS w) (hZ : gZ w) {Ω : OM}  {S : Nat → Nat → HV} (e : Ω.1 = S) (a1 : Int32) {k9 : Nat} (hF : F_X10_trimReason a1 S = some (.inr k9)) : gMx w 7 yX10_trimReason cX10_trimReason 2 (some .int) [.ref (wAd w (7, 11, 6, 0)), .int a1] (cA w Ω) (xN k9) (cA w Ω) := by
  refine gMx_of "HedgeMessages" rfl (by decide) (kR rfl) fun X C hT9 => ?_
  unfold F_X10_trimReason at hF
  show gU w X _ _ 0 [(0, .ref (wAd w (7, 11, 6, 0))), (1, .int a1)] []
  refine r_aload_n C (k := 0) rfl rfl dX10_trimReason_0 ?_
  refine r_iload_n C (k := 1) rfl rfl dX10_trimReason_1 ?_
  rcases ox_e hF with ⟨u1, hu1, hF⟩ | ⟨kx2, hkx2, hF⟩
  rotate_left
  · cases hF
    exact x_callV C hT9 (d' := 6) [.int a1] (x_X10_requireSlot hW hS hZ e a1 hkx2) myX10_requireSlot wm3_202 ⟨_, _, _, _, (hW.ok k7), rfl, rfl, rfl, rfl⟩ rfl (kR rfl) (by decide) (kR rfl) rfl dX10_trimReason_2
  refine r_callV C (d' := 6) [.int a1] (c_X10_requireSlot hW hS e a1 hu1) myX10_requireSlot wm3_202 ⟨_, _, _, _, (hW.ok k7), rfl, rfl, rfl, rfl⟩ rfl (kR rfl) (by decide) (kR rfl) rfl dX10_trimReason_2 ?_
  refine r_aload_n C (k := 0) rfl rfl dX10_trimReason_5 ?_
  refine og_7_0 C (hW.ok k7) wm2_159 dX10_trimReason_6 ?_
  refine r_iload_n C (k := 1) rfl rfl dX10_trimReason_9 ?_
  refine r_callV C (d' := 2) [.int a1] (c_X5_reasonNotToTrim hW (by decide) (congrFun e 0) a1 rfl) myX5_reasonNotToTrim wm5_121 ⟨_, _, _, _, (hW.ok (k0 (by decide))), rfl, rfl, rfl, rfl⟩ rfl (kR rfl) (by decide) (kR rfl) rfl dX10_trimReason_10 ?_
  cases hF
theorem dX10_writeReason_0 : decode cX10_writeReason 0 = .ok (.iload_n 1, 1) := by decide +kernel
theorem dX10_writeReason_1 : decode cX10_writeReason 1 = .ok (.invokestatic 179, 3) := by decide +kernel
theorem dX10_writeReason_4 : decode cX10_writeReason 4 = .ok (.aload_n 0, 1) := by decide +kernel
theorem dX10_writeReason_5 : decode cX10_writeReason 5 = .ok (.getfield 10, 3) := by decide +kernel
theorem dX10_writeReason_8 : decode cX10_writeReason 8 = .ok (.iload_n 1, 1) := by decide +kernel
theorem dX10_writeReason_9 : decode cX10_writeReason 9 = .ok (.invokevirtual 235, 3) := by decide +kernel
theorem dX10_writeReason_12 : decode cX10_writeReason 12 = .ok (.ireturn, 1) := by decide +kernel
def F_X10_writeReason (N : Nat) (a1 : Int32) (S : Nat → Nat → HV) : Option ((Int32) ⊕ Nat) := (ox (F_X10_requireGardener a1) (fun k9 => some (.inr k9)) fun u1 => (ob1 (F_X5_reasonNotToWrite N a1 (S 0)) fun v3 => some (.inl v3)))
theorem c_X10_writeReason {w : WP} (hW : gW w) (hS : gS w) {Ω : OM}  {S : Nat → Nat → HV} (e : Ω.1 = S) (N : Nat) (a1 : Int32) {v : Int32} (hF : F_X10_writeReason N a1 S = some (.inl v)) : gM w 7 yX10_writeReason cX10_writeReason 2 (some .int) [.ref (wAd w (7, 11, 6, 0)), .int a1] (cA w Ω) (some (.int v)) (cA w Ω) := by
  refine gM_of "HedgeMessages" rfl (by decide) (kR rfl) fun X C => ?_
  unfold F_X10_writeReason at hF
  show gV w X _ _ 0 [(0, .ref (wAd w (7, 11, 6, 0))), (1, .int a1)] []
  refine r_iload_n C (k := 1) rfl rfl dX10_writeReason_0 ?_
  rcases ox_e hF with ⟨u1, hu1, hF⟩ | ⟨kx2, hkx2, hF⟩
  rotate_left
  · cases hF
  refine r_callS C (d' := 6) [.int a1] (c_X10_requireGardener hS a1 hu1) myX10_requireGardener wm4_84 rfl (kR rfl) (by decide) (kR rfl) rfl dX10_writeReason_1 ?_
  refine r_aload_n C (k := 0) rfl rfl dX10_writeReason_4 ?_
  refine og_7_0 C (hW.ok k7) wm2_159 dX10_writeReason_5 ?_
  refine r_iload_n C (k := 1) rfl rfl dX10_writeReason_8 ?_
  obtain ⟨v3, hv3, hF⟩ := ob1_e hF
  refine r_callV C (d' := 2) [.int a1] (c_X5_reasonNotToWrite hW (by decide) (congrFun e 0) N a1 hv3) myX5_reasonNotToWrite wm5_142 ⟨_, _, _, _, (hW.ok (k0 (by decide))), rfl, rfl, rfl, rfl⟩ rfl (kR rfl) (by decide) (kR rfl) rfl dX10_writeReason_9 ?_
  cases hF
  exact r_ireturn C dX10_writeReason_12
theorem x_X10_writeReason {w : WP} (hW : gW w) (hS : gS w) (hZ : gZ w) {Ω : OM}  {S : Nat → Nat → HV} (e : Ω.1 = S) (N : Nat) (a1 : Int32) {k9 : Nat} (hF : F_X10_writeReason N a1 S = some (.inr k9)) : gMx w 7 yX10_writeReason cX10_writeReason 2 (some .int) [.ref (wAd w (7, 11, 6, 0)), .int a1] (cA w Ω) (xN k9) (cA w Ω) := by
  refine gMx_of "HedgeMessages" rfl (by decide) (kR rfl) fun X C hT9 => ?_
  unfold F_X10_writeReason at hF
  show gU w X _ _ 0 [(0, .ref (wAd w (7, 11, 6, 0))), (1, .int a1)] []
  refine r_iload_n C (k := 1) rfl rfl dX10_writeReason_0 ?_
  rcases ox_e hF with ⟨u1, hu1, hF⟩ | ⟨kx2, hkx2, hF⟩
  rotate_left
  · cases hF
    exact x_callS C hT9 (d' := 6) [.int a1] (x_X10_requireGardener hS hZ a1 hkx2) myX10_requireGardener wm4_84 rfl (kR rfl) (by decide) (kR rfl) rfl dX10_writeReason_1
  refine r_callS C (d' := 6) [.int a1] (c_X10_requireGardener hS a1 hu1) myX10_requireGardener wm4_84 rfl (kR rfl) (by decide) (kR rfl) rfl dX10_writeReason_1 ?_
  refine r_aload_n C (k := 0) rfl rfl dX10_writeReason_4 ?_
  refine og_7_0 C (hW.ok k7) wm2_159 dX10_writeReason_5 ?_
  refine r_iload_n C (k := 1) rfl rfl dX10_writeReason_8 ?_
  obtain ⟨v3, hv3, hF⟩ := ob1_e hF
  refine r_callV C (d' := 2) [.int a1] (c_X5_reasonNotToWrite hW (by decide) (congrFun e 0) N a1 hv3) myX5_reasonNotToWrite wm5_142 ⟨_, _, _, _, (hW.ok (k0 (by decide))), rfl, rfl, rfl, rfl⟩ rfl (kR rfl) (by decide) (kR rfl) rfl dX10_writeReason_9 ?_
  cases hF
theorem dX10_keepReason_0 : decode cX10_keepReason 0 = .ok (.aload_n 0, 1) := by decide +kernel
theorem dX10_keepReason_1 : decode cX10_keepReason 1 = .ok (.iload_n 1, 1) := by decide +kernel
theorem dX10_keepReason_2 : decode cX10_keepReason 2 = .ok (.invokevirtual 148, 3) := by decide +kernel
theorem dX10_keepReason_5 : decode cX10_keepReason 5 = .ok (.aload_n 0, 1) := by decide +kernel
theorem dX10_keepReason_6 : decode cX10_keepReason 6 = .ok (.getfield 10, 3) := by decide +kernel
theorem dX10_keepReason_9 : decode cX10_keepReason 9 = .ok (.iload_n 1, 1) := by decide +kernel
theorem dX10_keepReason_10 : decode cX10_keepReason 10 = .ok (.invokevirtual 238, 3) := by decide +kernel
theorem dX10_keepReason_13 : decode cX10_keepReason 13 = .ok (.ireturn, 1) := by decide +kernel
def F_X10_keepReason (a1 : Int32) (S : Nat → Nat → HV) : Option ((Int32) ⊕ Nat) := (ox (F_X10_requireSlot a1 S) (fun k9 => some (.inr k9)) fun u1 => some (.inl (F_X5_reasonNotToPrune a1 (S 0))))
theorem c_X10_keepReason {w : WP} (hW : gW w) (hS : gS w) {Ω : OM}  {S : Nat → Nat → HV} (e : Ω.1 = S) (a1 : Int32) {v : Int32} (hF : F_X10_keepReason a1 S = some (.inl v)) : gM w 7 yX10_keepReason cX10_keepReason 2 (some .int) [.ref (wAd w (7, 11, 6, 0)), .int a1] (cA w Ω) (some (.int v)) (cA w Ω) := by
  refine gM_of "HedgeMessages" rfl (by decide) (kR rfl) fun X C => ?_
  unfold F_X10_keepReason at hF
  show gV w X _ _ 0 [(0, .ref (wAd w (7, 11, 6, 0))), (1, .int a1)] []
  refine r_aload_n C (k := 0) rfl rfl dX10_keepReason_0 ?_
  refine r_iload_n C (k := 1) rfl rfl dX10_keepReason_1 ?_
  rcases ox_e hF with ⟨u1, hu1, hF⟩ | ⟨kx2, hkx2, hF⟩
  rotate_left
  · cases hF
  refine r_callV C (d' := 6) [.int a1] (c_X10_requireSlot hW hS e a1 hu1) myX10_requireSlot wm3_202 ⟨_, _, _, _, (hW.ok k7), rfl, rfl, rfl, rfl⟩ rfl (kR rfl) (by decide) (kR rfl) rfl dX10_keepReason_2 ?_
  refine r_aload_n C (k := 0) rfl rfl dX10_keepReason_5 ?_
  refine og_7_0 C (hW.ok k7) wm2_159 dX10_keepReason_6 ?_
  refine r_iload_n C (k := 1) rfl rfl dX10_keepReason_9 ?_
  refine r_callV C (d' := 2) [.int a1] (c_X5_reasonNotToPrune hW (by decide) (congrFun e 0) a1 rfl) myX5_reasonNotToPrune wm5_126 ⟨_, _, _, _, (hW.ok (k0 (by decide))), rfl, rfl, rfl, rfl⟩ rfl (kR rfl) (by decide) (kR rfl) rfl dX10_keepReason_10 ?_
  cases hF
  exact r_ireturn C dX10_keepReason_13
theorem x_X10_keepReason {w : WP} (hW : gW w) (hS : gS w) (hZ : gZ w) {Ω : OM}  {S : Nat → Nat → HV} (e : Ω.1 = S) (a1 : Int32) {k9 : Nat} (hF : F_X10_keepReason a1 S = some (.inr k9)) : gMx w 7 yX10_keepReason cX10_keepReason 2 (some .int) [.ref (wAd w (7, 11, 6, 0)), .int a1] (cA w Ω) (xN k9) (cA w Ω) := by
  refine gMx_of "HedgeMessages" rfl (by decide) (kR rfl) fun X C hT9 => ?_
  unfold F_X10_keepReason at hF
  show gU w X _ _ 0 [(0, .ref (wAd w (7, 11, 6, 0))), (1, .int a1)] []
  refine r_aload_n C (k := 0) rfl rfl dX10_keepReason_0 ?_
  refine r_iload_n C (k := 1) rfl rfl dX10_keepReason_1 ?_
  rcases ox_e hF with ⟨u1, hu1, hF⟩ | ⟨kx2, hkx2, hF⟩
  rotate_left
  · cases hF
    exact x_callV C hT9 (d' := 6) [.int a1] (x_X10_requireSlot hW hS hZ e a1 hkx2) myX10_requireSlot wm3_202 ⟨_, _, _, _, (hW.ok k7), rfl, rfl, rfl, rfl⟩ rfl (kR rfl) (by decide) (kR rfl) rfl dX10_keepReason_2
  refine r_callV C (d' := 6) [.int a1] (c_X10_requireSlot hW hS e a1 hu1) myX10_requireSlot wm3_202 ⟨_, _, _, _, (hW.ok k7), rfl, rfl, rfl, rfl⟩ rfl (kR rfl) (by decide) (kR rfl) rfl dX10_keepReason_2 ?_
  refine r_aload_n C (k := 0) rfl rfl dX10_keepReason_5 ?_
  refine og_7_0 C (hW.ok k7) wm2_159 dX10_keepReason_6 ?_
  refine r_iload_n C (k := 1) rfl rfl dX10_keepReason_9 ?_
  refine r_callV C (d' := 2) [.int a1] (c_X5_reasonNotToPrune hW (by decide) (congrFun e 0) a1 rfl) myX5_reasonNotToPrune wm5_126 ⟨_, _, _, _, (hW.ok (k0 (by decide))), rfl, rfl, rfl, rfl⟩ rfl (kR rfl) (by decide) (kR rfl) rfl dX10_keepReason_10 ?_
  cases hF
theorem dX10_daysUntilPruned_0 : decode cX10_daysUntilPruned 0 = .ok (.aload_n 0, 1) := by decide +kernel
theorem dX10_daysUntilPruned_1 : decode cX10_daysUntilPruned 1 = .ok (.iload_n 1, 1) := by decide +kernel
theorem dX10_daysUntilPruned_2 : decode cX10_daysUntilPruned 2 = .ok (.invokevirtual 148, 3) := by decide +kernel
theorem dX10_daysUntilPruned_5 : decode cX10_daysUntilPruned 5 = .ok (.aload_n 0, 1) := by decide +kernel
theorem dX10_daysUntilPruned_6 : decode cX10_daysUntilPruned 6 = .ok (.getfield 16, 3) := by decide +kernel
theorem dX10_daysUntilPruned_9 : decode cX10_daysUntilPruned 9 = .ok (.aload_n 0, 1) := by decide +kernel
theorem dX10_daysUntilPruned_10 : decode cX10_daysUntilPruned 10 = .ok (.getfield 10, 3) := by decide +kernel
theorem dX10_daysUntilPruned_13 : decode cX10_daysUntilPruned 13 = .ok (.invokevirtual 101, 3) := by decide +kernel
theorem dX10_daysUntilPruned_16 : decode cX10_daysUntilPruned 16 = .ok (.iconst 0, 1) := by decide +kernel
theorem dX10_daysUntilPruned_17 : decode cX10_daysUntilPruned 17 = .ok (.istore_n 2, 1) := by decide +kernel
theorem dX10_daysUntilPruned_18 : decode cX10_daysUntilPruned 18 = .ok (.iload_n 2, 1) := by decide +kernel
theorem dX10_daysUntilPruned_19 : decode cX10_daysUntilPruned 19 = .ok (.bipush 60, 2) := by decide +kernel
theorem dX10_daysUntilPruned_21 : decode cX10_daysUntilPruned 21 = .ok (.if_icmp .gt 29, 3) := by decide +kernel
theorem dX10_daysUntilPruned_24 : decode cX10_daysUntilPruned 24 = .ok (.aload_n 0, 1) := by decide +kernel
theorem dX10_daysUntilPruned_25 : decode cX10_daysUntilPruned 25 = .ok (.getfield 16, 3) := by decide +kernel
theorem dX10_daysUntilPruned_28 : decode cX10_daysUntilPruned 28 = .ok (.iload_n 1, 1) := by decide +kernel
theorem dX10_daysUntilPruned_29 : decode cX10_daysUntilPruned 29 = .ok (.invokevirtual 151, 3) := by decide +kernel
theorem dX10_daysUntilPruned_32 : decode cX10_daysUntilPruned 32 = .ok (.ifCond .ne 5, 3) := by decide +kernel
theorem dX10_daysUntilPruned_35 : decode cX10_daysUntilPruned 35 = .ok (.iload_n 2, 1) := by decide +kernel
theorem dX10_daysUntilPruned_36 : decode cX10_daysUntilPruned 36 = .ok (.ireturn, 1) := by decide +kernel
theorem dX10_daysUntilPruned_37 : decode cX10_daysUntilPruned 37 = .ok (.aload_n 0, 1) := by decide +kernel
theorem dX10_daysUntilPruned_38 : decode cX10_daysUntilPruned 38 = .ok (.getfield 16, 3) := by decide +kernel
theorem dX10_daysUntilPruned_41 : decode cX10_daysUntilPruned 41 = .ok (.invokevirtual 244, 3) := by decide +kernel
theorem dX10_daysUntilPruned_44 : decode cX10_daysUntilPruned 44 = .ok (.iinc 2 1, 3) := by decide +kernel
theorem dX10_daysUntilPruned_47 : decode cX10_daysUntilPruned 47 = .ok (.goto (-29), 3) := by decide +kernel
theorem dX10_daysUntilPruned_50 : decode cX10_daysUntilPruned 50 = .ok (.iconst (-1), 1) := by decide +kernel
theorem dX10_daysUntilPruned_51 : decode cX10_daysUntilPruned 51 = .ok (.ireturn, 1) := by decide +kernel
def st_X10_daysUntilPruned_18 (N : Nat) (l1 : Int32) (l2 : Int32) (S : Nat → Nat → HV) : Option ((Int32 × (Nat → Nat → HV)) ⊕ ((Int32 × (Nat → Nat → HV)) ⊕ (Nat × (Nat → Nat → HV)))) := (if 60 < l2 then some (.inr (.inl ((-1), S))) else (if (F_X5_hasTwig l1 (S 1)) = true then (ob1 (F_X5_endOneDay N (S 1)) fun g6 => (lt (up S 1 g6) fun S7 => some (.inl ((l2 + 1), S7)))) else some (.inr (.inl (l2, S)))))
def F_X10_daysUntilPruned (N : Nat) (a1 : Int32) (S : Nat → Nat → HV) : Option ((Int32 × (Nat → Nat → HV)) ⊕ (Nat × (Nat → Nat → HV))) := (ox (F_X10_requireSlot a1 S) (fun k9 => some (.inr (k9, S))) fun u1 => (lt (F_X5_copyFrom 1 0 S) fun S4 => (lpN N (fun z => st_X10_daysUntilPruned_18 N a1 z.1 z.2) (0, S4))))
theorem lp_X10_daysUntilPruned_18 {w : WP} (hW : gW w) (hS : gS w) {Ω : OM}   (l1 : Int32) {N : Nat} {X : CX} (C : gC w X cX10_daysUntilPruned "HedgeMessages" (some .int) 7 3) {v : Int32} {S' : Nat → Nat → HV}  : ∀ (n : Nat) (l2 : Int32) (S : Nat → Nat → HV), lpN n (fun z : Int32 × (Nat → Nat → HV) => st_X10_daysUntilPruned_18 N l1 z.1 z.2) (l2, S) = some (.inl (v, S')) → gV w X (some (.int v), cA w (S', Ω.2)) (cA w (S, Ω.2)) 18 [(0, .ref (wAd w (7, 11, 6, 0))), (1, .int l1), (2, .int l2)] [] := by
  intro n
  induction n with
  | zero => intro l2 S hL; exact lpN_0 hL
  | succ n ih =>
    intro l2 S hL
    obtain ⟨q9, hF, hL⟩ := lpN_e hL
    change st_X10_daysUntilPruned_18 N l1 l2 S = some q9 at hF
    unfold st_X10_daysUntilPruned_18 at hF
    refine r_iload_n C (k := 2) rfl rfl dX10_daysUntilPruned_18 ?_
    refine r_bipush C (v := 60) rfl dX10_daysUntilPruned_19 ?_
    refine r_icmp_gt C (tgt := 50) rfl dX10_daysUntilPruned_21 (fun hc => ?_) (fun hc => ?_)
    · rw [if_pos hc] at hF
      refine r_iconst C (v := (-1)) (by decide) dX10_daysUntilPruned_50 ?_
      cases hF
      change some _ = some _ at hL
      cases hL
      exact r_ireturn C dX10_daysUntilPruned_51
    · rw [if_neg hc] at hF
      refine r_aload_n C (k := 0) rfl rfl dX10_daysUntilPruned_24 ?_
      refine og_7_1 C (hW.ok k7) wm2_160 dX10_daysUntilPruned_25 ?_
      refine r_iload_n C (k := 1) rfl rfl dX10_daysUntilPruned_28 ?_
      refine r_callV C (d' := 1) [.int l1] (c_X5_hasTwig hW (by decide) (congrFun (show (S, Ω.2).1 = S from rfl) 1) l1 rfl) myX5_hasTwig wm5_16 ⟨_, _, _, _, (hW.ok (k0 (by decide))), rfl, rfl, rfl, rfl⟩ rfl (kR rfl) (by decide) (kR rfl) rfl dX10_daysUntilPruned_29 ?_
      refine r_if_ne C (tgt := 37) rfl dX10_daysUntilPruned_32 (fun hc => ?_) (fun hc => ?_)
      · rw [if_pos (b2i_t hc)] at hF
        refine r_aload_n C (k := 0) rfl rfl dX10_daysUntilPruned_37 ?_
        refine og_7_1 C (hW.ok k7) wm2_160 dX10_daysUntilPruned_38 ?_
        obtain ⟨g6, hg6, hF⟩ := ob1_e hF
        obtain ⟨S7, eS7, hF⟩ := lt_e hF
        refine r_callV C (d' := 5) [] (c_X5_endOneDay hW (by decide) (congrFun (show (S, Ω.2).1 = S from rfl) 1) N hg6 (congrArg (fun z => (z, Ω.2)) eS7)) myX5_endOneDay wm4_137 ⟨_, _, _, _, (hW.ok (k0 (by decide))), rfl, rfl, rfl, rfl⟩ rfl (kR rfl) (by decide) (kR rfl) rfl dX10_daysUntilPruned_41 ?_
        refine r_iinc C (k := 2) (v := (l2 + 1)) (lo' := [(2, .int (l2 + 1)), (0, .ref (wAd w (7, 11, 6, 0))), (1, .int l1)]) rfl rfl (by decide) rfl dX10_daysUntilPruned_44 ?_
        refine r_goto C (tgt := 18) rfl dX10_daysUntilPruned_47 ?_
        cases hF
        change lpN n _ _ = some _ at hL
        refine r_lo [1, 2, 0] (lo' := [(0, .ref (wAd w (7, 11, 6, 0))), (1, .int l1), (2, .int (l2 + 1))]) rfl ?_
        exact ih (l2 + 1) S7 hL
      · rw [if_neg (b2i_f hc)] at hF
        refine r_iload_n C (k := 2) rfl rfl dX10_daysUntilPruned_35 ?_
        cases hF
        change some _ = some _ at hL
        cases hL
        exact r_ireturn C dX10_daysUntilPruned_36
theorem c_X10_daysUntilPruned {w : WP} (hW : gW w) (hS : gS w) {Ω : OM}  {S : Nat → Nat → HV} (e : Ω.1 = S) (N : Nat) (a1 : Int32) {v : Int32} {S' : Nat → Nat → HV} (hF : F_X10_daysUntilPruned N a1 S = some (.inl (v, S'))) {Ω' : OM} (e2 : (S', Ω.2) = Ω') : gM w 7 yX10_daysUntilPruned cX10_daysUntilPruned 3 (some .int) [.ref (wAd w (7, 11, 6, 0)), .int a1] (cA w Ω) (some (.int v)) (cA w Ω') := by
  refine gM_of "HedgeMessages" rfl (by decide) (kR rfl) fun X C => ?_
  unfold F_X10_daysUntilPruned at hF
  subst e2
  show gV w X _ _ 0 [(0, .ref (wAd w (7, 11, 6, 0))), (1, .int a1)] []
  refine r_ct (ct' := cA w (S, Ω.2)) (by rw [← e]) ?_
  refine r_aload_n C (k := 0) rfl rfl dX10_daysUntilPruned_0 ?_
  refine r_iload_n C (k := 1) rfl rfl dX10_daysUntilPruned_1 ?_
  rcases ox_e hF with ⟨u1, hu1, hF⟩ | ⟨kx2, hkx2, hF⟩
  rotate_left
  · cases hF
  refine r_callV C (d' := 6) [.int a1] (c_X10_requireSlot hW hS (show (S, Ω.2).1 = S from rfl) a1 hu1) myX10_requireSlot wm3_202 ⟨_, _, _, _, (hW.ok k7), rfl, rfl, rfl, rfl⟩ rfl (kR rfl) (by decide) (kR rfl) rfl dX10_daysUntilPruned_2 ?_
  refine r_aload_n C (k := 0) rfl rfl dX10_daysUntilPruned_5 ?_
  refine og_7_1 C (hW.ok k7) wm2_160 dX10_daysUntilPruned_6 ?_
  refine r_aload_n C (k := 0) rfl rfl dX10_daysUntilPruned_9 ?_
  refine og_7_0 C (hW.ok k7) wm2_159 dX10_daysUntilPruned_10 ?_
  obtain ⟨S4, hS4, hF⟩ := lt_e hF
  refine r_callV C (d' := 4) [.ref (wAd w (0, 0, 0, 0))] (c_X5_copyFrom hW (by decide) (by decide) (show (S, Ω.2).1 = S from rfl) hS4 rfl) myX5_copyFrom wm2_195 ⟨_, _, _, _, (hW.ok (k0 (by decide))), rfl, rfl, rfl, rfl⟩ rfl (kR rfl) (by decide) (kR rfl) rfl dX10_daysUntilPruned_13 ?_
  refine r_iconst C (v := 0) rfl dX10_daysUntilPruned_16 ?_
  refine r_istore_n C (lo' := [(2, .int 0), (0, .ref (wAd w (7, 11, 6, 0))), (1, .int a1)]) rfl (by decide) rfl dX10_daysUntilPruned_17 ?_
  refine r_lo [1, 2, 0] (lo' := [(0, .ref (wAd w (7, 11, 6, 0))), (1, .int a1), (2, .int 0)]) rfl ?_
  exact lp_X10_daysUntilPruned_18 hW hS a1 C N 0 S4 hF
theorem lpx_X10_daysUntilPruned_18 {w : WP} (hW : gW w) (hS : gS w) {Ω : OM}   (l1 : Int32) {N : Nat} {X : CX} (C : gC w X cX10_daysUntilPruned "HedgeMessages" (some .int) 7 3) (hZ : gZ w) (hT9 : gT X) {k9 : Nat} {S' : Nat → Nat → HV}  : ∀ (n : Nat) (l2 : Int32) (S : Nat → Nat → HV), lpN n (fun z : Int32 × (Nat → Nat → HV) => st_X10_daysUntilPruned_18 N l1 z.1 z.2) (l2, S) = some (.inr (k9, S')) → gU w X (qX w X (xN k9, cA w (S', Ω.2))) (cA w (S, Ω.2)) 18 [(0, .ref (wAd w (7, 11, 6, 0))), (1, .int l1), (2, .int l2)] [] := by
  intro n
  induction n with
  | zero => intro l2 S hL; exact lpN_0 hL
  | succ n ih =>
    intro l2 S hL
    obtain ⟨q9, hF, hL⟩ := lpN_e hL
    change st_X10_daysUntilPruned_18 N l1 l2 S = some q9 at hF
    unfold st_X10_daysUntilPruned_18 at hF
    refine r_iload_n C (k := 2) rfl rfl dX10_daysUntilPruned_18 ?_
    refine r_bipush C (v := 60) rfl dX10_daysUntilPruned_19 ?_
    refine r_icmp_gt C (tgt := 50) rfl dX10_daysUntilPruned_21 (fun hc => ?_) (fun hc => ?_)
    · rw [if_pos hc] at hF
      refine r_iconst C (v := (-1)) (by decide) dX10_daysUntilPruned_50 ?_
      cases hF
      change some _ = some _ at hL
      cases hL
    · rw [if_neg hc] at hF
      refine r_aload_n C (k := 0) rfl rfl dX10_daysUntilPruned_24 ?_
      refine og_7_1 C (hW.ok k7) wm2_160 dX10_daysUntilPruned_25 ?_
      refine r_iload_n C (k := 1) rfl rfl dX10_daysUntilPruned_28 ?_
      refine r_callV C (d' := 1) [.int l1] (c_X5_hasTwig hW (by decide) (congrFun (show (S, Ω.2).1 = S from rfl) 1) l1 rfl) myX5_hasTwig wm5_16 ⟨_, _, _, _, (hW.ok (k0 (by decide))), rfl, rfl, rfl, rfl⟩ rfl (kR rfl) (by decide) (kR rfl) rfl dX10_daysUntilPruned_29 ?_
      refine r_if_ne C (tgt := 37) rfl dX10_daysUntilPruned_32 (fun hc => ?_) (fun hc => ?_)
      · rw [if_pos (b2i_t hc)] at hF
        refine r_aload_n C (k := 0) rfl rfl dX10_daysUntilPruned_37 ?_
        refine og_7_1 C (hW.ok k7) wm2_160 dX10_daysUntilPruned_38 ?_
        obtain ⟨g6, hg6, hF⟩ := ob1_e hF
        obtain ⟨S7, eS7, hF⟩ := lt_e hF
        refine r_callV C (d' := 5) [] (c_X5_endOneDay hW (by decide) (congrFun (show (S, Ω.2).1 = S from rfl) 1) N hg6 (congrArg (fun z => (z, Ω.2)) eS7)) myX5_endOneDay wm4_137 ⟨_, _, _, _, (hW.ok (k0 (by decide))), rfl, rfl, rfl, rfl⟩ rfl (kR rfl) (by decide) (kR rfl) rfl dX10_daysUntilPruned_41 ?_
        refine r_iinc C (k := 2) (v := (l2 + 1)) (lo' := [(2, .int (l2 + 1)), (0, .ref (wAd w (7, 11, 6, 0))), (1, .int l1)]) rfl rfl (by decide) rfl dX10_daysUntilPruned_44 ?_
        refine r_goto C (tgt := 18) rfl dX10_daysUntilPruned_47 ?_
        cases hF
        change lpN n _ _ = some _ at hL
        refine r_lo [1, 2, 0] (lo' := [(0, .ref (wAd w (7, 11, 6, 0))), (1, .int l1), (2, .int (l2 + 1))]) rfl ?_
        exact ih (l2 + 1) S7 hL
      · rw [if_neg (b2i_f hc)] at hF
        refine r_iload_n C (k := 2) rfl rfl dX10_daysUntilPruned_35 ?_
        cases hF
        change some _ = some _ at hL
        cases hL
theorem x_X10_daysUntilPruned {w : WP} (hW : gW w) (hS : gS w) (hZ : gZ w) {Ω : OM}  {S : Nat → Nat → HV} (e : Ω.1 = S) (N : Nat) (a1 : Int32) {k9 : Nat} {S' : Nat → Nat → HV} (hF : F_X10_daysUntilPruned N a1 S = some (.inr (k9, S'))) {Ω' : OM} (e2 : (S', Ω.2) = Ω') : gMx w 7 yX10_daysUntilPruned cX10_daysUntilPruned 3 (some .int) [.ref (wAd w (7, 11, 6, 0)), .int a1] (cA w Ω) (xN k9) (cA w Ω') := by
  refine gMx_of "HedgeMessages" rfl (by decide) (kR rfl) fun X C hT9 => ?_
  unfold F_X10_daysUntilPruned at hF
  subst e2
  show gU w X _ _ 0 [(0, .ref (wAd w (7, 11, 6, 0))), (1, .int a1)] []
  refine r_ct (ct' := cA w (S, Ω.2)) (by rw [← e]) ?_
  refine r_aload_n C (k := 0) rfl rfl dX10_daysUntilPruned_0 ?_
  refine r_iload_n C (k := 1) rfl rfl dX10_daysUntilPruned_1 ?_
  rcases ox_e hF with ⟨u1, hu1, hF⟩ | ⟨kx2, hkx2, hF⟩
  rotate_left
  · cases hF
    exact x_callV C hT9 (d' := 6) [.int a1] (x_X10_requireSlot hW hS hZ (show (S, Ω.2).1 = S from rfl) a1 hkx2) myX10_requireSlot wm3_202 ⟨_, _, _, _, (hW.ok k7), rfl, rfl, rfl, rfl⟩ rfl (kR rfl) (by decide) (kR rfl) rfl dX10_daysUntilPruned_2
  refine r_callV C (d' := 6) [.int a1] (c_X10_requireSlot hW hS (show (S, Ω.2).1 = S from rfl) a1 hu1) myX10_requireSlot wm3_202 ⟨_, _, _, _, (hW.ok k7), rfl, rfl, rfl, rfl⟩ rfl (kR rfl) (by decide) (kR rfl) rfl dX10_daysUntilPruned_2 ?_
  refine r_aload_n C (k := 0) rfl rfl dX10_daysUntilPruned_5 ?_
  refine og_7_1 C (hW.ok k7) wm2_160 dX10_daysUntilPruned_6 ?_
  refine r_aload_n C (k := 0) rfl rfl dX10_daysUntilPruned_9 ?_
  refine og_7_0 C (hW.ok k7) wm2_159 dX10_daysUntilPruned_10 ?_
  obtain ⟨S4, hS4, hF⟩ := lt_e hF
  refine r_callV C (d' := 4) [.ref (wAd w (0, 0, 0, 0))] (c_X5_copyFrom hW (by decide) (by decide) (show (S, Ω.2).1 = S from rfl) hS4 rfl) myX5_copyFrom wm2_195 ⟨_, _, _, _, (hW.ok (k0 (by decide))), rfl, rfl, rfl, rfl⟩ rfl (kR rfl) (by decide) (kR rfl) rfl dX10_daysUntilPruned_13 ?_
  refine r_iconst C (v := 0) rfl dX10_daysUntilPruned_16 ?_
  refine r_istore_n C (lo' := [(2, .int 0), (0, .ref (wAd w (7, 11, 6, 0))), (1, .int a1)]) rfl (by decide) rfl dX10_daysUntilPruned_17 ?_
  refine r_lo [1, 2, 0] (lo' := [(0, .ref (wAd w (7, 11, 6, 0))), (1, .int a1), (2, .int 0)]) rfl ?_
  exact lpx_X10_daysUntilPruned_18 hW hS a1 C hZ hT9 N 0 S4 hF
theorem dX10_requireDays_0 : decode cX10_requireDays 0 = .ok (.iload_n 0, 1) := by decide +kernel
theorem dX10_requireDays_1 : decode cX10_requireDays 1 = .ok (.iload_n 1, 1) := by decide +kernel
theorem dX10_requireDays_2 : decode cX10_requireDays 2 = .ok (.if_icmp .lt 9, 3) := by decide +kernel
theorem dX10_requireDays_5 : decode cX10_requireDays 5 = .ok (.iload_n 0, 1) := by decide +kernel
theorem dX10_requireDays_6 : decode cX10_requireDays 6 = .ok (.bipush 60, 2) := by decide +kernel
theorem dX10_requireDays_8 : decode cX10_requireDays 8 = .ok (.if_icmp .le 14, 3) := by decide +kernel
theorem dX10_requireDays_11 : decode cX10_requireDays 11 = .ok (.new 88, 3) := by decide +kernel
theorem dX10_requireDays_14 : decode cX10_requireDays 14 = .ok (.dup, 1) := by decide +kernel
theorem dX10_requireDays_15 : decode cX10_requireDays 15 = .ok (.ldc_w 395, 3) := by decide +kernel
theorem dX10_requireDays_18 : decode cX10_requireDays 18 = .ok (.invokespecial 92, 3) := by decide +kernel
theorem dX10_requireDays_21 : decode cX10_requireDays 21 = .ok (.athrow, 1) := by decide +kernel
theorem dX10_requireDays_22 : decode cX10_requireDays 22 = .ok (.return_, 1) := by decide +kernel
def F_X10_requireDays (a0 : Int32) (a1 : Int32) : Option ((Unit) ⊕ Nat) := (if a0 < a1 then some (.inr 2) else (if a0 ≤ 60 then some (.inl ()) else some (.inr 2)))
theorem c_X10_requireDays {w : WP}  (hS : gS w) {ct : CT}  (a0 : Int32) (a1 : Int32) (hF : F_X10_requireDays a0 a1 = some (.inl ())) : gM w 6 yX10_requireDays cX10_requireDays 2 none [.int a0, .int a1] (ct) none (ct) := by
  refine gM_of "HedgeMessages" rfl (by decide) (kR rfl) fun X C => ?_
  unfold F_X10_requireDays at hF
  show gV w X _ _ 0 [(0, .int a0), (1, .int a1)] []
  refine r_iload_n C (k := 0) rfl rfl dX10_requireDays_0 ?_
  refine r_iload_n C (k := 1) rfl rfl dX10_requireDays_1 ?_
  refine r_icmp_lt C (tgt := 11) rfl dX10_requireDays_2 (fun hc => ?_) (fun hc => ?_)
  · rw [if_pos hc] at hF
    cases hF
  · rw [if_neg hc] at hF
    refine r_iload_n C (k := 0) rfl rfl dX10_requireDays_5 ?_
    refine r_bipush C (v := 60) rfl dX10_requireDays_6 ?_
    refine r_icmp_le C (tgt := 22) rfl dX10_requireDays_8 (fun hc => ?_) (fun hc => ?_)
    · rw [if_pos hc] at hF
      cases hF
      exact r_return C dX10_requireDays_22
    · rw [if_neg hc] at hF
      cases hF
theorem x_X10_requireDays {w : WP}  (hS : gS w) (hZ : gZ w) {ct : CT}  (a0 : Int32) (a1 : Int32) {k9 : Nat} (hF : F_X10_requireDays a0 a1 = some (.inr k9)) : gMx w 6 yX10_requireDays cX10_requireDays 2 none [.int a0, .int a1] (ct) (xN k9) (ct) := by
  refine gMx_of "HedgeMessages" rfl (by decide) (kR rfl) fun X C hT9 => ?_
  unfold F_X10_requireDays at hF
  show gU w X _ _ 0 [(0, .int a0), (1, .int a1)] []
  refine r_iload_n C (k := 0) rfl rfl dX10_requireDays_0 ?_
  refine r_iload_n C (k := 1) rfl rfl dX10_requireDays_1 ?_
  refine r_icmp_lt C (tgt := 11) rfl dX10_requireDays_2 (fun hc => ?_) (fun hc => ?_)
  · rw [if_pos hc] at hF
    cases hF
    exact x_throwSW C hZ hT9 (by decide +kernel) xK2 rfl xI2 xO2 ((hS.s C).imp fun _ _ _ h => h.2.2.1 24 (by decide)) (kR rfl) (kR rfl) dX10_requireDays_11 dX10_requireDays_14 dX10_requireDays_15 dX10_requireDays_18 dX10_requireDays_21
  · rw [if_neg hc] at hF
    refine r_iload_n C (k := 0) rfl rfl dX10_requireDays_5 ?_
    refine r_bipush C (v := 60) rfl dX10_requireDays_6 ?_
    refine r_icmp_le C (tgt := 22) rfl dX10_requireDays_8 (fun hc => ?_) (fun hc => ?_)
    · rw [if_pos hc] at hF
      cases hF
    · rw [if_neg hc] at hF
      cases hF
      exact x_throwSW C hZ hT9 (by decide +kernel) xK2 rfl xI2 xO2 ((hS.s C).imp fun _ _ _ h => h.2.2.1 24 (by decide)) (kR rfl) (kR rfl) dX10_requireDays_11 dX10_requireDays_14 dX10_requireDays_15 dX10_requireDays_18 dX10_requireDays_21
