/-! ===== 30.text: printed by wip/p66/gen.py ===== -/
theorem dX10_isLetter_0 : decode cX10_isLetter 0 = .ok (.iload_n 0, 1) := by decide +kernel
theorem dX10_isLetter_1 : decode cX10_isLetter 1 = .ok (.bipush 97, 2) := by decide +kernel
theorem dX10_isLetter_3 : decode cX10_isLetter 3 = .ok (.if_icmp .lt 13, 3) := by decide +kernel
theorem dX10_isLetter_6 : decode cX10_isLetter 6 = .ok (.iload_n 0, 1) := by decide +kernel
theorem dX10_isLetter_7 : decode cX10_isLetter 7 = .ok (.bipush 122, 2) := by decide +kernel
theorem dX10_isLetter_9 : decode cX10_isLetter 9 = .ok (.if_icmp .gt 7, 3) := by decide +kernel
theorem dX10_isLetter_12 : decode cX10_isLetter 12 = .ok (.iconst 1, 1) := by decide +kernel
theorem dX10_isLetter_13 : decode cX10_isLetter 13 = .ok (.goto 4, 3) := by decide +kernel
theorem dX10_isLetter_16 : decode cX10_isLetter 16 = .ok (.iconst 0, 1) := by decide +kernel
theorem dX10_isLetter_17 : decode cX10_isLetter 17 = .ok (.ireturn, 1) := by decide +kernel
def F_X10_isLetter (a0 : Int32) : Bool := (if a0 < 97 then false else (if 122 < a0 then false else true))
theorem c_X10_isLetter {w : WP}  {ct : CT}  (a0 : Int32) {v : Bool} (hF : F_X10_isLetter a0 = v) : gM w 0 yX10_isLetter cX10_isLetter 1 (some .boolean) [.int a0] (ct) (some (.int (b2i v))) (ct) := by
  refine gM_of "HedgeMessages" rfl (by decide) (kR rfl) fun X C => ?_
  unfold F_X10_isLetter at hF
  show gV w X _ _ 0 [(0, .int a0)] []
  refine r_iload_n C (k := 0) rfl rfl dX10_isLetter_0 ?_
  refine r_bipush C (v := 97) rfl dX10_isLetter_1 ?_
  refine r_icmp_lt C (tgt := 16) rfl dX10_isLetter_3 (fun hc => ?_) (fun hc => ?_)
  · rw [if_pos hc] at hF
    refine r_iconst C (v := 0) rfl dX10_isLetter_16 ?_
    cases hF
    exact r_zreturn C false rfl dX10_isLetter_17
  · rw [if_neg hc] at hF
    refine r_iload_n C (k := 0) rfl rfl dX10_isLetter_6 ?_
    refine r_bipush C (v := 122) rfl dX10_isLetter_7 ?_
    refine r_icmp_gt C (tgt := 16) rfl dX10_isLetter_9 (fun hc => ?_) (fun hc => ?_)
    · rw [if_pos hc] at hF
      refine r_iconst C (v := 0) rfl dX10_isLetter_16 ?_
      cases hF
      exact r_zreturn C false rfl dX10_isLetter_17
    · rw [if_neg hc] at hF
      refine r_iconst C (v := 1) rfl dX10_isLetter_12 ?_
      refine r_goto C (tgt := 17) rfl dX10_isLetter_13 ?_
      cases hF
      exact r_zreturn C true rfl dX10_isLetter_17
theorem dX10_isDigit_0 : decode cX10_isDigit 0 = .ok (.iload_n 0, 1) := by decide +kernel
theorem dX10_isDigit_1 : decode cX10_isDigit 1 = .ok (.bipush 48, 2) := by decide +kernel
theorem dX10_isDigit_3 : decode cX10_isDigit 3 = .ok (.if_icmp .lt 13, 3) := by decide +kernel
theorem dX10_isDigit_6 : decode cX10_isDigit 6 = .ok (.iload_n 0, 1) := by decide +kernel
theorem dX10_isDigit_7 : decode cX10_isDigit 7 = .ok (.bipush 57, 2) := by decide +kernel
theorem dX10_isDigit_9 : decode cX10_isDigit 9 = .ok (.if_icmp .gt 7, 3) := by decide +kernel
theorem dX10_isDigit_12 : decode cX10_isDigit 12 = .ok (.iconst 1, 1) := by decide +kernel
theorem dX10_isDigit_13 : decode cX10_isDigit 13 = .ok (.goto 4, 3) := by decide +kernel
theorem dX10_isDigit_16 : decode cX10_isDigit 16 = .ok (.iconst 0, 1) := by decide +kernel
theorem dX10_isDigit_17 : decode cX10_isDigit 17 = .ok (.ireturn, 1) := by decide +kernel
def F_X10_isDigit (a0 : Int32) : Bool := (if a0 < 48 then false else (if 57 < a0 then false else true))
theorem c_X10_isDigit {w : WP}  {ct : CT}  (a0 : Int32) {v : Bool} (hF : F_X10_isDigit a0 = v) : gM w 0 yX10_isDigit cX10_isDigit 1 (some .boolean) [.int a0] (ct) (some (.int (b2i v))) (ct) := by
  refine gM_of "HedgeMessages" rfl (by decide) (kR rfl) fun X C => ?_
  unfold F_X10_isDigit at hF
  show gV w X _ _ 0 [(0, .int a0)] []
  refine r_iload_n C (k := 0) rfl rfl dX10_isDigit_0 ?_
  refine r_bipush C (v := 48) rfl dX10_isDigit_1 ?_
  refine r_icmp_lt C (tgt := 16) rfl dX10_isDigit_3 (fun hc => ?_) (fun hc => ?_)
  · rw [if_pos hc] at hF
    refine r_iconst C (v := 0) rfl dX10_isDigit_16 ?_
    cases hF
    exact r_zreturn C false rfl dX10_isDigit_17
  · rw [if_neg hc] at hF
    refine r_iload_n C (k := 0) rfl rfl dX10_isDigit_6 ?_
    refine r_bipush C (v := 57) rfl dX10_isDigit_7 ?_
    refine r_icmp_gt C (tgt := 16) rfl dX10_isDigit_9 (fun hc => ?_) (fun hc => ?_)
    · rw [if_pos hc] at hF
      refine r_iconst C (v := 0) rfl dX10_isDigit_16 ?_
      cases hF
      exact r_zreturn C false rfl dX10_isDigit_17
    · rw [if_neg hc] at hF
      refine r_iconst C (v := 1) rfl dX10_isDigit_12 ?_
      refine r_goto C (tgt := 17) rfl dX10_isDigit_13 ?_
      cases hF
      exact r_zreturn C true rfl dX10_isDigit_17
theorem dX9_appendBytes_0 : decode cX9_appendBytes 0 = .ok (.aload_n 0, 1) := by decide +kernel
theorem dX9_appendBytes_1 : decode cX9_appendBytes 1 = .ok (.getfield 14, 3) := by decide +kernel
theorem dX9_appendBytes_4 : decode cX9_appendBytes 4 = .ok (.aload_n 0, 1) := by decide +kernel
theorem dX9_appendBytes_5 : decode cX9_appendBytes 5 = .ok (.getfield 24, 3) := by decide +kernel
theorem dX9_appendBytes_8 : decode cX9_appendBytes 8 = .ok (.iload_n 1, 1) := by decide +kernel
theorem dX9_appendBytes_9 : decode cX9_appendBytes 9 = .ok (.bipush 24, 2) := by decide +kernel
theorem dX9_appendBytes_11 : decode cX9_appendBytes 11 = .ok (.iushr, 1) := by decide +kernel
theorem dX9_appendBytes_12 : decode cX9_appendBytes 12 = .ok (.sipush 255, 3) := by decide +kernel
theorem dX9_appendBytes_15 : decode cX9_appendBytes 15 = .ok (.iand, 1) := by decide +kernel
theorem dX9_appendBytes_16 : decode cX9_appendBytes 16 = .ok (.invokevirtual 27, 3) := by decide +kernel
theorem dX9_appendBytes_19 : decode cX9_appendBytes 19 = .ok (.aload_n 0, 1) := by decide +kernel
theorem dX9_appendBytes_20 : decode cX9_appendBytes 20 = .ok (.getfield 14, 3) := by decide +kernel
theorem dX9_appendBytes_23 : decode cX9_appendBytes 23 = .ok (.aload_n 0, 1) := by decide +kernel
theorem dX9_appendBytes_24 : decode cX9_appendBytes 24 = .ok (.getfield 24, 3) := by decide +kernel
theorem dX9_appendBytes_27 : decode cX9_appendBytes 27 = .ok (.iconst 1, 1) := by decide +kernel
theorem dX9_appendBytes_28 : decode cX9_appendBytes 28 = .ok (.iadd, 1) := by decide +kernel
theorem dX9_appendBytes_29 : decode cX9_appendBytes 29 = .ok (.iload_n 1, 1) := by decide +kernel
theorem dX9_appendBytes_30 : decode cX9_appendBytes 30 = .ok (.bipush 16, 2) := by decide +kernel
theorem dX9_appendBytes_32 : decode cX9_appendBytes 32 = .ok (.iushr, 1) := by decide +kernel
theorem dX9_appendBytes_33 : decode cX9_appendBytes 33 = .ok (.sipush 255, 3) := by decide +kernel
theorem dX9_appendBytes_36 : decode cX9_appendBytes 36 = .ok (.iand, 1) := by decide +kernel
theorem dX9_appendBytes_37 : decode cX9_appendBytes 37 = .ok (.invokevirtual 27, 3) := by decide +kernel
theorem dX9_appendBytes_40 : decode cX9_appendBytes 40 = .ok (.aload_n 0, 1) := by decide +kernel
theorem dX9_appendBytes_41 : decode cX9_appendBytes 41 = .ok (.getfield 14, 3) := by decide +kernel
theorem dX9_appendBytes_44 : decode cX9_appendBytes 44 = .ok (.aload_n 0, 1) := by decide +kernel
theorem dX9_appendBytes_45 : decode cX9_appendBytes 45 = .ok (.getfield 24, 3) := by decide +kernel
theorem dX9_appendBytes_48 : decode cX9_appendBytes 48 = .ok (.iconst 2, 1) := by decide +kernel
theorem dX9_appendBytes_49 : decode cX9_appendBytes 49 = .ok (.iadd, 1) := by decide +kernel
theorem dX9_appendBytes_50 : decode cX9_appendBytes 50 = .ok (.iload_n 1, 1) := by decide +kernel
theorem dX9_appendBytes_51 : decode cX9_appendBytes 51 = .ok (.bipush 8, 2) := by decide +kernel
theorem dX9_appendBytes_53 : decode cX9_appendBytes 53 = .ok (.iushr, 1) := by decide +kernel
theorem dX9_appendBytes_54 : decode cX9_appendBytes 54 = .ok (.sipush 255, 3) := by decide +kernel
theorem dX9_appendBytes_57 : decode cX9_appendBytes 57 = .ok (.iand, 1) := by decide +kernel
theorem dX9_appendBytes_58 : decode cX9_appendBytes 58 = .ok (.invokevirtual 27, 3) := by decide +kernel
theorem dX9_appendBytes_61 : decode cX9_appendBytes 61 = .ok (.aload_n 0, 1) := by decide +kernel
theorem dX9_appendBytes_62 : decode cX9_appendBytes 62 = .ok (.getfield 14, 3) := by decide +kernel
theorem dX9_appendBytes_65 : decode cX9_appendBytes 65 = .ok (.aload_n 0, 1) := by decide +kernel
theorem dX9_appendBytes_66 : decode cX9_appendBytes 66 = .ok (.getfield 24, 3) := by decide +kernel
theorem dX9_appendBytes_69 : decode cX9_appendBytes 69 = .ok (.iconst 3, 1) := by decide +kernel
theorem dX9_appendBytes_70 : decode cX9_appendBytes 70 = .ok (.iadd, 1) := by decide +kernel
theorem dX9_appendBytes_71 : decode cX9_appendBytes 71 = .ok (.iload_n 1, 1) := by decide +kernel
theorem dX9_appendBytes_72 : decode cX9_appendBytes 72 = .ok (.sipush 255, 3) := by decide +kernel
theorem dX9_appendBytes_75 : decode cX9_appendBytes 75 = .ok (.iand, 1) := by decide +kernel
theorem dX9_appendBytes_76 : decode cX9_appendBytes 76 = .ok (.invokevirtual 27, 3) := by decide +kernel
theorem dX9_appendBytes_79 : decode cX9_appendBytes 79 = .ok (.aload_n 0, 1) := by decide +kernel
theorem dX9_appendBytes_80 : decode cX9_appendBytes 80 = .ok (.dup, 1) := by decide +kernel
theorem dX9_appendBytes_81 : decode cX9_appendBytes 81 = .ok (.getfield 24, 3) := by decide +kernel
theorem dX9_appendBytes_84 : decode cX9_appendBytes 84 = .ok (.iconst 4, 1) := by decide +kernel
theorem dX9_appendBytes_85 : decode cX9_appendBytes 85 = .ok (.iadd, 1) := by decide +kernel
theorem dX9_appendBytes_86 : decode cX9_appendBytes 86 = .ok (.putfield 24, 3) := by decide +kernel
theorem dX9_appendBytes_89 : decode cX9_appendBytes 89 = .ok (.return_, 1) := by decide +kernel
def F_X9_appendBytes (a1 : Int32) (g : HV) : HV := (lt (sA g 0 (rset 800 (g.2 0) (g.1 1) (((a1).toUInt32 >>> ((24 : Int32).toUInt32 &&& Int32.toUInt32 31)).toInt32 &&& 255))) fun g2 => (lt (sA g2 0 (rset 800 (g2.2 0) ((g2.1 1) + 1) (((a1).toUInt32 >>> ((16 : Int32).toUInt32 &&& Int32.toUInt32 31)).toInt32 &&& 255))) fun g4 => (lt (sA g4 0 (rset 800 (g4.2 0) ((g4.1 1) + 2) (((a1).toUInt32 >>> ((8 : Int32).toUInt32 &&& Int32.toUInt32 31)).toInt32 &&& 255))) fun g6 => (lt (sA g6 0 (rset 800 (g6.2 0) ((g6.1 1) + 3) (a1 &&& 255))) fun g8 => (lt (sS g8 1 ((g8.1 1) + 4)) fun g9 => g9)))))
theorem c_X9_appendBytes {w : WP} (hW : gW w) {Ω : OM}  {g : HV} (e : Ω.1 11 4 = g) (a1 : Int32) {g' : HV} (hF : F_X9_appendBytes a1 g = g') {Ω' : OM} (e2 : (sP Ω 11 4 g') = Ω') : gM w 1 yX9_appendBytes cX9_appendBytes 2 none [.ref (wAd w (5, 11, 4, 0)), .int a1] (cA w Ω) none (cA w Ω') := by
  refine gM_of "HedgeMessages$Text" rfl (by decide) (kR rfl) fun X C => ?_
  unfold F_X9_appendBytes at hF
  subst e2
  show gV w X _ _ 0 [(0, .ref (wAd w (5, 11, 4, 0))), (1, .int a1)] []
  refine r_ct (ct' := cA w (sP Ω 11 4 g)) (congrArg (cA w) (sP_i e).symm) ?_
  refine r_aload_n C (k := 0) rfl rfl dX9_appendBytes_0 ?_
  refine og_5_0 C (hW.ok k5) wm1_235 dX9_appendBytes_1 ?_
  refine r_aload_n C (k := 0) rfl rfl dX9_appendBytes_4 ?_
  refine og_5_1 C (hW.ok k5) (sP_g (Ω := Ω) (j := 11) (p := 4) (g := g)) wm1_239 dX9_appendBytes_5 ?_
  refine r_iload_n C (k := 1) rfl rfl dX9_appendBytes_8 ?_
  refine r_bipush C (v := 24) rfl dX9_appendBytes_9 ?_
  refine r_iushr C (v := ((a1).toUInt32 >>> ((24 : Int32).toUInt32 &&& Int32.toUInt32 31)).toInt32) rfl dX9_appendBytes_11 ?_
  refine r_sipush C (v := 255) rfl dX9_appendBytes_12 ?_
  refine r_iand C dX9_appendBytes_15 ?_
  obtain ⟨g2, eg2, hF⟩ := lt_e hF
  refine r_callV C (d' := 0) [.int (g.1 1), .int (((a1).toUInt32 >>> ((24 : Int32).toUInt32 &&& Int32.toUInt32 31)).toInt32 &&& 255)] (c_rset hW.x (Or.inl (show okC (4, 11, 4, 0) from q4)) (hW.ok (i := (3, 11, 4, 0)) q4) (hW.ok (i := (4, 11, 4, 0)) q4) (hW.fr (i := (4, 11, 4, 0)) q4) (show rlen 4 0 = 800 from rfl) (by decide) (sP_g (Ω := Ω) (j := 11) (p := 4) (g := g)) rfl (sP_P.trans (congrArg (sP Ω 11 4) eg2))) myX8_set wm3_73 ⟨_, _, _, _, (hW.ok (i := (3, 11, 4, 0)) q4), rfl, rfl, rfl, rfl⟩ rfl (kR rfl) (by decide) (kR rfl) rfl dX9_appendBytes_16 ?_
  refine r_aload_n C (k := 0) rfl rfl dX9_appendBytes_19 ?_
  refine og_5_0 C (hW.ok k5) wm1_235 dX9_appendBytes_20 ?_
  refine r_aload_n C (k := 0) rfl rfl dX9_appendBytes_23 ?_
  refine og_5_1 C (hW.ok k5) (sP_g (Ω := Ω) (j := 11) (p := 4) (g := g2)) wm1_239 dX9_appendBytes_24 ?_
  refine r_iconst C (v := 1) rfl dX9_appendBytes_27 ?_
  refine r_iadd C dX9_appendBytes_28 ?_
  refine r_iload_n C (k := 1) rfl rfl dX9_appendBytes_29 ?_
  refine r_bipush C (v := 16) rfl dX9_appendBytes_30 ?_
  refine r_iushr C (v := ((a1).toUInt32 >>> ((16 : Int32).toUInt32 &&& Int32.toUInt32 31)).toInt32) rfl dX9_appendBytes_32 ?_
  refine r_sipush C (v := 255) rfl dX9_appendBytes_33 ?_
  refine r_iand C dX9_appendBytes_36 ?_
  obtain ⟨g4, eg4, hF⟩ := lt_e hF
  refine r_callV C (d' := 0) [.int ((g2.1 1) + 1), .int (((a1).toUInt32 >>> ((16 : Int32).toUInt32 &&& Int32.toUInt32 31)).toInt32 &&& 255)] (c_rset hW.x (Or.inl (show okC (4, 11, 4, 0) from q4)) (hW.ok (i := (3, 11, 4, 0)) q4) (hW.ok (i := (4, 11, 4, 0)) q4) (hW.fr (i := (4, 11, 4, 0)) q4) (show rlen 4 0 = 800 from rfl) (by decide) (sP_g (Ω := Ω) (j := 11) (p := 4) (g := g2)) rfl (sP_P.trans (congrArg (sP Ω 11 4) eg4))) myX8_set wm3_73 ⟨_, _, _, _, (hW.ok (i := (3, 11, 4, 0)) q4), rfl, rfl, rfl, rfl⟩ rfl (kR rfl) (by decide) (kR rfl) rfl dX9_appendBytes_37 ?_
  refine r_aload_n C (k := 0) rfl rfl dX9_appendBytes_40 ?_
  refine og_5_0 C (hW.ok k5) wm1_235 dX9_appendBytes_41 ?_
  refine r_aload_n C (k := 0) rfl rfl dX9_appendBytes_44 ?_
  refine og_5_1 C (hW.ok k5) (sP_g (Ω := Ω) (j := 11) (p := 4) (g := g4)) wm1_239 dX9_appendBytes_45 ?_
  refine r_iconst C (v := 2) rfl dX9_appendBytes_48 ?_
  refine r_iadd C dX9_appendBytes_49 ?_
  refine r_iload_n C (k := 1) rfl rfl dX9_appendBytes_50 ?_
  refine r_bipush C (v := 8) rfl dX9_appendBytes_51 ?_
  refine r_iushr C (v := ((a1).toUInt32 >>> ((8 : Int32).toUInt32 &&& Int32.toUInt32 31)).toInt32) rfl dX9_appendBytes_53 ?_
  refine r_sipush C (v := 255) rfl dX9_appendBytes_54 ?_
  refine r_iand C dX9_appendBytes_57 ?_
  obtain ⟨g6, eg6, hF⟩ := lt_e hF
  refine r_callV C (d' := 0) [.int ((g4.1 1) + 2), .int (((a1).toUInt32 >>> ((8 : Int32).toUInt32 &&& Int32.toUInt32 31)).toInt32 &&& 255)] (c_rset hW.x (Or.inl (show okC (4, 11, 4, 0) from q4)) (hW.ok (i := (3, 11, 4, 0)) q4) (hW.ok (i := (4, 11, 4, 0)) q4) (hW.fr (i := (4, 11, 4, 0)) q4) (show rlen 4 0 = 800 from rfl) (by decide) (sP_g (Ω := Ω) (j := 11) (p := 4) (g := g4)) rfl (sP_P.trans (congrArg (sP Ω 11 4) eg6))) myX8_set wm3_73 ⟨_, _, _, _, (hW.ok (i := (3, 11, 4, 0)) q4), rfl, rfl, rfl, rfl⟩ rfl (kR rfl) (by decide) (kR rfl) rfl dX9_appendBytes_58 ?_
  refine r_aload_n C (k := 0) rfl rfl dX9_appendBytes_61 ?_
  refine og_5_0 C (hW.ok k5) wm1_235 dX9_appendBytes_62 ?_
  refine r_aload_n C (k := 0) rfl rfl dX9_appendBytes_65 ?_
  refine og_5_1 C (hW.ok k5) (sP_g (Ω := Ω) (j := 11) (p := 4) (g := g6)) wm1_239 dX9_appendBytes_66 ?_
  refine r_iconst C (v := 3) rfl dX9_appendBytes_69 ?_
  refine r_iadd C dX9_appendBytes_70 ?_
  refine r_iload_n C (k := 1) rfl rfl dX9_appendBytes_71 ?_
  refine r_sipush C (v := 255) rfl dX9_appendBytes_72 ?_
  refine r_iand C dX9_appendBytes_75 ?_
  obtain ⟨g8, eg8, hF⟩ := lt_e hF
  refine r_callV C (d' := 0) [.int ((g6.1 1) + 3), .int (a1 &&& 255)] (c_rset hW.x (Or.inl (show okC (4, 11, 4, 0) from q4)) (hW.ok (i := (3, 11, 4, 0)) q4) (hW.ok (i := (4, 11, 4, 0)) q4) (hW.fr (i := (4, 11, 4, 0)) q4) (show rlen 4 0 = 800 from rfl) (by decide) (sP_g (Ω := Ω) (j := 11) (p := 4) (g := g6)) rfl (sP_P.trans (congrArg (sP Ω 11 4) eg8))) myX8_set wm3_73 ⟨_, _, _, _, (hW.ok (i := (3, 11, 4, 0)) q4), rfl, rfl, rfl, rfl⟩ rfl (kR rfl) (by decide) (kR rfl) rfl dX9_appendBytes_76 ?_
  refine r_aload_n C (k := 0) rfl rfl dX9_appendBytes_79 ?_
  refine r_dup C rfl dX9_appendBytes_80 ?_
  refine og_5_1 C (hW.ok k5) (sP_g (Ω := Ω) (j := 11) (p := 4) (g := g8)) wm1_239 dX9_appendBytes_81 ?_
  refine r_iconst C (v := 4) rfl dX9_appendBytes_84 ?_
  refine r_iadd C dX9_appendBytes_85 ?_
  obtain ⟨g9, eg9, hF⟩ := lt_e hF
  refine op_5_1 C hW.x (Or.inl k5) (hW.fr k5) (sP_g (Ω := Ω) (j := 11) (p := 4) (g := g8)) wm1_239 dX9_appendBytes_86 (sP_P.trans (congrArg (sP Ω 11 4) eg9)) ?_
  cases hF
  exact r_return C dX9_appendBytes_89
theorem dX9_isOneWord_0 : decode cX9_isOneWord 0 = .ok (.aload_n 0, 1) := by decide +kernel
theorem dX9_isOneWord_1 : decode cX9_isOneWord 1 = .ok (.getfield 24, 3) := by decide +kernel
theorem dX9_isOneWord_4 : decode cX9_isOneWord 4 = .ok (.iconst 1, 1) := by decide +kernel
theorem dX9_isOneWord_5 : decode cX9_isOneWord 5 = .ok (.if_icmp .lt 12, 3) := by decide +kernel
theorem dX9_isOneWord_8 : decode cX9_isOneWord 8 = .ok (.aload_n 0, 1) := by decide +kernel
theorem dX9_isOneWord_9 : decode cX9_isOneWord 9 = .ok (.getfield 24, 3) := by decide +kernel
theorem dX9_isOneWord_12 : decode cX9_isOneWord 12 = .ok (.bipush 12, 2) := by decide +kernel
theorem dX9_isOneWord_14 : decode cX9_isOneWord 14 = .ok (.if_icmp .le 5, 3) := by decide +kernel
theorem dX9_isOneWord_17 : decode cX9_isOneWord 17 = .ok (.iconst 0, 1) := by decide +kernel
theorem dX9_isOneWord_18 : decode cX9_isOneWord 18 = .ok (.ireturn, 1) := by decide +kernel
theorem dX9_isOneWord_19 : decode cX9_isOneWord 19 = .ok (.iconst 0, 1) := by decide +kernel
theorem dX9_isOneWord_20 : decode cX9_isOneWord 20 = .ok (.istore_n 1, 1) := by decide +kernel
theorem dX9_isOneWord_21 : decode cX9_isOneWord 21 = .ok (.iload_n 1, 1) := by decide +kernel
theorem dX9_isOneWord_22 : decode cX9_isOneWord 22 = .ok (.aload_n 0, 1) := by decide +kernel
theorem dX9_isOneWord_23 : decode cX9_isOneWord 23 = .ok (.getfield 24, 3) := by decide +kernel
theorem dX9_isOneWord_26 : decode cX9_isOneWord 26 = .ok (.if_icmp .ge 25, 3) := by decide +kernel
theorem dX9_isOneWord_29 : decode cX9_isOneWord 29 = .ok (.aload_n 0, 1) := by decide +kernel
theorem dX9_isOneWord_30 : decode cX9_isOneWord 30 = .ok (.getfield 14, 3) := by decide +kernel
theorem dX9_isOneWord_33 : decode cX9_isOneWord 33 = .ok (.iload_n 1, 1) := by decide +kernel
theorem dX9_isOneWord_34 : decode cX9_isOneWord 34 = .ok (.invokevirtual 31, 3) := by decide +kernel
theorem dX9_isOneWord_37 : decode cX9_isOneWord 37 = .ok (.invokestatic 35, 3) := by decide +kernel
theorem dX9_isOneWord_40 : decode cX9_isOneWord 40 = .ok (.ifCond .ne 5, 3) := by decide +kernel
theorem dX9_isOneWord_43 : decode cX9_isOneWord 43 = .ok (.iconst 0, 1) := by decide +kernel
theorem dX9_isOneWord_44 : decode cX9_isOneWord 44 = .ok (.ireturn, 1) := by decide +kernel
theorem dX9_isOneWord_45 : decode cX9_isOneWord 45 = .ok (.iinc 1 1, 3) := by decide +kernel
theorem dX9_isOneWord_48 : decode cX9_isOneWord 48 = .ok (.goto (-27), 3) := by decide +kernel
theorem dX9_isOneWord_51 : decode cX9_isOneWord 51 = .ok (.iconst 1, 1) := by decide +kernel
theorem dX9_isOneWord_52 : decode cX9_isOneWord 52 = .ok (.ireturn, 1) := by decide +kernel
def st_X9_isOneWord_21 (N : Nat) (l1 : Int32) (g : HV) : Option ((Int32) ⊕ (Bool)) := (if (g.1 1) ≤ l1 then some (.inr true) else (if (F_X10_isLetter (rget 800 (g.2 0) l1)) = true then some (.inl (l1 + 1)) else some (.inr false)))
def F_X9_isOneWord (N : Nat) (g : HV) : Option (Bool) := (if (g.1 1) < 1 then some false else (if (g.1 1) ≤ 12 then (lpN N (fun z => st_X9_isOneWord_21 N z g) (0)) else some false))
theorem lp_X9_isOneWord_21 {w : WP} (hW : gW w) {Ω : OM}  {g : HV} (e : Ω.1 11 4 = g)   {N : Nat} {X : CX} (C : gC w X cX9_isOneWord "HedgeMessages$Text" (some .boolean) 1 2) {v : Bool}  : ∀ (n : Nat) (l1 : Int32), lpN n (fun z : Int32 => st_X9_isOneWord_21 N z g) (l1) = some v → gV w X (some (.int (b2i v)), cA w Ω) (cA w Ω) 21 [(0, .ref (wAd w (5, 11, 4, 0))), (1, .int l1)] [] := by
  intro n
  induction n with
  | zero => intro l1 hL; exact lpN_0 hL
  | succ n ih =>
    intro l1 hL
    obtain ⟨q9, hF, hL⟩ := lpN_e hL
    change st_X9_isOneWord_21 N l1 g = some q9 at hF
    unfold st_X9_isOneWord_21 at hF
    refine r_iload_n C (k := 1) rfl rfl dX9_isOneWord_21 ?_
    refine r_aload_n C (k := 0) rfl rfl dX9_isOneWord_22 ?_
    refine og_5_1 C (hW.ok k5) e wm1_239 dX9_isOneWord_23 ?_
    refine r_icmp_ge C (tgt := 51) rfl dX9_isOneWord_26 (fun hc => ?_) (fun hc => ?_)
    · rw [if_pos hc] at hF
      refine r_iconst C (v := 1) rfl dX9_isOneWord_51 ?_
      cases hF
      change some _ = some _ at hL
      cases hL
      exact r_zreturn C true rfl dX9_isOneWord_52
    · rw [if_neg hc] at hF
      refine r_aload_n C (k := 0) rfl rfl dX9_isOneWord_29 ?_
      refine og_5_0 C (hW.ok k5) wm1_235 dX9_isOneWord_30 ?_
      refine r_iload_n C (k := 1) rfl rfl dX9_isOneWord_33 ?_
      refine r_callV C (d' := 0) [.int l1] (c_rget (hW.ok (i := (3, 11, 4, 0)) q4) (hW.ok (i := (4, 11, 4, 0)) q4) (show rlen 4 0 = 800 from rfl) (by decide) (congrArg (fun z => z.2 0) e) rfl) myX8_get wm3_116 ⟨_, _, _, _, (hW.ok (i := (3, 11, 4, 0)) q4), rfl, rfl, rfl, rfl⟩ rfl (kR rfl) (by decide) (kR rfl) rfl dX9_isOneWord_34 ?_
      refine r_callSN C (d' := 0) [.int (rget 800 (g.2 0) l1)] (c_X10_isLetter (rget 800 (g.2 0) l1) rfl) myX10_isLetter wm3_120 rfl (kR rfl) (by decide) (kR rfl) rfl dX9_isOneWord_37 ?_
      refine r_if_ne C (tgt := 45) rfl dX9_isOneWord_40 (fun hc => ?_) (fun hc => ?_)
      · rw [if_pos (b2i_t hc)] at hF
        refine r_iinc C (k := 1) (v := (l1 + 1)) (lo' := [(1, .int (l1 + 1)), (0, .ref (wAd w (5, 11, 4, 0)))]) rfl rfl (by decide) rfl dX9_isOneWord_45 ?_
        refine r_goto C (tgt := 21) rfl dX9_isOneWord_48 ?_
        cases hF
        change lpN n _ _ = some _ at hL
        refine r_lo [1, 0] (lo' := [(0, .ref (wAd w (5, 11, 4, 0))), (1, .int (l1 + 1))]) rfl ?_
        exact ih (l1 + 1) hL
      · rw [if_neg (b2i_f hc)] at hF
        refine r_iconst C (v := 0) rfl dX9_isOneWord_43 ?_
        cases hF
        change some _ = some _ at hL
        cases hL
        exact r_zreturn C false rfl dX9_isOneWord_44
theorem c_X9_isOneWord {w : WP} (hW : gW w) {Ω : OM}  {g : HV} (e : Ω.1 11 4 = g) (N : Nat)  {v : Bool} (hF : F_X9_isOneWord N g = some v) : gM w 1 yX9_isOneWord cX9_isOneWord 2 (some .boolean) [.ref (wAd w (5, 11, 4, 0))] (cA w Ω) (some (.int (b2i v))) (cA w Ω) := by
  refine gM_of "HedgeMessages$Text" rfl (by decide) (kR rfl) fun X C => ?_
  unfold F_X9_isOneWord at hF
  show gV w X _ _ 0 [(0, .ref (wAd w (5, 11, 4, 0)))] []
  refine r_aload_n C (k := 0) rfl rfl dX9_isOneWord_0 ?_
  refine og_5_1 C (hW.ok k5) e wm1_239 dX9_isOneWord_1 ?_
  refine r_iconst C (v := 1) rfl dX9_isOneWord_4 ?_
  refine r_icmp_lt C (tgt := 17) rfl dX9_isOneWord_5 (fun hc => ?_) (fun hc => ?_)
  · rw [if_pos hc] at hF
    refine r_iconst C (v := 0) rfl dX9_isOneWord_17 ?_
    cases hF
    exact r_zreturn C false rfl dX9_isOneWord_18
  · rw [if_neg hc] at hF
    refine r_aload_n C (k := 0) rfl rfl dX9_isOneWord_8 ?_
    refine og_5_1 C (hW.ok k5) e wm1_239 dX9_isOneWord_9 ?_
    refine r_bipush C (v := 12) rfl dX9_isOneWord_12 ?_
    refine r_icmp_le C (tgt := 19) rfl dX9_isOneWord_14 (fun hc => ?_) (fun hc => ?_)
    · rw [if_pos hc] at hF
      refine r_iconst C (v := 0) rfl dX9_isOneWord_19 ?_
      refine r_istore_n C (lo' := [(1, .int 0), (0, .ref (wAd w (5, 11, 4, 0)))]) rfl (by decide) rfl dX9_isOneWord_20 ?_
      refine r_lo [1, 0] (lo' := [(0, .ref (wAd w (5, 11, 4, 0))), (1, .int 0)]) rfl ?_
      exact lp_X9_isOneWord_21 hW e C N 0 hF
    · rw [if_neg hc] at hF
      refine r_iconst C (v := 0) rfl dX9_isOneWord_17 ?_
      cases hF
      exact r_zreturn C false rfl dX9_isOneWord_18
theorem dX9_startReading_0 : decode cX9_startReading 0 = .ok (.aload_n 0, 1) := by decide +kernel
theorem dX9_startReading_1 : decode cX9_startReading 1 = .ok (.iconst 0, 1) := by decide +kernel
theorem dX9_startReading_2 : decode cX9_startReading 2 = .ok (.putfield 39, 3) := by decide +kernel
theorem dX9_startReading_5 : decode cX9_startReading 5 = .ok (.aload_n 0, 1) := by decide +kernel
theorem dX9_startReading_6 : decode cX9_startReading 6 = .ok (.iconst 0, 1) := by decide +kernel
theorem dX9_startReading_7 : decode cX9_startReading 7 = .ok (.putfield 42, 3) := by decide +kernel
theorem dX9_startReading_10 : decode cX9_startReading 10 = .ok (.aload_n 0, 1) := by decide +kernel
theorem dX9_startReading_11 : decode cX9_startReading 11 = .ok (.iconst (-1), 1) := by decide +kernel
theorem dX9_startReading_12 : decode cX9_startReading 12 = .ok (.putfield 20, 3) := by decide +kernel
theorem dX9_startReading_15 : decode cX9_startReading 15 = .ok (.return_, 1) := by decide +kernel
def F_X9_startReading (g : HV) : HV := (lt (sS g 2 0) fun g1 => (lt (sS g1 7 0) fun g2 => (lt (sS g2 8 (-1)) fun g3 => g3)))
theorem c_X9_startReading {w : WP} (hW : gW w) {Ω : OM}  {g : HV} (e : Ω.1 11 4 = g)  {g' : HV} (hF : F_X9_startReading g = g') {Ω' : OM} (e2 : (sP Ω 11 4 g') = Ω') : gM w 0 yX9_startReading cX9_startReading 1 none [.ref (wAd w (5, 11, 4, 0))] (cA w Ω) none (cA w Ω') := by
  refine gM_of "HedgeMessages$Text" rfl (by decide) (kR rfl) fun X C => ?_
  unfold F_X9_startReading at hF
  subst e2
  show gV w X _ _ 0 [(0, .ref (wAd w (5, 11, 4, 0)))] []
  refine r_ct (ct' := cA w (sP Ω 11 4 g)) (congrArg (cA w) (sP_i e).symm) ?_
  refine r_aload_n C (k := 0) rfl rfl dX9_startReading_0 ?_
  refine r_iconst C (v := 0) rfl dX9_startReading_1 ?_
  obtain ⟨g1, eg1, hF⟩ := lt_e hF
  refine op_5_2 C hW.x (Or.inl k5) (hW.fr k5) (sP_g (Ω := Ω) (j := 11) (p := 4) (g := g)) wm2_0 dX9_startReading_2 (sP_P.trans (congrArg (sP Ω 11 4) eg1)) ?_
  refine r_aload_n C (k := 0) rfl rfl dX9_startReading_5 ?_
  refine r_iconst C (v := 0) rfl dX9_startReading_6 ?_
  obtain ⟨g2, eg2, hF⟩ := lt_e hF
  refine op_5_7 C hW.x (Or.inl k5) (hW.fr k5) (sP_g (Ω := Ω) (j := 11) (p := 4) (g := g1)) wm2_8 dX9_startReading_7 (sP_P.trans (congrArg (sP Ω 11 4) eg2)) ?_
  refine r_aload_n C (k := 0) rfl rfl dX9_startReading_10 ?_
  refine r_iconst C (v := (-1)) (by decide) dX9_startReading_11 ?_
  obtain ⟨g3, eg3, hF⟩ := lt_e hF
  refine op_5_8 C hW.x (Or.inl k5) (hW.fr k5) (sP_g (Ω := Ω) (j := 11) (p := 4) (g := g2)) wm2_9 dX9_startReading_12 (sP_P.trans (congrArg (sP Ω 11 4) eg3)) ?_
  cases hF
  exact r_return C dX9_startReading_15
theorem dX9_refuse_0 : decode cX9_refuse 0 = .ok (.aload_n 0, 1) := by decide +kernel
theorem dX9_refuse_1 : decode cX9_refuse 1 = .ok (.iload_n 1, 1) := by decide +kernel
theorem dX9_refuse_2 : decode cX9_refuse 2 = .ok (.putfield 42, 3) := by decide +kernel
theorem dX9_refuse_5 : decode cX9_refuse 5 = .ok (.aload_n 0, 1) := by decide +kernel
theorem dX9_refuse_6 : decode cX9_refuse 6 = .ok (.aload_n 0, 1) := by decide +kernel
theorem dX9_refuse_7 : decode cX9_refuse 7 = .ok (.getfield 45, 3) := by decide +kernel
theorem dX9_refuse_10 : decode cX9_refuse 10 = .ok (.putfield 20, 3) := by decide +kernel
theorem dX9_refuse_13 : decode cX9_refuse 13 = .ok (.iconst 0, 1) := by decide +kernel
theorem dX9_refuse_14 : decode cX9_refuse 14 = .ok (.ireturn, 1) := by decide +kernel
def F_X9_refuse (a1 : Int32) (g : HV) : Bool × (HV) := (lt (sS g 7 a1) fun g1 => (lt (sS g1 8 (g1.1 4)) fun g2 => (false, g2)))
theorem c_X9_refuse {w : WP} (hW : gW w) {Ω : OM}  {g : HV} (e : Ω.1 11 4 = g) (a1 : Int32) {v : Bool} {g' : HV} (hF : F_X9_refuse a1 g = (v, g')) {Ω' : OM} (e2 : (sP Ω 11 4 g') = Ω') : gM w 0 yX9_refuse cX9_refuse 2 (some .boolean) [.ref (wAd w (5, 11, 4, 0)), .int a1] (cA w Ω) (some (.int (b2i v))) (cA w Ω') := by
  refine gM_of "HedgeMessages$Text" rfl (by decide) (kR rfl) fun X C => ?_
  unfold F_X9_refuse at hF
  subst e2
  show gV w X _ _ 0 [(0, .ref (wAd w (5, 11, 4, 0))), (1, .int a1)] []
  refine r_ct (ct' := cA w (sP Ω 11 4 g)) (congrArg (cA w) (sP_i e).symm) ?_
  refine r_aload_n C (k := 0) rfl rfl dX9_refuse_0 ?_
  refine r_iload_n C (k := 1) rfl rfl dX9_refuse_1 ?_
  obtain ⟨g1, eg1, hF⟩ := lt_e hF
  refine op_5_7 C hW.x (Or.inl k5) (hW.fr k5) (sP_g (Ω := Ω) (j := 11) (p := 4) (g := g)) wm2_8 dX9_refuse_2 (sP_P.trans (congrArg (sP Ω 11 4) eg1)) ?_
  refine r_aload_n C (k := 0) rfl rfl dX9_refuse_5 ?_
  refine r_aload_n C (k := 0) rfl rfl dX9_refuse_6 ?_
  refine og_5_4 C (hW.ok k5) (sP_g (Ω := Ω) (j := 11) (p := 4) (g := g1)) wm2_2 dX9_refuse_7 ?_
  obtain ⟨g2, eg2, hF⟩ := lt_e hF
  refine op_5_8 C hW.x (Or.inl k5) (hW.fr k5) (sP_g (Ω := Ω) (j := 11) (p := 4) (g := g1)) wm2_9 dX9_refuse_10 (sP_P.trans (congrArg (sP Ω 11 4) eg2)) ?_
  refine r_iconst C (v := 0) rfl dX9_refuse_13 ?_
  cases hF
  exact r_zreturn C false rfl dX9_refuse_14
theorem dX9_readToken_0 : decode cX9_readToken 0 = .ok (.aload_n 0, 1) := by decide +kernel
theorem dX9_readToken_1 : decode cX9_readToken 1 = .ok (.getfield 39, 3) := by decide +kernel
theorem dX9_readToken_4 : decode cX9_readToken 4 = .ok (.aload_n 0, 1) := by decide +kernel
theorem dX9_readToken_5 : decode cX9_readToken 5 = .ok (.getfield 24, 3) := by decide +kernel
theorem dX9_readToken_8 : decode cX9_readToken 8 = .ok (.if_icmp .ge 32, 3) := by decide +kernel
theorem dX9_readToken_11 : decode cX9_readToken 11 = .ok (.aload_n 0, 1) := by decide +kernel
theorem dX9_readToken_12 : decode cX9_readToken 12 = .ok (.getfield 14, 3) := by decide +kernel
theorem dX9_readToken_15 : decode cX9_readToken 15 = .ok (.aload_n 0, 1) := by decide +kernel
theorem dX9_readToken_16 : decode cX9_readToken 16 = .ok (.getfield 39, 3) := by decide +kernel
theorem dX9_readToken_19 : decode cX9_readToken 19 = .ok (.invokevirtual 31, 3) := by decide +kernel
theorem dX9_readToken_22 : decode cX9_readToken 22 = .ok (.bipush 32, 2) := by decide +kernel
theorem dX9_readToken_24 : decode cX9_readToken 24 = .ok (.if_icmp .ne 16, 3) := by decide +kernel
theorem dX9_readToken_27 : decode cX9_readToken 27 = .ok (.aload_n 0, 1) := by decide +kernel
theorem dX9_readToken_28 : decode cX9_readToken 28 = .ok (.dup, 1) := by decide +kernel
theorem dX9_readToken_29 : decode cX9_readToken 29 = .ok (.getfield 39, 3) := by decide +kernel
theorem dX9_readToken_32 : decode cX9_readToken 32 = .ok (.iconst 1, 1) := by decide +kernel
theorem dX9_readToken_33 : decode cX9_readToken 33 = .ok (.iadd, 1) := by decide +kernel
theorem dX9_readToken_34 : decode cX9_readToken 34 = .ok (.putfield 39, 3) := by decide +kernel
theorem dX9_readToken_37 : decode cX9_readToken 37 = .ok (.goto (-37), 3) := by decide +kernel
theorem dX9_readToken_40 : decode cX9_readToken 40 = .ok (.aload_n 0, 1) := by decide +kernel
theorem dX9_readToken_41 : decode cX9_readToken 41 = .ok (.aload_n 0, 1) := by decide +kernel
theorem dX9_readToken_42 : decode cX9_readToken 42 = .ok (.getfield 39, 3) := by decide +kernel
theorem dX9_readToken_45 : decode cX9_readToken 45 = .ok (.putfield 45, 3) := by decide +kernel
theorem dX9_readToken_48 : decode cX9_readToken 48 = .ok (.aload_n 0, 1) := by decide +kernel
theorem dX9_readToken_49 : decode cX9_readToken 49 = .ok (.getfield 14, 3) := by decide +kernel
theorem dX9_readToken_52 : decode cX9_readToken 52 = .ok (.aload_n 0, 1) := by decide +kernel
theorem dX9_readToken_53 : decode cX9_readToken 53 = .ok (.getfield 39, 3) := by decide +kernel
theorem dX9_readToken_56 : decode cX9_readToken 56 = .ok (.invokevirtual 31, 3) := by decide +kernel
theorem dX9_readToken_59 : decode cX9_readToken 59 = .ok (.istore_n 1, 1) := by decide +kernel
theorem dX9_readToken_60 : decode cX9_readToken 60 = .ok (.aload_n 0, 1) := by decide +kernel
theorem dX9_readToken_61 : decode cX9_readToken 61 = .ok (.getfield 39, 3) := by decide +kernel
theorem dX9_readToken_64 : decode cX9_readToken 64 = .ok (.aload_n 0, 1) := by decide +kernel
theorem dX9_readToken_65 : decode cX9_readToken 65 = .ok (.getfield 24, 3) := by decide +kernel
theorem dX9_readToken_68 : decode cX9_readToken 68 = .ok (.if_icmp .lt 11, 3) := by decide +kernel
theorem dX9_readToken_71 : decode cX9_readToken 71 = .ok (.aload_n 0, 1) := by decide +kernel
theorem dX9_readToken_72 : decode cX9_readToken 72 = .ok (.iconst 0, 1) := by decide +kernel
theorem dX9_readToken_73 : decode cX9_readToken 73 = .ok (.putfield 48, 3) := by decide +kernel
theorem dX9_readToken_76 : decode cX9_readToken 76 = .ok (.goto 134, 3) := by decide +kernel
theorem dX9_readToken_79 : decode cX9_readToken 79 = .ok (.iload_n 1, 1) := by decide +kernel
theorem dX9_readToken_80 : decode cX9_readToken 80 = .ok (.invokestatic 35, 3) := by decide +kernel
theorem dX9_readToken_83 : decode cX9_readToken 83 = .ok (.ifCond .eq 49, 3) := by decide +kernel
theorem dX9_readToken_86 : decode cX9_readToken 86 = .ok (.aload_n 0, 1) := by decide +kernel
theorem dX9_readToken_87 : decode cX9_readToken 87 = .ok (.iconst 1, 1) := by decide +kernel
theorem dX9_readToken_88 : decode cX9_readToken 88 = .ok (.putfield 48, 3) := by decide +kernel
theorem dX9_readToken_91 : decode cX9_readToken 91 = .ok (.aload_n 0, 1) := by decide +kernel
theorem dX9_readToken_92 : decode cX9_readToken 92 = .ok (.getfield 39, 3) := by decide +kernel
theorem dX9_readToken_95 : decode cX9_readToken 95 = .ok (.aload_n 0, 1) := by decide +kernel
theorem dX9_readToken_96 : decode cX9_readToken 96 = .ok (.getfield 24, 3) := by decide +kernel
theorem dX9_readToken_99 : decode cX9_readToken 99 = .ok (.if_icmp .ge 111, 3) := by decide +kernel
theorem dX9_readToken_102 : decode cX9_readToken 102 = .ok (.aload_n 0, 1) := by decide +kernel
theorem dX9_readToken_103 : decode cX9_readToken 103 = .ok (.getfield 14, 3) := by decide +kernel
theorem dX9_readToken_106 : decode cX9_readToken 106 = .ok (.aload_n 0, 1) := by decide +kernel
theorem dX9_readToken_107 : decode cX9_readToken 107 = .ok (.getfield 39, 3) := by decide +kernel
theorem dX9_readToken_110 : decode cX9_readToken 110 = .ok (.invokevirtual 31, 3) := by decide +kernel
theorem dX9_readToken_113 : decode cX9_readToken 113 = .ok (.invokestatic 35, 3) := by decide +kernel
theorem dX9_readToken_116 : decode cX9_readToken 116 = .ok (.ifCond .eq 94, 3) := by decide +kernel
theorem dX9_readToken_119 : decode cX9_readToken 119 = .ok (.aload_n 0, 1) := by decide +kernel
theorem dX9_readToken_120 : decode cX9_readToken 120 = .ok (.dup, 1) := by decide +kernel
theorem dX9_readToken_121 : decode cX9_readToken 121 = .ok (.getfield 39, 3) := by decide +kernel
theorem dX9_readToken_124 : decode cX9_readToken 124 = .ok (.iconst 1, 1) := by decide +kernel
theorem dX9_readToken_125 : decode cX9_readToken 125 = .ok (.iadd, 1) := by decide +kernel
theorem dX9_readToken_126 : decode cX9_readToken 126 = .ok (.putfield 39, 3) := by decide +kernel
theorem dX9_readToken_129 : decode cX9_readToken 129 = .ok (.goto (-38), 3) := by decide +kernel
theorem dX9_readToken_132 : decode cX9_readToken 132 = .ok (.iload_n 1, 1) := by decide +kernel
theorem dX9_readToken_133 : decode cX9_readToken 133 = .ok (.invokestatic 51, 3) := by decide +kernel
theorem dX9_readToken_136 : decode cX9_readToken 136 = .ok (.ifCond .eq 49, 3) := by decide +kernel
theorem dX9_readToken_139 : decode cX9_readToken 139 = .ok (.aload_n 0, 1) := by decide +kernel
theorem dX9_readToken_140 : decode cX9_readToken 140 = .ok (.iconst 2, 1) := by decide +kernel
theorem dX9_readToken_141 : decode cX9_readToken 141 = .ok (.putfield 48, 3) := by decide +kernel
theorem dX9_readToken_144 : decode cX9_readToken 144 = .ok (.aload_n 0, 1) := by decide +kernel
theorem dX9_readToken_145 : decode cX9_readToken 145 = .ok (.getfield 39, 3) := by decide +kernel
theorem dX9_readToken_148 : decode cX9_readToken 148 = .ok (.aload_n 0, 1) := by decide +kernel
theorem dX9_readToken_149 : decode cX9_readToken 149 = .ok (.getfield 24, 3) := by decide +kernel
theorem dX9_readToken_152 : decode cX9_readToken 152 = .ok (.if_icmp .ge 58, 3) := by decide +kernel
theorem dX9_readToken_155 : decode cX9_readToken 155 = .ok (.aload_n 0, 1) := by decide +kernel
theorem dX9_readToken_156 : decode cX9_readToken 156 = .ok (.getfield 14, 3) := by decide +kernel
theorem dX9_readToken_159 : decode cX9_readToken 159 = .ok (.aload_n 0, 1) := by decide +kernel
theorem dX9_readToken_160 : decode cX9_readToken 160 = .ok (.getfield 39, 3) := by decide +kernel
theorem dX9_readToken_163 : decode cX9_readToken 163 = .ok (.invokevirtual 31, 3) := by decide +kernel
theorem dX9_readToken_166 : decode cX9_readToken 166 = .ok (.invokestatic 51, 3) := by decide +kernel
theorem dX9_readToken_169 : decode cX9_readToken 169 = .ok (.ifCond .eq 41, 3) := by decide +kernel
theorem dX9_readToken_172 : decode cX9_readToken 172 = .ok (.aload_n 0, 1) := by decide +kernel
theorem dX9_readToken_173 : decode cX9_readToken 173 = .ok (.dup, 1) := by decide +kernel
theorem dX9_readToken_174 : decode cX9_readToken 174 = .ok (.getfield 39, 3) := by decide +kernel
theorem dX9_readToken_177 : decode cX9_readToken 177 = .ok (.iconst 1, 1) := by decide +kernel
theorem dX9_readToken_178 : decode cX9_readToken 178 = .ok (.iadd, 1) := by decide +kernel
theorem dX9_readToken_179 : decode cX9_readToken 179 = .ok (.putfield 39, 3) := by decide +kernel
theorem dX9_readToken_182 : decode cX9_readToken 182 = .ok (.goto (-38), 3) := by decide +kernel
theorem dX9_readToken_185 : decode cX9_readToken 185 = .ok (.aload_n 0, 1) := by decide +kernel
theorem dX9_readToken_186 : decode cX9_readToken 186 = .ok (.iload_n 1, 1) := by decide +kernel
theorem dX9_readToken_187 : decode cX9_readToken 187 = .ok (.bipush 59, 2) := by decide +kernel
theorem dX9_readToken_189 : decode cX9_readToken 189 = .ok (.if_icmp .ne 7, 3) := by decide +kernel
theorem dX9_readToken_192 : decode cX9_readToken 192 = .ok (.iconst 3, 1) := by decide +kernel
theorem dX9_readToken_193 : decode cX9_readToken 193 = .ok (.goto 4, 3) := by decide +kernel
theorem dX9_readToken_196 : decode cX9_readToken 196 = .ok (.iconst 4, 1) := by decide +kernel
theorem dX9_readToken_197 : decode cX9_readToken 197 = .ok (.putfield 48, 3) := by decide +kernel
theorem dX9_readToken_200 : decode cX9_readToken 200 = .ok (.aload_n 0, 1) := by decide +kernel
theorem dX9_readToken_201 : decode cX9_readToken 201 = .ok (.dup, 1) := by decide +kernel
theorem dX9_readToken_202 : decode cX9_readToken 202 = .ok (.getfield 39, 3) := by decide +kernel
theorem dX9_readToken_205 : decode cX9_readToken 205 = .ok (.iconst 1, 1) := by decide +kernel
theorem dX9_readToken_206 : decode cX9_readToken 206 = .ok (.iadd, 1) := by decide +kernel
theorem dX9_readToken_207 : decode cX9_readToken 207 = .ok (.putfield 39, 3) := by decide +kernel
theorem dX9_readToken_210 : decode cX9_readToken 210 = .ok (.aload_n 0, 1) := by decide +kernel
theorem dX9_readToken_211 : decode cX9_readToken 211 = .ok (.aload_n 0, 1) := by decide +kernel
theorem dX9_readToken_212 : decode cX9_readToken 212 = .ok (.getfield 39, 3) := by decide +kernel
theorem dX9_readToken_215 : decode cX9_readToken 215 = .ok (.aload_n 0, 1) := by decide +kernel
theorem dX9_readToken_216 : decode cX9_readToken 216 = .ok (.getfield 45, 3) := by decide +kernel
theorem dX9_readToken_219 : decode cX9_readToken 219 = .ok (.isub, 1) := by decide +kernel
theorem dX9_readToken_220 : decode cX9_readToken 220 = .ok (.putfield 54, 3) := by decide +kernel
theorem dX9_readToken_223 : decode cX9_readToken 223 = .ok (.return_, 1) := by decide +kernel
def st_X9_readToken_144 (N : Nat) (g : HV) : Option ((HV) ⊕ (HV)) := (if (g.1 1) ≤ (g.1 2) then (lt (sS g 5 ((g.1 2) - (g.1 4))) fun g9 => some (.inr g9)) else (if (F_X10_isDigit (rget 800 (g.2 0) (g.1 2))) = true then (lt (sS g 2 ((g.1 2) + 1)) fun g11 => some (.inl g11)) else (lt (sS g 5 ((g.1 2) - (g.1 4))) fun g10 => some (.inr g10))))
def st_X9_readToken_91 (N : Nat) (g : HV) : Option ((HV) ⊕ (HV)) := (if (g.1 1) ≤ (g.1 2) then (lt (sS g 5 ((g.1 2) - (g.1 4))) fun g13 => some (.inr g13)) else (if (F_X10_isLetter (rget 800 (g.2 0) (g.1 2))) = true then (lt (sS g 2 ((g.1 2) + 1)) fun g15 => some (.inl g15)) else (lt (sS g 5 ((g.1 2) - (g.1 4))) fun g14 => some (.inr g14))))
def st_X9_readToken_0 (N : Nat) (g : HV) : Option ((HV) ⊕ (HV)) := (if (g.1 1) ≤ (g.1 2) then (lt (sS g 4 (g.1 2)) fun g1 => (if (g1.1 2) < (g1.1 1) then (if (F_X10_isLetter (rget 800 (g1.2 0) (g1.1 2))) = true then (lt (sS g1 3 1) fun g12 => (ob1 (lpN N (fun z => st_X9_readToken_91 N z) (g12)) fun q9 => some (.inr q9))) else (if (F_X10_isDigit (rget 800 (g1.2 0) (g1.1 2))) = true then (lt (sS g1 3 2) fun g8 => (ob1 (lpN N (fun z => st_X9_readToken_144 N z) (g8)) fun q9 => some (.inr q9))) else (if (rget 800 (g1.2 0) (g1.1 2)) = 59 then (lt (sS g1 3 3) fun g5 => (lt (sS g5 2 ((g5.1 2) + 1)) fun g6 => (lt (sS g6 5 ((g6.1 2) - (g6.1 4))) fun g7 => some (.inr g7)))) else (lt (sS g1 3 4) fun g2 => (lt (sS g2 2 ((g2.1 2) + 1)) fun g3 => (lt (sS g3 5 ((g3.1 2) - (g3.1 4))) fun g4 => some (.inr g4))))))) else (lt (sS g1 3 0) fun g16 => (lt (sS g16 5 ((g16.1 2) - (g16.1 4))) fun g17 => some (.inr g17))))) else (if (rget 800 (g.2 0) (g.1 2)) = 32 then (lt (sS g 2 ((g.1 2) + 1)) fun g29 => some (.inl g29)) else (lt (sS g 4 (g.1 2)) fun g18 => (if (g18.1 2) < (g18.1 1) then (if (F_X10_isLetter (rget 800 (g18.2 0) (g18.1 2))) = true then (lt (sS g18 3 1) fun g26 => (ob1 (lpN N (fun z => st_X9_readToken_91 N z) (g26)) fun q9 => some (.inr q9))) else (if (F_X10_isDigit (rget 800 (g18.2 0) (g18.1 2))) = true then (lt (sS g18 3 2) fun g25 => (ob1 (lpN N (fun z => st_X9_readToken_144 N z) (g25)) fun q9 => some (.inr q9))) else (if (rget 800 (g18.2 0) (g18.1 2)) = 59 then (lt (sS g18 3 3) fun g22 => (lt (sS g22 2 ((g22.1 2) + 1)) fun g23 => (lt (sS g23 5 ((g23.1 2) - (g23.1 4))) fun g24 => some (.inr g24)))) else (lt (sS g18 3 4) fun g19 => (lt (sS g19 2 ((g19.1 2) + 1)) fun g20 => (lt (sS g20 5 ((g20.1 2) - (g20.1 4))) fun g21 => some (.inr g21))))))) else (lt (sS g18 3 0) fun g27 => (lt (sS g27 5 ((g27.1 2) - (g27.1 4))) fun g28 => some (.inr g28)))))))
def F_X9_readToken (N : Nat) (g : HV) : Option (HV) := (lpN N (fun z => st_X9_readToken_0 N z) (g))
theorem lp_X9_readToken_144 {w : WP} (hW : gW w) {Ω : OM}    {N : Nat} {X : CX} (C : gC w X cX9_readToken "HedgeMessages$Text" none 1 2) {g' : HV}  : ∀ (n : Nat) (g : HV), lpN n (fun z : HV => st_X9_readToken_144 N z) (g) = some g' → gV w X (none, cA w (sP Ω 11 4 g')) (cA w (sP Ω 11 4 g)) 144 [(0, .ref (wAd w (5, 11, 4, 0)))] [] := by
  intro n
  induction n with
  | zero => intro g hL; exact lpN_0 hL
  | succ n ih =>
    intro g hL
    obtain ⟨q9, hF, hL⟩ := lpN_e hL
    change st_X9_readToken_144 N g = some q9 at hF
    unfold st_X9_readToken_144 at hF
    refine r_aload_n C (k := 0) rfl rfl dX9_readToken_144 ?_
    refine og_5_2 C (hW.ok k5) (sP_g (Ω := Ω) (j := 11) (p := 4) (g := g)) wm2_0 dX9_readToken_145 ?_
    refine r_aload_n C (k := 0) rfl rfl dX9_readToken_148 ?_
    refine og_5_1 C (hW.ok k5) (sP_g (Ω := Ω) (j := 11) (p := 4) (g := g)) wm1_239 dX9_readToken_149 ?_
    refine r_icmp_ge C (tgt := 210) rfl dX9_readToken_152 (fun hc => ?_) (fun hc => ?_)
    · rw [if_pos hc] at hF
      refine r_aload_n C (k := 0) rfl rfl dX9_readToken_210 ?_
      refine r_aload_n C (k := 0) rfl rfl dX9_readToken_211 ?_
      refine og_5_2 C (hW.ok k5) (sP_g (Ω := Ω) (j := 11) (p := 4) (g := g)) wm2_0 dX9_readToken_212 ?_
      refine r_aload_n C (k := 0) rfl rfl dX9_readToken_215 ?_
      refine og_5_4 C (hW.ok k5) (sP_g (Ω := Ω) (j := 11) (p := 4) (g := g)) wm2_2 dX9_readToken_216 ?_
      refine r_isub C dX9_readToken_219 ?_
      obtain ⟨g9, eg9, hF⟩ := lt_e hF
      refine op_5_5 C hW.x (Or.inl k5) (hW.fr k5) (sP_g (Ω := Ω) (j := 11) (p := 4) (g := g)) wm2_4 dX9_readToken_220 (sP_P.trans (congrArg (sP Ω 11 4) eg9)) ?_
      cases hF
      change some _ = some _ at hL
      cases hL
      exact r_return C dX9_readToken_223
    · rw [if_neg hc] at hF
      refine r_aload_n C (k := 0) rfl rfl dX9_readToken_155 ?_
      refine og_5_0 C (hW.ok k5) wm1_235 dX9_readToken_156 ?_
      refine r_aload_n C (k := 0) rfl rfl dX9_readToken_159 ?_
      refine og_5_2 C (hW.ok k5) (sP_g (Ω := Ω) (j := 11) (p := 4) (g := g)) wm2_0 dX9_readToken_160 ?_
      refine r_callV C (d' := 0) [.int (g.1 2)] (c_rget (hW.ok (i := (3, 11, 4, 0)) q4) (hW.ok (i := (4, 11, 4, 0)) q4) (show rlen 4 0 = 800 from rfl) (by decide) (congrArg (fun z => z.2 0) (sP_g (Ω := Ω) (j := 11) (p := 4) (g := g))) rfl) myX8_get wm3_116 ⟨_, _, _, _, (hW.ok (i := (3, 11, 4, 0)) q4), rfl, rfl, rfl, rfl⟩ rfl (kR rfl) (by decide) (kR rfl) rfl dX9_readToken_163 ?_
      refine r_callSN C (d' := 0) [.int (rget 800 (g.2 0) (g.1 2))] (c_X10_isDigit (rget 800 (g.2 0) (g.1 2)) rfl) myX10_isDigit wm3_123 rfl (kR rfl) (by decide) (kR rfl) rfl dX9_readToken_166 ?_
      refine r_if_eq C (tgt := 210) rfl dX9_readToken_169 (fun hc => ?_) (fun hc => ?_)
      · rw [if_neg (b2i_f hc)] at hF
        refine r_aload_n C (k := 0) rfl rfl dX9_readToken_210 ?_
        refine r_aload_n C (k := 0) rfl rfl dX9_readToken_211 ?_
        refine og_5_2 C (hW.ok k5) (sP_g (Ω := Ω) (j := 11) (p := 4) (g := g)) wm2_0 dX9_readToken_212 ?_
        refine r_aload_n C (k := 0) rfl rfl dX9_readToken_215 ?_
        refine og_5_4 C (hW.ok k5) (sP_g (Ω := Ω) (j := 11) (p := 4) (g := g)) wm2_2 dX9_readToken_216 ?_
        refine r_isub C dX9_readToken_219 ?_
        obtain ⟨g10, eg10, hF⟩ := lt_e hF
        refine op_5_5 C hW.x (Or.inl k5) (hW.fr k5) (sP_g (Ω := Ω) (j := 11) (p := 4) (g := g)) wm2_4 dX9_readToken_220 (sP_P.trans (congrArg (sP Ω 11 4) eg10)) ?_
        cases hF
        change some _ = some _ at hL
        cases hL
        exact r_return C dX9_readToken_223
      · rw [if_pos (b2i_t hc)] at hF
        refine r_aload_n C (k := 0) rfl rfl dX9_readToken_172 ?_
        refine r_dup C rfl dX9_readToken_173 ?_
        refine og_5_2 C (hW.ok k5) (sP_g (Ω := Ω) (j := 11) (p := 4) (g := g)) wm2_0 dX9_readToken_174 ?_
        refine r_iconst C (v := 1) rfl dX9_readToken_177 ?_
        refine r_iadd C dX9_readToken_178 ?_
        obtain ⟨g11, eg11, hF⟩ := lt_e hF
        refine op_5_2 C hW.x (Or.inl k5) (hW.fr k5) (sP_g (Ω := Ω) (j := 11) (p := 4) (g := g)) wm2_0 dX9_readToken_179 (sP_P.trans (congrArg (sP Ω 11 4) eg11)) ?_
        refine r_goto C (tgt := 144) rfl dX9_readToken_182 ?_
        cases hF
        change lpN n _ _ = some _ at hL
        refine r_lo [0] (lo' := [(0, .ref (wAd w (5, 11, 4, 0)))]) rfl ?_
        exact ih g11 hL
theorem lp_X9_readToken_91 {w : WP} (hW : gW w) {Ω : OM}    {N : Nat} {X : CX} (C : gC w X cX9_readToken "HedgeMessages$Text" none 1 2) {g' : HV}  : ∀ (n : Nat) (g : HV), lpN n (fun z : HV => st_X9_readToken_91 N z) (g) = some g' → gV w X (none, cA w (sP Ω 11 4 g')) (cA w (sP Ω 11 4 g)) 91 [(0, .ref (wAd w (5, 11, 4, 0)))] [] := by
  intro n
  induction n with
  | zero => intro g hL; exact lpN_0 hL
  | succ n ih =>
    intro g hL
    obtain ⟨q9, hF, hL⟩ := lpN_e hL
    change st_X9_readToken_91 N g = some q9 at hF
    unfold st_X9_readToken_91 at hF
    refine r_aload_n C (k := 0) rfl rfl dX9_readToken_91 ?_
    refine og_5_2 C (hW.ok k5) (sP_g (Ω := Ω) (j := 11) (p := 4) (g := g)) wm2_0 dX9_readToken_92 ?_
    refine r_aload_n C (k := 0) rfl rfl dX9_readToken_95 ?_
    refine og_5_1 C (hW.ok k5) (sP_g (Ω := Ω) (j := 11) (p := 4) (g := g)) wm1_239 dX9_readToken_96 ?_
    refine r_icmp_ge C (tgt := 210) rfl dX9_readToken_99 (fun hc => ?_) (fun hc => ?_)
    · rw [if_pos hc] at hF
      refine r_aload_n C (k := 0) rfl rfl dX9_readToken_210 ?_
      refine r_aload_n C (k := 0) rfl rfl dX9_readToken_211 ?_
      refine og_5_2 C (hW.ok k5) (sP_g (Ω := Ω) (j := 11) (p := 4) (g := g)) wm2_0 dX9_readToken_212 ?_
      refine r_aload_n C (k := 0) rfl rfl dX9_readToken_215 ?_
      refine og_5_4 C (hW.ok k5) (sP_g (Ω := Ω) (j := 11) (p := 4) (g := g)) wm2_2 dX9_readToken_216 ?_
      refine r_isub C dX9_readToken_219 ?_
      obtain ⟨g13, eg13, hF⟩ := lt_e hF
      refine op_5_5 C hW.x (Or.inl k5) (hW.fr k5) (sP_g (Ω := Ω) (j := 11) (p := 4) (g := g)) wm2_4 dX9_readToken_220 (sP_P.trans (congrArg (sP Ω 11 4) eg13)) ?_
      cases hF
      change some _ = some _ at hL
      cases hL
      exact r_return C dX9_readToken_223
    · rw [if_neg hc] at hF
      refine r_aload_n C (k := 0) rfl rfl dX9_readToken_102 ?_
      refine og_5_0 C (hW.ok k5) wm1_235 dX9_readToken_103 ?_
      refine r_aload_n C (k := 0) rfl rfl dX9_readToken_106 ?_
      refine og_5_2 C (hW.ok k5) (sP_g (Ω := Ω) (j := 11) (p := 4) (g := g)) wm2_0 dX9_readToken_107 ?_
      refine r_callV C (d' := 0) [.int (g.1 2)] (c_rget (hW.ok (i := (3, 11, 4, 0)) q4) (hW.ok (i := (4, 11, 4, 0)) q4) (show rlen 4 0 = 800 from rfl) (by decide) (congrArg (fun z => z.2 0) (sP_g (Ω := Ω) (j := 11) (p := 4) (g := g))) rfl) myX8_get wm3_116 ⟨_, _, _, _, (hW.ok (i := (3, 11, 4, 0)) q4), rfl, rfl, rfl, rfl⟩ rfl (kR rfl) (by decide) (kR rfl) rfl dX9_readToken_110 ?_
      refine r_callSN C (d' := 0) [.int (rget 800 (g.2 0) (g.1 2))] (c_X10_isLetter (rget 800 (g.2 0) (g.1 2)) rfl) myX10_isLetter wm3_120 rfl (kR rfl) (by decide) (kR rfl) rfl dX9_readToken_113 ?_
      refine r_if_eq C (tgt := 210) rfl dX9_readToken_116 (fun hc => ?_) (fun hc => ?_)
      · rw [if_neg (b2i_f hc)] at hF
        refine r_aload_n C (k := 0) rfl rfl dX9_readToken_210 ?_
        refine r_aload_n C (k := 0) rfl rfl dX9_readToken_211 ?_
        refine og_5_2 C (hW.ok k5) (sP_g (Ω := Ω) (j := 11) (p := 4) (g := g)) wm2_0 dX9_readToken_212 ?_
        refine r_aload_n C (k := 0) rfl rfl dX9_readToken_215 ?_
        refine og_5_4 C (hW.ok k5) (sP_g (Ω := Ω) (j := 11) (p := 4) (g := g)) wm2_2 dX9_readToken_216 ?_
        refine r_isub C dX9_readToken_219 ?_
        obtain ⟨g14, eg14, hF⟩ := lt_e hF
        refine op_5_5 C hW.x (Or.inl k5) (hW.fr k5) (sP_g (Ω := Ω) (j := 11) (p := 4) (g := g)) wm2_4 dX9_readToken_220 (sP_P.trans (congrArg (sP Ω 11 4) eg14)) ?_
        cases hF
        change some _ = some _ at hL
        cases hL
        exact r_return C dX9_readToken_223
      · rw [if_pos (b2i_t hc)] at hF
        refine r_aload_n C (k := 0) rfl rfl dX9_readToken_119 ?_
        refine r_dup C rfl dX9_readToken_120 ?_
        refine og_5_2 C (hW.ok k5) (sP_g (Ω := Ω) (j := 11) (p := 4) (g := g)) wm2_0 dX9_readToken_121 ?_
        refine r_iconst C (v := 1) rfl dX9_readToken_124 ?_
        refine r_iadd C dX9_readToken_125 ?_
        obtain ⟨g15, eg15, hF⟩ := lt_e hF
        refine op_5_2 C hW.x (Or.inl k5) (hW.fr k5) (sP_g (Ω := Ω) (j := 11) (p := 4) (g := g)) wm2_0 dX9_readToken_126 (sP_P.trans (congrArg (sP Ω 11 4) eg15)) ?_
        refine r_goto C (tgt := 91) rfl dX9_readToken_129 ?_
        cases hF
        change lpN n _ _ = some _ at hL
        refine r_lo [0] (lo' := [(0, .ref (wAd w (5, 11, 4, 0)))]) rfl ?_
        exact ih g15 hL
theorem lp_X9_readToken_0 {w : WP} (hW : gW w) {Ω : OM}    {N : Nat} {X : CX} (C : gC w X cX9_readToken "HedgeMessages$Text" none 1 2) {g' : HV}  : ∀ (n : Nat) (g : HV), lpN n (fun z : HV => st_X9_readToken_0 N z) (g) = some g' → gV w X (none, cA w (sP Ω 11 4 g')) (cA w (sP Ω 11 4 g)) 0 [(0, .ref (wAd w (5, 11, 4, 0)))] [] := by
  intro n
  induction n with
  | zero => intro g hL; exact lpN_0 hL
  | succ n ih =>
    intro g hL
    obtain ⟨q9, hF, hL⟩ := lpN_e hL
    change st_X9_readToken_0 N g = some q9 at hF
    unfold st_X9_readToken_0 at hF
    refine r_aload_n C (k := 0) rfl rfl dX9_readToken_0 ?_
    refine og_5_2 C (hW.ok k5) (sP_g (Ω := Ω) (j := 11) (p := 4) (g := g)) wm2_0 dX9_readToken_1 ?_
    refine r_aload_n C (k := 0) rfl rfl dX9_readToken_4 ?_
    refine og_5_1 C (hW.ok k5) (sP_g (Ω := Ω) (j := 11) (p := 4) (g := g)) wm1_239 dX9_readToken_5 ?_
    refine r_icmp_ge C (tgt := 40) rfl dX9_readToken_8 (fun hc => ?_) (fun hc => ?_)
    · rw [if_pos hc] at hF
      refine r_aload_n C (k := 0) rfl rfl dX9_readToken_40 ?_
      refine r_aload_n C (k := 0) rfl rfl dX9_readToken_41 ?_
      refine og_5_2 C (hW.ok k5) (sP_g (Ω := Ω) (j := 11) (p := 4) (g := g)) wm2_0 dX9_readToken_42 ?_
      obtain ⟨g1, eg1, hF⟩ := lt_e hF
      refine op_5_4 C hW.x (Or.inl k5) (hW.fr k5) (sP_g (Ω := Ω) (j := 11) (p := 4) (g := g)) wm2_2 dX9_readToken_45 (sP_P.trans (congrArg (sP Ω 11 4) eg1)) ?_
      refine r_aload_n C (k := 0) rfl rfl dX9_readToken_48 ?_
      refine og_5_0 C (hW.ok k5) wm1_235 dX9_readToken_49 ?_
      refine r_aload_n C (k := 0) rfl rfl dX9_readToken_52 ?_
      refine og_5_2 C (hW.ok k5) (sP_g (Ω := Ω) (j := 11) (p := 4) (g := g1)) wm2_0 dX9_readToken_53 ?_
      refine r_callV C (d' := 0) [.int (g1.1 2)] (c_rget (hW.ok (i := (3, 11, 4, 0)) q4) (hW.ok (i := (4, 11, 4, 0)) q4) (show rlen 4 0 = 800 from rfl) (by decide) (congrArg (fun z => z.2 0) (sP_g (Ω := Ω) (j := 11) (p := 4) (g := g1))) rfl) myX8_get wm3_116 ⟨_, _, _, _, (hW.ok (i := (3, 11, 4, 0)) q4), rfl, rfl, rfl, rfl⟩ rfl (kR rfl) (by decide) (kR rfl) rfl dX9_readToken_56 ?_
      refine r_istore_n C (lo' := [(1, .int (rget 800 (g1.2 0) (g1.1 2))), (0, .ref (wAd w (5, 11, 4, 0)))]) rfl (by decide) rfl dX9_readToken_59 ?_
      refine r_aload_n C (k := 1) rfl rfl dX9_readToken_60 ?_
      refine og_5_2 C (hW.ok k5) (sP_g (Ω := Ω) (j := 11) (p := 4) (g := g1)) wm2_0 dX9_readToken_61 ?_
      refine r_aload_n C (k := 1) rfl rfl dX9_readToken_64 ?_
      refine og_5_1 C (hW.ok k5) (sP_g (Ω := Ω) (j := 11) (p := 4) (g := g1)) wm1_239 dX9_readToken_65 ?_
      refine r_icmp_lt C (tgt := 79) rfl dX9_readToken_68 (fun hc => ?_) (fun hc => ?_)
      · rw [if_pos hc] at hF
        refine r_iload_n C (k := 0) rfl rfl dX9_readToken_79 ?_
        refine r_callSN C (d' := 0) [.int (rget 800 (g1.2 0) (g1.1 2))] (c_X10_isLetter (rget 800 (g1.2 0) (g1.1 2)) rfl) myX10_isLetter wm3_120 rfl (kR rfl) (by decide) (kR rfl) rfl dX9_readToken_80 ?_
        refine r_if_eq C (tgt := 132) rfl dX9_readToken_83 (fun hc => ?_) (fun hc => ?_)
        · rw [if_neg (b2i_f hc)] at hF
          refine r_iload_n C (k := 0) rfl rfl dX9_readToken_132 ?_
          refine r_callSN C (d' := 0) [.int (rget 800 (g1.2 0) (g1.1 2))] (c_X10_isDigit (rget 800 (g1.2 0) (g1.1 2)) rfl) myX10_isDigit wm3_123 rfl (kR rfl) (by decide) (kR rfl) rfl dX9_readToken_133 ?_
          refine r_if_eq C (tgt := 185) rfl dX9_readToken_136 (fun hc => ?_) (fun hc => ?_)
          · rw [if_neg (b2i_f hc)] at hF
            refine r_aload_n C (k := 1) rfl rfl dX9_readToken_185 ?_
            refine r_iload_n C (k := 0) rfl rfl dX9_readToken_186 ?_
            refine r_bipush C (v := 59) rfl dX9_readToken_187 ?_
            refine r_icmp_ne C (tgt := 196) rfl dX9_readToken_189 (fun hc => ?_) (fun hc => ?_)
            · rw [if_neg hc] at hF
              refine r_iconst C (v := 4) rfl dX9_readToken_196 ?_
              obtain ⟨g2, eg2, hF⟩ := lt_e hF
              refine op_5_3 C hW.x (Or.inl k5) (hW.fr k5) (sP_g (Ω := Ω) (j := 11) (p := 4) (g := g1)) wm2_1 dX9_readToken_197 (sP_P.trans (congrArg (sP Ω 11 4) eg2)) ?_
              refine r_aload_n C (k := 1) rfl rfl dX9_readToken_200 ?_
              refine r_dup C rfl dX9_readToken_201 ?_
              refine og_5_2 C (hW.ok k5) (sP_g (Ω := Ω) (j := 11) (p := 4) (g := g2)) wm2_0 dX9_readToken_202 ?_
              refine r_iconst C (v := 1) rfl dX9_readToken_205 ?_
              refine r_iadd C dX9_readToken_206 ?_
              obtain ⟨g3, eg3, hF⟩ := lt_e hF
              refine op_5_2 C hW.x (Or.inl k5) (hW.fr k5) (sP_g (Ω := Ω) (j := 11) (p := 4) (g := g2)) wm2_0 dX9_readToken_207 (sP_P.trans (congrArg (sP Ω 11 4) eg3)) ?_
              refine r_aload_n C (k := 1) rfl rfl dX9_readToken_210 ?_
              refine r_aload_n C (k := 1) rfl rfl dX9_readToken_211 ?_
              refine og_5_2 C (hW.ok k5) (sP_g (Ω := Ω) (j := 11) (p := 4) (g := g3)) wm2_0 dX9_readToken_212 ?_
              refine r_aload_n C (k := 1) rfl rfl dX9_readToken_215 ?_
              refine og_5_4 C (hW.ok k5) (sP_g (Ω := Ω) (j := 11) (p := 4) (g := g3)) wm2_2 dX9_readToken_216 ?_
              refine r_isub C dX9_readToken_219 ?_
              obtain ⟨g4, eg4, hF⟩ := lt_e hF
              refine op_5_5 C hW.x (Or.inl k5) (hW.fr k5) (sP_g (Ω := Ω) (j := 11) (p := 4) (g := g3)) wm2_4 dX9_readToken_220 (sP_P.trans (congrArg (sP Ω 11 4) eg4)) ?_
              cases hF
              change some _ = some _ at hL
              cases hL
              exact r_return C dX9_readToken_223
            · rw [if_pos hc] at hF
              refine r_iconst C (v := 3) rfl dX9_readToken_192 ?_
              refine r_goto C (tgt := 197) rfl dX9_readToken_193 ?_
              obtain ⟨g5, eg5, hF⟩ := lt_e hF
              refine op_5_3 C hW.x (Or.inl k5) (hW.fr k5) (sP_g (Ω := Ω) (j := 11) (p := 4) (g := g1)) wm2_1 dX9_readToken_197 (sP_P.trans (congrArg (sP Ω 11 4) eg5)) ?_
              refine r_aload_n C (k := 1) rfl rfl dX9_readToken_200 ?_
              refine r_dup C rfl dX9_readToken_201 ?_
              refine og_5_2 C (hW.ok k5) (sP_g (Ω := Ω) (j := 11) (p := 4) (g := g5)) wm2_0 dX9_readToken_202 ?_
              refine r_iconst C (v := 1) rfl dX9_readToken_205 ?_
              refine r_iadd C dX9_readToken_206 ?_
              obtain ⟨g6, eg6, hF⟩ := lt_e hF
              refine op_5_2 C hW.x (Or.inl k5) (hW.fr k5) (sP_g (Ω := Ω) (j := 11) (p := 4) (g := g5)) wm2_0 dX9_readToken_207 (sP_P.trans (congrArg (sP Ω 11 4) eg6)) ?_
              refine r_aload_n C (k := 1) rfl rfl dX9_readToken_210 ?_
              refine r_aload_n C (k := 1) rfl rfl dX9_readToken_211 ?_
              refine og_5_2 C (hW.ok k5) (sP_g (Ω := Ω) (j := 11) (p := 4) (g := g6)) wm2_0 dX9_readToken_212 ?_
              refine r_aload_n C (k := 1) rfl rfl dX9_readToken_215 ?_
              refine og_5_4 C (hW.ok k5) (sP_g (Ω := Ω) (j := 11) (p := 4) (g := g6)) wm2_2 dX9_readToken_216 ?_
              refine r_isub C dX9_readToken_219 ?_
              obtain ⟨g7, eg7, hF⟩ := lt_e hF
              refine op_5_5 C hW.x (Or.inl k5) (hW.fr k5) (sP_g (Ω := Ω) (j := 11) (p := 4) (g := g6)) wm2_4 dX9_readToken_220 (sP_P.trans (congrArg (sP Ω 11 4) eg7)) ?_
              cases hF
              change some _ = some _ at hL
              cases hL
              exact r_return C dX9_readToken_223
          · rw [if_pos (b2i_t hc)] at hF
            refine r_aload_n C (k := 1) rfl rfl dX9_readToken_139 ?_
            refine r_iconst C (v := 2) rfl dX9_readToken_140 ?_
            obtain ⟨g8, eg8, hF⟩ := lt_e hF
            refine op_5_3 C hW.x (Or.inl k5) (hW.fr k5) (sP_g (Ω := Ω) (j := 11) (p := 4) (g := g1)) wm2_1 dX9_readToken_141 (sP_P.trans (congrArg (sP Ω 11 4) eg8)) ?_
            obtain ⟨q9, h9, hF⟩ := ob1_e hF
            cases hF
            change some _ = some _ at hL
            cases hL
            refine r_lo [1] (lo' := [(0, .ref (wAd w (5, 11, 4, 0)))]) rfl ?_
            exact lp_X9_readToken_144 hW C N g8 h9
        · rw [if_pos (b2i_t hc)] at hF
          refine r_aload_n C (k := 1) rfl rfl dX9_readToken_86 ?_
          refine r_iconst C (v := 1) rfl dX9_readToken_87 ?_
          obtain ⟨g12, eg12, hF⟩ := lt_e hF
          refine op_5_3 C hW.x (Or.inl k5) (hW.fr k5) (sP_g (Ω := Ω) (j := 11) (p := 4) (g := g1)) wm2_1 dX9_readToken_88 (sP_P.trans (congrArg (sP Ω 11 4) eg12)) ?_
          obtain ⟨q9, h9, hF⟩ := ob1_e hF
          cases hF
          change some _ = some _ at hL
          cases hL
          refine r_lo [1] (lo' := [(0, .ref (wAd w (5, 11, 4, 0)))]) rfl ?_
          exact lp_X9_readToken_91 hW C N g12 h9
      · rw [if_neg hc] at hF
        refine r_aload_n C (k := 1) rfl rfl dX9_readToken_71 ?_
        refine r_iconst C (v := 0) rfl dX9_readToken_72 ?_
        obtain ⟨g16, eg16, hF⟩ := lt_e hF
        refine op_5_3 C hW.x (Or.inl k5) (hW.fr k5) (sP_g (Ω := Ω) (j := 11) (p := 4) (g := g1)) wm2_1 dX9_readToken_73 (sP_P.trans (congrArg (sP Ω 11 4) eg16)) ?_
        refine r_goto C (tgt := 210) rfl dX9_readToken_76 ?_
        refine r_aload_n C (k := 1) rfl rfl dX9_readToken_210 ?_
        refine r_aload_n C (k := 1) rfl rfl dX9_readToken_211 ?_
        refine og_5_2 C (hW.ok k5) (sP_g (Ω := Ω) (j := 11) (p := 4) (g := g16)) wm2_0 dX9_readToken_212 ?_
        refine r_aload_n C (k := 1) rfl rfl dX9_readToken_215 ?_
        refine og_5_4 C (hW.ok k5) (sP_g (Ω := Ω) (j := 11) (p := 4) (g := g16)) wm2_2 dX9_readToken_216 ?_
        refine r_isub C dX9_readToken_219 ?_
        obtain ⟨g17, eg17, hF⟩ := lt_e hF
        refine op_5_5 C hW.x (Or.inl k5) (hW.fr k5) (sP_g (Ω := Ω) (j := 11) (p := 4) (g := g16)) wm2_4 dX9_readToken_220 (sP_P.trans (congrArg (sP Ω 11 4) eg17)) ?_
        cases hF
        change some _ = some _ at hL
        cases hL
        exact r_return C dX9_readToken_223
    · rw [if_neg hc] at hF
      refine r_aload_n C (k := 0) rfl rfl dX9_readToken_11 ?_
      refine og_5_0 C (hW.ok k5) wm1_235 dX9_readToken_12 ?_
      refine r_aload_n C (k := 0) rfl rfl dX9_readToken_15 ?_
      refine og_5_2 C (hW.ok k5) (sP_g (Ω := Ω) (j := 11) (p := 4) (g := g)) wm2_0 dX9_readToken_16 ?_
      refine r_callV C (d' := 0) [.int (g.1 2)] (c_rget (hW.ok (i := (3, 11, 4, 0)) q4) (hW.ok (i := (4, 11, 4, 0)) q4) (show rlen 4 0 = 800 from rfl) (by decide) (congrArg (fun z => z.2 0) (sP_g (Ω := Ω) (j := 11) (p := 4) (g := g))) rfl) myX8_get wm3_116 ⟨_, _, _, _, (hW.ok (i := (3, 11, 4, 0)) q4), rfl, rfl, rfl, rfl⟩ rfl (kR rfl) (by decide) (kR rfl) rfl dX9_readToken_19 ?_
      refine r_bipush C (v := 32) rfl dX9_readToken_22 ?_
      refine r_icmp_ne C (tgt := 40) rfl dX9_readToken_24 (fun hc => ?_) (fun hc => ?_)
      · rw [if_neg hc] at hF
        refine r_aload_n C (k := 0) rfl rfl dX9_readToken_40 ?_
        refine r_aload_n C (k := 0) rfl rfl dX9_readToken_41 ?_
        refine og_5_2 C (hW.ok k5) (sP_g (Ω := Ω) (j := 11) (p := 4) (g := g)) wm2_0 dX9_readToken_42 ?_
        obtain ⟨g18, eg18, hF⟩ := lt_e hF
        refine op_5_4 C hW.x (Or.inl k5) (hW.fr k5) (sP_g (Ω := Ω) (j := 11) (p := 4) (g := g)) wm2_2 dX9_readToken_45 (sP_P.trans (congrArg (sP Ω 11 4) eg18)) ?_
        refine r_aload_n C (k := 0) rfl rfl dX9_readToken_48 ?_
        refine og_5_0 C (hW.ok k5) wm1_235 dX9_readToken_49 ?_
        refine r_aload_n C (k := 0) rfl rfl dX9_readToken_52 ?_
        refine og_5_2 C (hW.ok k5) (sP_g (Ω := Ω) (j := 11) (p := 4) (g := g18)) wm2_0 dX9_readToken_53 ?_
        refine r_callV C (d' := 0) [.int (g18.1 2)] (c_rget (hW.ok (i := (3, 11, 4, 0)) q4) (hW.ok (i := (4, 11, 4, 0)) q4) (show rlen 4 0 = 800 from rfl) (by decide) (congrArg (fun z => z.2 0) (sP_g (Ω := Ω) (j := 11) (p := 4) (g := g18))) rfl) myX8_get wm3_116 ⟨_, _, _, _, (hW.ok (i := (3, 11, 4, 0)) q4), rfl, rfl, rfl, rfl⟩ rfl (kR rfl) (by decide) (kR rfl) rfl dX9_readToken_56 ?_
        refine r_istore_n C (lo' := [(1, .int (rget 800 (g18.2 0) (g18.1 2))), (0, .ref (wAd w (5, 11, 4, 0)))]) rfl (by decide) rfl dX9_readToken_59 ?_
        refine r_aload_n C (k := 1) rfl rfl dX9_readToken_60 ?_
        refine og_5_2 C (hW.ok k5) (sP_g (Ω := Ω) (j := 11) (p := 4) (g := g18)) wm2_0 dX9_readToken_61 ?_
        refine r_aload_n C (k := 1) rfl rfl dX9_readToken_64 ?_
        refine og_5_1 C (hW.ok k5) (sP_g (Ω := Ω) (j := 11) (p := 4) (g := g18)) wm1_239 dX9_readToken_65 ?_
        refine r_icmp_lt C (tgt := 79) rfl dX9_readToken_68 (fun hc => ?_) (fun hc => ?_)
        · rw [if_pos hc] at hF
          refine r_iload_n C (k := 0) rfl rfl dX9_readToken_79 ?_
          refine r_callSN C (d' := 0) [.int (rget 800 (g18.2 0) (g18.1 2))] (c_X10_isLetter (rget 800 (g18.2 0) (g18.1 2)) rfl) myX10_isLetter wm3_120 rfl (kR rfl) (by decide) (kR rfl) rfl dX9_readToken_80 ?_
          refine r_if_eq C (tgt := 132) rfl dX9_readToken_83 (fun hc => ?_) (fun hc => ?_)
          · rw [if_neg (b2i_f hc)] at hF
            refine r_iload_n C (k := 0) rfl rfl dX9_readToken_132 ?_
            refine r_callSN C (d' := 0) [.int (rget 800 (g18.2 0) (g18.1 2))] (c_X10_isDigit (rget 800 (g18.2 0) (g18.1 2)) rfl) myX10_isDigit wm3_123 rfl (kR rfl) (by decide) (kR rfl) rfl dX9_readToken_133 ?_
            refine r_if_eq C (tgt := 185) rfl dX9_readToken_136 (fun hc => ?_) (fun hc => ?_)
            · rw [if_neg (b2i_f hc)] at hF
              refine r_aload_n C (k := 1) rfl rfl dX9_readToken_185 ?_
              refine r_iload_n C (k := 0) rfl rfl dX9_readToken_186 ?_
              refine r_bipush C (v := 59) rfl dX9_readToken_187 ?_
              refine r_icmp_ne C (tgt := 196) rfl dX9_readToken_189 (fun hc => ?_) (fun hc => ?_)
              · rw [if_neg hc] at hF
                refine r_iconst C (v := 4) rfl dX9_readToken_196 ?_
                obtain ⟨g19, eg19, hF⟩ := lt_e hF
                refine op_5_3 C hW.x (Or.inl k5) (hW.fr k5) (sP_g (Ω := Ω) (j := 11) (p := 4) (g := g18)) wm2_1 dX9_readToken_197 (sP_P.trans (congrArg (sP Ω 11 4) eg19)) ?_
                refine r_aload_n C (k := 1) rfl rfl dX9_readToken_200 ?_
                refine r_dup C rfl dX9_readToken_201 ?_
                refine og_5_2 C (hW.ok k5) (sP_g (Ω := Ω) (j := 11) (p := 4) (g := g19)) wm2_0 dX9_readToken_202 ?_
                refine r_iconst C (v := 1) rfl dX9_readToken_205 ?_
                refine r_iadd C dX9_readToken_206 ?_
                obtain ⟨g20, eg20, hF⟩ := lt_e hF
                refine op_5_2 C hW.x (Or.inl k5) (hW.fr k5) (sP_g (Ω := Ω) (j := 11) (p := 4) (g := g19)) wm2_0 dX9_readToken_207 (sP_P.trans (congrArg (sP Ω 11 4) eg20)) ?_
                refine r_aload_n C (k := 1) rfl rfl dX9_readToken_210 ?_
                refine r_aload_n C (k := 1) rfl rfl dX9_readToken_211 ?_
                refine og_5_2 C (hW.ok k5) (sP_g (Ω := Ω) (j := 11) (p := 4) (g := g20)) wm2_0 dX9_readToken_212 ?_
                refine r_aload_n C (k := 1) rfl rfl dX9_readToken_215 ?_
                refine og_5_4 C (hW.ok k5) (sP_g (Ω := Ω) (j := 11) (p := 4) (g := g20)) wm2_2 dX9_readToken_216 ?_
                refine r_isub C dX9_readToken_219 ?_
                obtain ⟨g21, eg21, hF⟩ := lt_e hF
                refine op_5_5 C hW.x (Or.inl k5) (hW.fr k5) (sP_g (Ω := Ω) (j := 11) (p := 4) (g := g20)) wm2_4 dX9_readToken_220 (sP_P.trans (congrArg (sP Ω 11 4) eg21)) ?_
                cases hF
                change some _ = some _ at hL
                cases hL
                exact r_return C dX9_readToken_223
              · rw [if_pos hc] at hF
                refine r_iconst C (v := 3) rfl dX9_readToken_192 ?_
                refine r_goto C (tgt := 197) rfl dX9_readToken_193 ?_
                obtain ⟨g22, eg22, hF⟩ := lt_e hF
                refine op_5_3 C hW.x (Or.inl k5) (hW.fr k5) (sP_g (Ω := Ω) (j := 11) (p := 4) (g := g18)) wm2_1 dX9_readToken_197 (sP_P.trans (congrArg (sP Ω 11 4) eg22)) ?_
                refine r_aload_n C (k := 1) rfl rfl dX9_readToken_200 ?_
                refine r_dup C rfl dX9_readToken_201 ?_
                refine og_5_2 C (hW.ok k5) (sP_g (Ω := Ω) (j := 11) (p := 4) (g := g22)) wm2_0 dX9_readToken_202 ?_
                refine r_iconst C (v := 1) rfl dX9_readToken_205 ?_
                refine r_iadd C dX9_readToken_206 ?_
                obtain ⟨g23, eg23, hF⟩ := lt_e hF
                refine op_5_2 C hW.x (Or.inl k5) (hW.fr k5) (sP_g (Ω := Ω) (j := 11) (p := 4) (g := g22)) wm2_0 dX9_readToken_207 (sP_P.trans (congrArg (sP Ω 11 4) eg23)) ?_
                refine r_aload_n C (k := 1) rfl rfl dX9_readToken_210 ?_
                refine r_aload_n C (k := 1) rfl rfl dX9_readToken_211 ?_
                refine og_5_2 C (hW.ok k5) (sP_g (Ω := Ω) (j := 11) (p := 4) (g := g23)) wm2_0 dX9_readToken_212 ?_
                refine r_aload_n C (k := 1) rfl rfl dX9_readToken_215 ?_
                refine og_5_4 C (hW.ok k5) (sP_g (Ω := Ω) (j := 11) (p := 4) (g := g23)) wm2_2 dX9_readToken_216 ?_
                refine r_isub C dX9_readToken_219 ?_
                obtain ⟨g24, eg24, hF⟩ := lt_e hF
                refine op_5_5 C hW.x (Or.inl k5) (hW.fr k5) (sP_g (Ω := Ω) (j := 11) (p := 4) (g := g23)) wm2_4 dX9_readToken_220 (sP_P.trans (congrArg (sP Ω 11 4) eg24)) ?_
                cases hF
                change some _ = some _ at hL
                cases hL
                exact r_return C dX9_readToken_223
            · rw [if_pos (b2i_t hc)] at hF
              refine r_aload_n C (k := 1) rfl rfl dX9_readToken_139 ?_
              refine r_iconst C (v := 2) rfl dX9_readToken_140 ?_
              obtain ⟨g25, eg25, hF⟩ := lt_e hF
              refine op_5_3 C hW.x (Or.inl k5) (hW.fr k5) (sP_g (Ω := Ω) (j := 11) (p := 4) (g := g18)) wm2_1 dX9_readToken_141 (sP_P.trans (congrArg (sP Ω 11 4) eg25)) ?_
              obtain ⟨q9, h9, hF⟩ := ob1_e hF
              cases hF
              change some _ = some _ at hL
              cases hL
              refine r_lo [1] (lo' := [(0, .ref (wAd w (5, 11, 4, 0)))]) rfl ?_
              exact lp_X9_readToken_144 hW C N g25 h9
          · rw [if_pos (b2i_t hc)] at hF
            refine r_aload_n C (k := 1) rfl rfl dX9_readToken_86 ?_
            refine r_iconst C (v := 1) rfl dX9_readToken_87 ?_
            obtain ⟨g26, eg26, hF⟩ := lt_e hF
            refine op_5_3 C hW.x (Or.inl k5) (hW.fr k5) (sP_g (Ω := Ω) (j := 11) (p := 4) (g := g18)) wm2_1 dX9_readToken_88 (sP_P.trans (congrArg (sP Ω 11 4) eg26)) ?_
            obtain ⟨q9, h9, hF⟩ := ob1_e hF
            cases hF
            change some _ = some _ at hL
            cases hL
            refine r_lo [1] (lo' := [(0, .ref (wAd w (5, 11, 4, 0)))]) rfl ?_
            exact lp_X9_readToken_91 hW C N g26 h9
        · rw [if_neg hc] at hF
          refine r_aload_n C (k := 1) rfl rfl dX9_readToken_71 ?_
          refine r_iconst C (v := 0) rfl dX9_readToken_72 ?_
          obtain ⟨g27, eg27, hF⟩ := lt_e hF
          refine op_5_3 C hW.x (Or.inl k5) (hW.fr k5) (sP_g (Ω := Ω) (j := 11) (p := 4) (g := g18)) wm2_1 dX9_readToken_73 (sP_P.trans (congrArg (sP Ω 11 4) eg27)) ?_
          refine r_goto C (tgt := 210) rfl dX9_readToken_76 ?_
          refine r_aload_n C (k := 1) rfl rfl dX9_readToken_210 ?_
          refine r_aload_n C (k := 1) rfl rfl dX9_readToken_211 ?_
          refine og_5_2 C (hW.ok k5) (sP_g (Ω := Ω) (j := 11) (p := 4) (g := g27)) wm2_0 dX9_readToken_212 ?_
          refine r_aload_n C (k := 1) rfl rfl dX9_readToken_215 ?_
          refine og_5_4 C (hW.ok k5) (sP_g (Ω := Ω) (j := 11) (p := 4) (g := g27)) wm2_2 dX9_readToken_216 ?_
          refine r_isub C dX9_readToken_219 ?_
          obtain ⟨g28, eg28, hF⟩ := lt_e hF
          refine op_5_5 C hW.x (Or.inl k5) (hW.fr k5) (sP_g (Ω := Ω) (j := 11) (p := 4) (g := g27)) wm2_4 dX9_readToken_220 (sP_P.trans (congrArg (sP Ω 11 4) eg28)) ?_
          cases hF
          change some _ = some _ at hL
          cases hL
          exact r_return C dX9_readToken_223
      · rw [if_pos hc] at hF
        refine r_aload_n C (k := 0) rfl rfl dX9_readToken_27 ?_
        refine r_dup C rfl dX9_readToken_28 ?_
        refine og_5_2 C (hW.ok k5) (sP_g (Ω := Ω) (j := 11) (p := 4) (g := g)) wm2_0 dX9_readToken_29 ?_
        refine r_iconst C (v := 1) rfl dX9_readToken_32 ?_
        refine r_iadd C dX9_readToken_33 ?_
        obtain ⟨g29, eg29, hF⟩ := lt_e hF
        refine op_5_2 C hW.x (Or.inl k5) (hW.fr k5) (sP_g (Ω := Ω) (j := 11) (p := 4) (g := g)) wm2_0 dX9_readToken_34 (sP_P.trans (congrArg (sP Ω 11 4) eg29)) ?_
        refine r_goto C (tgt := 0) rfl dX9_readToken_37 ?_
        cases hF
        change lpN n _ _ = some _ at hL
        refine r_lo [0] (lo' := [(0, .ref (wAd w (5, 11, 4, 0)))]) rfl ?_
        exact ih g29 hL
theorem c_X9_readToken {w : WP} (hW : gW w) {Ω : OM}  {g : HV} (e : Ω.1 11 4 = g) (N : Nat)  {g' : HV} (hF : F_X9_readToken N g = some g') {Ω' : OM} (e2 : (sP Ω 11 4 g') = Ω') : gM w 1 yX9_readToken cX9_readToken 2 none [.ref (wAd w (5, 11, 4, 0))] (cA w Ω) none (cA w Ω') := by
  refine gM_of "HedgeMessages$Text" rfl (by decide) (kR rfl) fun X C => ?_
  unfold F_X9_readToken at hF
  subst e2
  show gV w X _ _ 0 [(0, .ref (wAd w (5, 11, 4, 0)))] []
  refine r_ct (ct' := cA w (sP Ω 11 4 g)) (congrArg (cA w) (sP_i e).symm) ?_
  refine r_lo [0] (lo' := [(0, .ref (wAd w (5, 11, 4, 0)))]) rfl ?_
  exact lp_X9_readToken_0 hW C N g hF
theorem dX9_atEnd_0 : decode cX9_atEnd 0 = .ok (.aload_n 0, 1) := by decide +kernel
theorem dX9_atEnd_1 : decode cX9_atEnd 1 = .ok (.getfield 48, 3) := by decide +kernel
theorem dX9_atEnd_4 : decode cX9_atEnd 4 = .ok (.ifCond .ne 7, 3) := by decide +kernel
theorem dX9_atEnd_7 : decode cX9_atEnd 7 = .ok (.iconst 1, 1) := by decide +kernel
theorem dX9_atEnd_8 : decode cX9_atEnd 8 = .ok (.goto 4, 3) := by decide +kernel
theorem dX9_atEnd_11 : decode cX9_atEnd 11 = .ok (.iconst 0, 1) := by decide +kernel
theorem dX9_atEnd_12 : decode cX9_atEnd 12 = .ok (.ireturn, 1) := by decide +kernel
def F_X9_atEnd (g : HV) : Bool := (if (g.1 3) = 0 then true else false)
theorem c_X9_atEnd {w : WP} (hW : gW w) {Ω : OM}  {g : HV} (e : Ω.1 11 4 = g)  {v : Bool} (hF : F_X9_atEnd g = v) : gM w 0 yX9_atEnd cX9_atEnd 1 (some .boolean) [.ref (wAd w (5, 11, 4, 0))] (cA w Ω) (some (.int (b2i v))) (cA w Ω) := by
  refine gM_of "HedgeMessages$Text" rfl (by decide) (kR rfl) fun X C => ?_
  unfold F_X9_atEnd at hF
  show gV w X _ _ 0 [(0, .ref (wAd w (5, 11, 4, 0)))] []
  refine r_aload_n C (k := 0) rfl rfl dX9_atEnd_0 ?_
  refine og_5_3 C (hW.ok k5) e wm2_1 dX9_atEnd_1 ?_
  refine r_if_ne C (tgt := 11) rfl dX9_atEnd_4 (fun hc => ?_) (fun hc => ?_)
  · rw [if_neg hc] at hF
    refine r_iconst C (v := 0) rfl dX9_atEnd_11 ?_
    cases hF
    exact r_zreturn C false rfl dX9_atEnd_12
  · rw [if_pos hc] at hF
    refine r_iconst C (v := 1) rfl dX9_atEnd_7 ?_
    refine r_goto C (tgt := 12) rfl dX9_atEnd_8 ?_
    cases hF
    exact r_zreturn C true rfl dX9_atEnd_12
theorem dX9_readNumber_0 : decode cX9_readNumber 0 = .ok (.aload_n 0, 1) := by decide +kernel
theorem dX9_readNumber_1 : decode cX9_readNumber 1 = .ok (.invokevirtual 66, 3) := by decide +kernel
theorem dX9_readNumber_4 : decode cX9_readNumber 4 = .ok (.aload_n 0, 1) := by decide +kernel
theorem dX9_readNumber_5 : decode cX9_readNumber 5 = .ok (.getfield 48, 3) := by decide +kernel
theorem dX9_readNumber_8 : decode cX9_readNumber 8 = .ok (.iconst 2, 1) := by decide +kernel
theorem dX9_readNumber_9 : decode cX9_readNumber 9 = .ok (.if_icmp .ne 11, 3) := by decide +kernel
theorem dX9_readNumber_12 : decode cX9_readNumber 12 = .ok (.aload_n 0, 1) := by decide +kernel
theorem dX9_readNumber_13 : decode cX9_readNumber 13 = .ok (.getfield 54, 3) := by decide +kernel
theorem dX9_readNumber_16 : decode cX9_readNumber 16 = .ok (.iconst 3, 1) := by decide +kernel
theorem dX9_readNumber_17 : decode cX9_readNumber 17 = .ok (.if_icmp .le 9, 3) := by decide +kernel
theorem dX9_readNumber_20 : decode cX9_readNumber 20 = .ok (.aload_n 0, 1) := by decide +kernel
theorem dX9_readNumber_21 : decode cX9_readNumber 21 = .ok (.iconst 1, 1) := by decide +kernel
theorem dX9_readNumber_22 : decode cX9_readNumber 22 = .ok (.invokevirtual 69, 3) := by decide +kernel
theorem dX9_readNumber_25 : decode cX9_readNumber 25 = .ok (.ireturn, 1) := by decide +kernel
theorem dX9_readNumber_26 : decode cX9_readNumber 26 = .ok (.aload_n 0, 1) := by decide +kernel
theorem dX9_readNumber_27 : decode cX9_readNumber 27 = .ok (.iconst 0, 1) := by decide +kernel
theorem dX9_readNumber_28 : decode cX9_readNumber 28 = .ok (.putfield 72, 3) := by decide +kernel
theorem dX9_readNumber_31 : decode cX9_readNumber 31 = .ok (.aload_n 0, 1) := by decide +kernel
theorem dX9_readNumber_32 : decode cX9_readNumber 32 = .ok (.getfield 45, 3) := by decide +kernel
theorem dX9_readNumber_35 : decode cX9_readNumber 35 = .ok (.istore_n 3, 1) := by decide +kernel
theorem dX9_readNumber_36 : decode cX9_readNumber 36 = .ok (.iload_n 3, 1) := by decide +kernel
theorem dX9_readNumber_37 : decode cX9_readNumber 37 = .ok (.aload_n 0, 1) := by decide +kernel
theorem dX9_readNumber_38 : decode cX9_readNumber 38 = .ok (.getfield 45, 3) := by decide +kernel
theorem dX9_readNumber_41 : decode cX9_readNumber 41 = .ok (.aload_n 0, 1) := by decide +kernel
theorem dX9_readNumber_42 : decode cX9_readNumber 42 = .ok (.getfield 54, 3) := by decide +kernel
theorem dX9_readNumber_45 : decode cX9_readNumber 45 = .ok (.iadd, 1) := by decide +kernel
theorem dX9_readNumber_46 : decode cX9_readNumber 46 = .ok (.if_icmp .ge 32, 3) := by decide +kernel
theorem dX9_readNumber_49 : decode cX9_readNumber 49 = .ok (.aload_n 0, 1) := by decide +kernel
theorem dX9_readNumber_50 : decode cX9_readNumber 50 = .ok (.aload_n 0, 1) := by decide +kernel
theorem dX9_readNumber_51 : decode cX9_readNumber 51 = .ok (.getfield 72, 3) := by decide +kernel
theorem dX9_readNumber_54 : decode cX9_readNumber 54 = .ok (.bipush 10, 2) := by decide +kernel
theorem dX9_readNumber_56 : decode cX9_readNumber 56 = .ok (.imul, 1) := by decide +kernel
theorem dX9_readNumber_57 : decode cX9_readNumber 57 = .ok (.aload_n 0, 1) := by decide +kernel
theorem dX9_readNumber_58 : decode cX9_readNumber 58 = .ok (.getfield 14, 3) := by decide +kernel
theorem dX9_readNumber_61 : decode cX9_readNumber 61 = .ok (.iload_n 3, 1) := by decide +kernel
theorem dX9_readNumber_62 : decode cX9_readNumber 62 = .ok (.invokevirtual 31, 3) := by decide +kernel
theorem dX9_readNumber_65 : decode cX9_readNumber 65 = .ok (.iadd, 1) := by decide +kernel
theorem dX9_readNumber_66 : decode cX9_readNumber 66 = .ok (.bipush 48, 2) := by decide +kernel
theorem dX9_readNumber_68 : decode cX9_readNumber 68 = .ok (.isub, 1) := by decide +kernel
theorem dX9_readNumber_69 : decode cX9_readNumber 69 = .ok (.putfield 72, 3) := by decide +kernel
theorem dX9_readNumber_72 : decode cX9_readNumber 72 = .ok (.iinc 3 1, 3) := by decide +kernel
theorem dX9_readNumber_75 : decode cX9_readNumber 75 = .ok (.goto (-39), 3) := by decide +kernel
theorem dX9_readNumber_78 : decode cX9_readNumber 78 = .ok (.aload_n 0, 1) := by decide +kernel
theorem dX9_readNumber_79 : decode cX9_readNumber 79 = .ok (.getfield 72, 3) := by decide +kernel
theorem dX9_readNumber_82 : decode cX9_readNumber 82 = .ok (.iload_n 1, 1) := by decide +kernel
theorem dX9_readNumber_83 : decode cX9_readNumber 83 = .ok (.if_icmp .lt 11, 3) := by decide +kernel
theorem dX9_readNumber_86 : decode cX9_readNumber 86 = .ok (.aload_n 0, 1) := by decide +kernel
theorem dX9_readNumber_87 : decode cX9_readNumber 87 = .ok (.getfield 72, 3) := by decide +kernel
theorem dX9_readNumber_90 : decode cX9_readNumber 90 = .ok (.iload_n 2, 1) := by decide +kernel
theorem dX9_readNumber_91 : decode cX9_readNumber 91 = .ok (.if_icmp .le 11, 3) := by decide +kernel
theorem dX9_readNumber_94 : decode cX9_readNumber 94 = .ok (.aload_n 0, 1) := by decide +kernel
theorem dX9_readNumber_95 : decode cX9_readNumber 95 = .ok (.iconst 2, 1) := by decide +kernel
theorem dX9_readNumber_96 : decode cX9_readNumber 96 = .ok (.invokevirtual 69, 3) := by decide +kernel
theorem dX9_readNumber_99 : decode cX9_readNumber 99 = .ok (.ifCond .eq 7, 3) := by decide +kernel
theorem dX9_readNumber_102 : decode cX9_readNumber 102 = .ok (.iconst 1, 1) := by decide +kernel
theorem dX9_readNumber_103 : decode cX9_readNumber 103 = .ok (.goto 4, 3) := by decide +kernel
theorem dX9_readNumber_106 : decode cX9_readNumber 106 = .ok (.iconst 0, 1) := by decide +kernel
theorem dX9_readNumber_107 : decode cX9_readNumber 107 = .ok (.ireturn, 1) := by decide +kernel
def st_X9_readNumber_36 (N : Nat) (l1 : Int32) (l2 : Int32) (l3 : Int32) (g : HV) : Option ((Int32 × HV) ⊕ (Bool × (HV))) := (if ((g.1 4) + (g.1 5)) ≤ l3 then (if (g.1 6) < l1 then (lt2 (F_X9_refuse 2 g) fun v6 g7 => (if v6 = true then some (.inr (true, g7)) else some (.inr (false, g7)))) else (if (g.1 6) ≤ l2 then some (.inr (true, g)) else (lt2 (F_X9_refuse 2 g) fun v8 g9 => (if v8 = true then some (.inr (true, g9)) else some (.inr (false, g9)))))) else (lt (sS g 6 ((((g.1 6) * 10) + (rget 800 (g.2 0) l3)) - 48)) fun g10 => some (.inl ((l3 + 1), g10))))
def F_X9_readNumber (N : Nat) (a1 : Int32) (a2 : Int32) (g : HV) : Option (Bool × (HV)) := (ob1 (F_X9_readToken N g) fun g2 => (if (g2.1 3) = 2 then (if (g2.1 5) ≤ 3 then (lt (sS g2 6 0) fun g5 => (lpN N (fun z => st_X9_readNumber_36 N a1 a2 z.1 z.2) ((g5.1 4), g5))) else (lt2 (F_X9_refuse 1 g2) fun v11 g12 => some (v11, g12))) else (lt2 (F_X9_refuse 1 g2) fun v3 g4 => some (v3, g4))))
theorem lp_X9_readNumber_36 {w : WP} (hW : gW w) {Ω : OM}   (l1 : Int32) (l2 : Int32) {N : Nat} {X : CX} (C : gC w X cX9_readNumber "HedgeMessages$Text" (some .boolean) 2 4) {v : Bool} {g' : HV}  : ∀ (n : Nat) (l3 : Int32) (g : HV), lpN n (fun z : Int32 × HV => st_X9_readNumber_36 N l1 l2 z.1 z.2) (l3, g) = some (v, g') → gV w X (some (.int (b2i v)), cA w (sP Ω 11 4 g')) (cA w (sP Ω 11 4 g)) 36 [(0, .ref (wAd w (5, 11, 4, 0))), (1, .int l1), (2, .int l2), (3, .int l3)] [] := by
  intro n
  induction n with
  | zero => intro l3 g hL; exact lpN_0 hL
  | succ n ih =>
    intro l3 g hL
    obtain ⟨q9, hF, hL⟩ := lpN_e hL
    change st_X9_readNumber_36 N l1 l2 l3 g = some q9 at hF
    unfold st_X9_readNumber_36 at hF
    refine r_iload_n C (k := 3) rfl rfl dX9_readNumber_36 ?_
    refine r_aload_n C (k := 0) rfl rfl dX9_readNumber_37 ?_
    refine og_5_4 C (hW.ok k5) (sP_g (Ω := Ω) (j := 11) (p := 4) (g := g)) wm2_2 dX9_readNumber_38 ?_
    refine r_aload_n C (k := 0) rfl rfl dX9_readNumber_41 ?_
    refine og_5_5 C (hW.ok k5) (sP_g (Ω := Ω) (j := 11) (p := 4) (g := g)) wm2_4 dX9_readNumber_42 ?_
    refine r_iadd C dX9_readNumber_45 ?_
    refine r_icmp_ge C (tgt := 78) rfl dX9_readNumber_46 (fun hc => ?_) (fun hc => ?_)
    · rw [if_pos hc] at hF
      refine r_aload_n C (k := 0) rfl rfl dX9_readNumber_78 ?_
      refine og_5_6 C (hW.ok k5) (sP_g (Ω := Ω) (j := 11) (p := 4) (g := g)) wm2_7 dX9_readNumber_79 ?_
      refine r_iload_n C (k := 1) rfl rfl dX9_readNumber_82 ?_
      refine r_icmp_lt C (tgt := 94) rfl dX9_readNumber_83 (fun hc => ?_) (fun hc => ?_)
      · rw [if_pos hc] at hF
        refine r_aload_n C (k := 0) rfl rfl dX9_readNumber_94 ?_
        refine r_iconst C (v := 2) rfl dX9_readNumber_95 ?_
        obtain ⟨v6, g7, hg7, hF⟩ := lt2_e hF
        refine r_callV C (d' := 0) [.int 2] (c_X9_refuse hW (sP_g (Ω := Ω) (j := 11) (p := 4) (g := g)) 2 hg7 sP_P) myX9_refuse wm3_142 ⟨_, _, _, _, (hW.ok k5), rfl, rfl, rfl, rfl⟩ rfl (kR rfl) (by decide) (kR rfl) rfl dX9_readNumber_96 ?_
        refine r_if_eq C (tgt := 106) rfl dX9_readNumber_99 (fun hc => ?_) (fun hc => ?_)
        · rw [if_neg (b2i_f hc)] at hF
          refine r_iconst C (v := 0) rfl dX9_readNumber_106 ?_
          cases hF
          change some _ = some _ at hL
          cases hL
          exact r_zreturn C false rfl dX9_readNumber_107
        · rw [if_pos (b2i_t hc)] at hF
          refine r_iconst C (v := 1) rfl dX9_readNumber_102 ?_
          refine r_goto C (tgt := 107) rfl dX9_readNumber_103 ?_
          cases hF
          change some _ = some _ at hL
          cases hL
          exact r_zreturn C true rfl dX9_readNumber_107
      · rw [if_neg hc] at hF
        refine r_aload_n C (k := 0) rfl rfl dX9_readNumber_86 ?_
        refine og_5_6 C (hW.ok k5) (sP_g (Ω := Ω) (j := 11) (p := 4) (g := g)) wm2_7 dX9_readNumber_87 ?_
        refine r_iload_n C (k := 2) rfl rfl dX9_readNumber_90 ?_
        refine r_icmp_le C (tgt := 102) rfl dX9_readNumber_91 (fun hc => ?_) (fun hc => ?_)
        · rw [if_pos hc] at hF
          refine r_iconst C (v := 1) rfl dX9_readNumber_102 ?_
          refine r_goto C (tgt := 107) rfl dX9_readNumber_103 ?_
          cases hF
          change some _ = some _ at hL
          cases hL
          exact r_zreturn C true rfl dX9_readNumber_107
        · rw [if_neg hc] at hF
          refine r_aload_n C (k := 0) rfl rfl dX9_readNumber_94 ?_
          refine r_iconst C (v := 2) rfl dX9_readNumber_95 ?_
          obtain ⟨v8, g9, hg9, hF⟩ := lt2_e hF
          refine r_callV C (d' := 0) [.int 2] (c_X9_refuse hW (sP_g (Ω := Ω) (j := 11) (p := 4) (g := g)) 2 hg9 sP_P) myX9_refuse wm3_142 ⟨_, _, _, _, (hW.ok k5), rfl, rfl, rfl, rfl⟩ rfl (kR rfl) (by decide) (kR rfl) rfl dX9_readNumber_96 ?_
          refine r_if_eq C (tgt := 106) rfl dX9_readNumber_99 (fun hc => ?_) (fun hc => ?_)
          · rw [if_neg (b2i_f hc)] at hF
            refine r_iconst C (v := 0) rfl dX9_readNumber_106 ?_
            cases hF
            change some _ = some _ at hL
            cases hL
            exact r_zreturn C false rfl dX9_readNumber_107
          · rw [if_pos (b2i_t hc)] at hF
            refine r_iconst C (v := 1) rfl dX9_readNumber_102 ?_
            refine r_goto C (tgt := 107) rfl dX9_readNumber_103 ?_
            cases hF
            change some _ = some _ at hL
            cases hL
            exact r_zreturn C true rfl dX9_readNumber_107
    · rw [if_neg hc] at hF
      refine r_aload_n C (k := 0) rfl rfl dX9_readNumber_49 ?_
      refine r_aload_n C (k := 0) rfl rfl dX9_readNumber_50 ?_
      refine og_5_6 C (hW.ok k5) (sP_g (Ω := Ω) (j := 11) (p := 4) (g := g)) wm2_7 dX9_readNumber_51 ?_
      refine r_bipush C (v := 10) rfl dX9_readNumber_54 ?_
      refine r_imul C dX9_readNumber_56 ?_
      refine r_aload_n C (k := 0) rfl rfl dX9_readNumber_57 ?_
      refine og_5_0 C (hW.ok k5) wm1_235 dX9_readNumber_58 ?_
      refine r_iload_n C (k := 3) rfl rfl dX9_readNumber_61 ?_
      refine r_callV C (d' := 0) [.int l3] (c_rget (hW.ok (i := (3, 11, 4, 0)) q4) (hW.ok (i := (4, 11, 4, 0)) q4) (show rlen 4 0 = 800 from rfl) (by decide) (congrArg (fun z => z.2 0) (sP_g (Ω := Ω) (j := 11) (p := 4) (g := g))) rfl) myX8_get wm3_116 ⟨_, _, _, _, (hW.ok (i := (3, 11, 4, 0)) q4), rfl, rfl, rfl, rfl⟩ rfl (kR rfl) (by decide) (kR rfl) rfl dX9_readNumber_62 ?_
      refine r_iadd C dX9_readNumber_65 ?_
      refine r_bipush C (v := 48) rfl dX9_readNumber_66 ?_
      refine r_isub C dX9_readNumber_68 ?_
      obtain ⟨g10, eg10, hF⟩ := lt_e hF
      refine op_5_6 C hW.x (Or.inl k5) (hW.fr k5) (sP_g (Ω := Ω) (j := 11) (p := 4) (g := g)) wm2_7 dX9_readNumber_69 (sP_P.trans (congrArg (sP Ω 11 4) eg10)) ?_
      refine r_iinc C (k := 3) (v := (l3 + 1)) (lo' := [(3, .int (l3 + 1)), (0, .ref (wAd w (5, 11, 4, 0))), (1, .int l1), (2, .int l2)]) rfl rfl (by decide) rfl dX9_readNumber_72 ?_
      refine r_goto C (tgt := 36) rfl dX9_readNumber_75 ?_
      cases hF
      change lpN n _ _ = some _ at hL
      refine r_lo [1, 2, 3, 0] (lo' := [(0, .ref (wAd w (5, 11, 4, 0))), (1, .int l1), (2, .int l2), (3, .int (l3 + 1))]) rfl ?_
      exact ih (l3 + 1) g10 hL
theorem c_X9_readNumber {w : WP} (hW : gW w) {Ω : OM}  {g : HV} (e : Ω.1 11 4 = g) (N : Nat) (a1 : Int32) (a2 : Int32) {v : Bool} {g' : HV} (hF : F_X9_readNumber N a1 a2 g = some (v, g')) {Ω' : OM} (e2 : (sP Ω 11 4 g') = Ω') : gM w 2 yX9_readNumber cX9_readNumber 4 (some .boolean) [.ref (wAd w (5, 11, 4, 0)), .int a1, .int a2] (cA w Ω) (some (.int (b2i v))) (cA w Ω') := by
  refine gM_of "HedgeMessages$Text" rfl (by decide) (kR rfl) fun X C => ?_
  unfold F_X9_readNumber at hF
  subst e2
  show gV w X _ _ 0 [(0, .ref (wAd w (5, 11, 4, 0))), (1, .int a1), (2, .int a2)] []
  refine r_ct (ct' := cA w (sP Ω 11 4 g)) (congrArg (cA w) (sP_i e).symm) ?_
  refine r_aload_n C (k := 0) rfl rfl dX9_readNumber_0 ?_
  obtain ⟨g2, hg2, hF⟩ := ob1_e hF
  refine r_callV C (d' := 1) [] (c_X9_readToken hW (sP_g (Ω := Ω) (j := 11) (p := 4) (g := g)) N hg2 sP_P) myX9_readToken wm3_141 ⟨_, _, _, _, (hW.ok k5), rfl, rfl, rfl, rfl⟩ rfl (kR rfl) (by decide) (kR rfl) rfl dX9_readNumber_1 ?_
  refine r_aload_n C (k := 0) rfl rfl dX9_readNumber_4 ?_
  refine og_5_3 C (hW.ok k5) (sP_g (Ω := Ω) (j := 11) (p := 4) (g := g2)) wm2_1 dX9_readNumber_5 ?_
  refine r_iconst C (v := 2) rfl dX9_readNumber_8 ?_
  refine r_icmp_ne C (tgt := 20) rfl dX9_readNumber_9 (fun hc => ?_) (fun hc => ?_)
  · rw [if_neg hc] at hF
    refine r_aload_n C (k := 0) rfl rfl dX9_readNumber_20 ?_
    refine r_iconst C (v := 1) rfl dX9_readNumber_21 ?_
    obtain ⟨v3, g4, hg4, hF⟩ := lt2_e hF
    refine r_callV C (d' := 0) [.int 1] (c_X9_refuse hW (sP_g (Ω := Ω) (j := 11) (p := 4) (g := g2)) 1 hg4 sP_P) myX9_refuse wm3_142 ⟨_, _, _, _, (hW.ok k5), rfl, rfl, rfl, rfl⟩ rfl (kR rfl) (by decide) (kR rfl) rfl dX9_readNumber_22 ?_
    cases hF
    exact r_zreturn C _ rfl dX9_readNumber_25
  · rw [if_pos hc] at hF
    refine r_aload_n C (k := 0) rfl rfl dX9_readNumber_12 ?_
    refine og_5_5 C (hW.ok k5) (sP_g (Ω := Ω) (j := 11) (p := 4) (g := g2)) wm2_4 dX9_readNumber_13 ?_
    refine r_iconst C (v := 3) rfl dX9_readNumber_16 ?_
    refine r_icmp_le C (tgt := 26) rfl dX9_readNumber_17 (fun hc => ?_) (fun hc => ?_)
    · rw [if_pos hc] at hF
      refine r_aload_n C (k := 0) rfl rfl dX9_readNumber_26 ?_
      refine r_iconst C (v := 0) rfl dX9_readNumber_27 ?_
      obtain ⟨g5, eg5, hF⟩ := lt_e hF
      refine op_5_6 C hW.x (Or.inl k5) (hW.fr k5) (sP_g (Ω := Ω) (j := 11) (p := 4) (g := g2)) wm2_7 dX9_readNumber_28 (sP_P.trans (congrArg (sP Ω 11 4) eg5)) ?_
      refine r_aload_n C (k := 0) rfl rfl dX9_readNumber_31 ?_
      refine og_5_4 C (hW.ok k5) (sP_g (Ω := Ω) (j := 11) (p := 4) (g := g5)) wm2_2 dX9_readNumber_32 ?_
      refine r_istore_n C (lo' := [(3, .int (g5.1 4)), (0, .ref (wAd w (5, 11, 4, 0))), (1, .int a1), (2, .int a2)]) rfl (by decide) rfl dX9_readNumber_35 ?_
      refine r_lo [1, 2, 3, 0] (lo' := [(0, .ref (wAd w (5, 11, 4, 0))), (1, .int a1), (2, .int a2), (3, .int (g5.1 4))]) rfl ?_
      exact lp_X9_readNumber_36 hW a1 a2 C N (g5.1 4) g5 hF
    · rw [if_neg hc] at hF
      refine r_aload_n C (k := 0) rfl rfl dX9_readNumber_20 ?_
      refine r_iconst C (v := 1) rfl dX9_readNumber_21 ?_
      obtain ⟨v11, g12, hg12, hF⟩ := lt2_e hF
      refine r_callV C (d' := 0) [.int 1] (c_X9_refuse hW (sP_g (Ω := Ω) (j := 11) (p := 4) (g := g2)) 1 hg12 sP_P) myX9_refuse wm3_142 ⟨_, _, _, _, (hW.ok k5), rfl, rfl, rfl, rfl⟩ rfl (kR rfl) (by decide) (kR rfl) rfl dX9_readNumber_22 ?_
      cases hF
      exact r_zreturn C _ rfl dX9_readNumber_25
theorem dX9_readMessageWord_0 : decode cX9_readMessageWord 0 = .ok (.aload_n 0, 1) := by decide +kernel
theorem dX9_readMessageWord_1 : decode cX9_readMessageWord 1 = .ok (.invokevirtual 66, 3) := by decide +kernel
theorem dX9_readMessageWord_4 : decode cX9_readMessageWord 4 = .ok (.aload_n 0, 1) := by decide +kernel
theorem dX9_readMessageWord_5 : decode cX9_readMessageWord 5 = .ok (.getfield 48, 3) := by decide +kernel
theorem dX9_readMessageWord_8 : decode cX9_readMessageWord 8 = .ok (.iconst 1, 1) := by decide +kernel
theorem dX9_readMessageWord_9 : decode cX9_readMessageWord 9 = .ok (.if_icmp .ne 12, 3) := by decide +kernel
theorem dX9_readMessageWord_12 : decode cX9_readMessageWord 12 = .ok (.aload_n 0, 1) := by decide +kernel
theorem dX9_readMessageWord_13 : decode cX9_readMessageWord 13 = .ok (.getfield 54, 3) := by decide +kernel
theorem dX9_readMessageWord_16 : decode cX9_readMessageWord 16 = .ok (.bipush 12, 2) := by decide +kernel
theorem dX9_readMessageWord_18 : decode cX9_readMessageWord 18 = .ok (.if_icmp .le 11, 3) := by decide +kernel
theorem dX9_readMessageWord_21 : decode cX9_readMessageWord 21 = .ok (.aload_n 0, 1) := by decide +kernel
theorem dX9_readMessageWord_22 : decode cX9_readMessageWord 22 = .ok (.iconst 1, 1) := by decide +kernel
theorem dX9_readMessageWord_23 : decode cX9_readMessageWord 23 = .ok (.invokevirtual 69, 3) := by decide +kernel
theorem dX9_readMessageWord_26 : decode cX9_readMessageWord 26 = .ok (.ifCond .eq 7, 3) := by decide +kernel
theorem dX9_readMessageWord_29 : decode cX9_readMessageWord 29 = .ok (.iconst 1, 1) := by decide +kernel
theorem dX9_readMessageWord_30 : decode cX9_readMessageWord 30 = .ok (.goto 4, 3) := by decide +kernel
theorem dX9_readMessageWord_33 : decode cX9_readMessageWord 33 = .ok (.iconst 0, 1) := by decide +kernel
theorem dX9_readMessageWord_34 : decode cX9_readMessageWord 34 = .ok (.ireturn, 1) := by decide +kernel
def F_X9_readMessageWord (N : Nat) (g : HV) : Option (Bool × (HV)) := (ob1 (F_X9_readToken N g) fun g2 => (if (g2.1 3) = 1 then (if (g2.1 5) ≤ 12 then some (true, g2) else (lt2 (F_X9_refuse 1 g2) fun v5 g6 => (if v5 = true then some (true, g6) else some (false, g6)))) else (lt2 (F_X9_refuse 1 g2) fun v3 g4 => (if v3 = true then some (true, g4) else some (false, g4)))))
theorem c_X9_readMessageWord {w : WP} (hW : gW w) {Ω : OM}  {g : HV} (e : Ω.1 11 4 = g) (N : Nat)  {v : Bool} {g' : HV} (hF : F_X9_readMessageWord N g = some (v, g')) {Ω' : OM} (e2 : (sP Ω 11 4 g') = Ω') : gM w 2 yX9_readMessageWord cX9_readMessageWord 1 (some .boolean) [.ref (wAd w (5, 11, 4, 0))] (cA w Ω) (some (.int (b2i v))) (cA w Ω') := by
  refine gM_of "HedgeMessages$Text" rfl (by decide) (kR rfl) fun X C => ?_
  unfold F_X9_readMessageWord at hF
  subst e2
  show gV w X _ _ 0 [(0, .ref (wAd w (5, 11, 4, 0)))] []
  refine r_ct (ct' := cA w (sP Ω 11 4 g)) (congrArg (cA w) (sP_i e).symm) ?_
  refine r_aload_n C (k := 0) rfl rfl dX9_readMessageWord_0 ?_
  obtain ⟨g2, hg2, hF⟩ := ob1_e hF
  refine r_callV C (d' := 1) [] (c_X9_readToken hW (sP_g (Ω := Ω) (j := 11) (p := 4) (g := g)) N hg2 sP_P) myX9_readToken wm3_141 ⟨_, _, _, _, (hW.ok k5), rfl, rfl, rfl, rfl⟩ rfl (kR rfl) (by decide) (kR rfl) rfl dX9_readMessageWord_1 ?_
  refine r_aload_n C (k := 0) rfl rfl dX9_readMessageWord_4 ?_
  refine og_5_3 C (hW.ok k5) (sP_g (Ω := Ω) (j := 11) (p := 4) (g := g2)) wm2_1 dX9_readMessageWord_5 ?_
  refine r_iconst C (v := 1) rfl dX9_readMessageWord_8 ?_
  refine r_icmp_ne C (tgt := 21) rfl dX9_readMessageWord_9 (fun hc => ?_) (fun hc => ?_)
  · rw [if_neg hc] at hF
    refine r_aload_n C (k := 0) rfl rfl dX9_readMessageWord_21 ?_
    refine r_iconst C (v := 1) rfl dX9_readMessageWord_22 ?_
    obtain ⟨v3, g4, hg4, hF⟩ := lt2_e hF
    refine r_callV C (d' := 0) [.int 1] (c_X9_refuse hW (sP_g (Ω := Ω) (j := 11) (p := 4) (g := g2)) 1 hg4 sP_P) myX9_refuse wm3_142 ⟨_, _, _, _, (hW.ok k5), rfl, rfl, rfl, rfl⟩ rfl (kR rfl) (by decide) (kR rfl) rfl dX9_readMessageWord_23 ?_
    refine r_if_eq C (tgt := 33) rfl dX9_readMessageWord_26 (fun hc => ?_) (fun hc => ?_)
    · rw [if_neg (b2i_f hc)] at hF
      refine r_iconst C (v := 0) rfl dX9_readMessageWord_33 ?_
      cases hF
      exact r_zreturn C false rfl dX9_readMessageWord_34
    · rw [if_pos (b2i_t hc)] at hF
      refine r_iconst C (v := 1) rfl dX9_readMessageWord_29 ?_
      refine r_goto C (tgt := 34) rfl dX9_readMessageWord_30 ?_
      cases hF
      exact r_zreturn C true rfl dX9_readMessageWord_34
  · rw [if_pos hc] at hF
    refine r_aload_n C (k := 0) rfl rfl dX9_readMessageWord_12 ?_
    refine og_5_5 C (hW.ok k5) (sP_g (Ω := Ω) (j := 11) (p := 4) (g := g2)) wm2_4 dX9_readMessageWord_13 ?_
    refine r_bipush C (v := 12) rfl dX9_readMessageWord_16 ?_
    refine r_icmp_le C (tgt := 29) rfl dX9_readMessageWord_18 (fun hc => ?_) (fun hc => ?_)
    · rw [if_pos hc] at hF
      refine r_iconst C (v := 1) rfl dX9_readMessageWord_29 ?_
      refine r_goto C (tgt := 34) rfl dX9_readMessageWord_30 ?_
      cases hF
      exact r_zreturn C true rfl dX9_readMessageWord_34
    · rw [if_neg hc] at hF
      refine r_aload_n C (k := 0) rfl rfl dX9_readMessageWord_21 ?_
      refine r_iconst C (v := 1) rfl dX9_readMessageWord_22 ?_
      obtain ⟨v5, g6, hg6, hF⟩ := lt2_e hF
      refine r_callV C (d' := 0) [.int 1] (c_X9_refuse hW (sP_g (Ω := Ω) (j := 11) (p := 4) (g := g2)) 1 hg6 sP_P) myX9_refuse wm3_142 ⟨_, _, _, _, (hW.ok k5), rfl, rfl, rfl, rfl⟩ rfl (kR rfl) (by decide) (kR rfl) rfl dX9_readMessageWord_23 ?_
      refine r_if_eq C (tgt := 33) rfl dX9_readMessageWord_26 (fun hc => ?_) (fun hc => ?_)
      · rw [if_neg (b2i_f hc)] at hF
        refine r_iconst C (v := 0) rfl dX9_readMessageWord_33 ?_
        cases hF
        exact r_zreturn C false rfl dX9_readMessageWord_34
      · rw [if_pos (b2i_t hc)] at hF
        refine r_iconst C (v := 1) rfl dX9_readMessageWord_29 ?_
        refine r_goto C (tgt := 34) rfl dX9_readMessageWord_30 ?_
        cases hF
        exact r_zreturn C true rfl dX9_readMessageWord_34
theorem dX9_readLetter_0 : decode cX9_readLetter 0 = .ok (.aload_n 0, 1) := by decide +kernel
theorem dX9_readLetter_1 : decode cX9_readLetter 1 = .ok (.invokevirtual 66, 3) := by decide +kernel
theorem dX9_readLetter_4 : decode cX9_readLetter 4 = .ok (.aload_n 0, 1) := by decide +kernel
theorem dX9_readLetter_5 : decode cX9_readLetter 5 = .ok (.aload_n 0, 1) := by decide +kernel
theorem dX9_readLetter_6 : decode cX9_readLetter 6 = .ok (.getfield 14, 3) := by decide +kernel
theorem dX9_readLetter_9 : decode cX9_readLetter 9 = .ok (.aload_n 0, 1) := by decide +kernel
theorem dX9_readLetter_10 : decode cX9_readLetter 10 = .ok (.getfield 45, 3) := by decide +kernel
theorem dX9_readLetter_13 : decode cX9_readLetter 13 = .ok (.invokevirtual 31, 3) := by decide +kernel
theorem dX9_readLetter_16 : decode cX9_readLetter 16 = .ok (.putfield 72, 3) := by decide +kernel
theorem dX9_readLetter_19 : decode cX9_readLetter 19 = .ok (.aload_n 0, 1) := by decide +kernel
theorem dX9_readLetter_20 : decode cX9_readLetter 20 = .ok (.getfield 48, 3) := by decide +kernel
theorem dX9_readLetter_23 : decode cX9_readLetter 23 = .ok (.iconst 1, 1) := by decide +kernel
theorem dX9_readLetter_24 : decode cX9_readLetter 24 = .ok (.if_icmp .ne 11, 3) := by decide +kernel
theorem dX9_readLetter_27 : decode cX9_readLetter 27 = .ok (.aload_n 0, 1) := by decide +kernel
theorem dX9_readLetter_28 : decode cX9_readLetter 28 = .ok (.getfield 54, 3) := by decide +kernel
theorem dX9_readLetter_31 : decode cX9_readLetter 31 = .ok (.iconst 1, 1) := by decide +kernel
theorem dX9_readLetter_32 : decode cX9_readLetter 32 = .ok (.if_icmp .eq 11, 3) := by decide +kernel
theorem dX9_readLetter_35 : decode cX9_readLetter 35 = .ok (.aload_n 0, 1) := by decide +kernel
theorem dX9_readLetter_36 : decode cX9_readLetter 36 = .ok (.iconst 1, 1) := by decide +kernel
theorem dX9_readLetter_37 : decode cX9_readLetter 37 = .ok (.invokevirtual 69, 3) := by decide +kernel
theorem dX9_readLetter_40 : decode cX9_readLetter 40 = .ok (.ifCond .eq 7, 3) := by decide +kernel
theorem dX9_readLetter_43 : decode cX9_readLetter 43 = .ok (.iconst 1, 1) := by decide +kernel
theorem dX9_readLetter_44 : decode cX9_readLetter 44 = .ok (.goto 4, 3) := by decide +kernel
theorem dX9_readLetter_47 : decode cX9_readLetter 47 = .ok (.iconst 0, 1) := by decide +kernel
theorem dX9_readLetter_48 : decode cX9_readLetter 48 = .ok (.ireturn, 1) := by decide +kernel
def F_X9_readLetter (N : Nat) (g : HV) : Option (Bool × (HV)) := (ob1 (F_X9_readToken N g) fun g2 => (lt (sS g2 6 (rget 800 (g2.2 0) (g2.1 4))) fun g3 => (if (g3.1 3) = 1 then (if (g3.1 5) = 1 then some (true, g3) else (lt2 (F_X9_refuse 1 g3) fun v6 g7 => (if v6 = true then some (true, g7) else some (false, g7)))) else (lt2 (F_X9_refuse 1 g3) fun v4 g5 => (if v4 = true then some (true, g5) else some (false, g5))))))
theorem c_X9_readLetter {w : WP} (hW : gW w) {Ω : OM}  {g : HV} (e : Ω.1 11 4 = g) (N : Nat)  {v : Bool} {g' : HV} (hF : F_X9_readLetter N g = some (v, g')) {Ω' : OM} (e2 : (sP Ω 11 4 g') = Ω') : gM w 2 yX9_readLetter cX9_readLetter 1 (some .boolean) [.ref (wAd w (5, 11, 4, 0))] (cA w Ω) (some (.int (b2i v))) (cA w Ω') := by
  refine gM_of "HedgeMessages$Text" rfl (by decide) (kR rfl) fun X C => ?_
  unfold F_X9_readLetter at hF
  subst e2
  show gV w X _ _ 0 [(0, .ref (wAd w (5, 11, 4, 0)))] []
  refine r_ct (ct' := cA w (sP Ω 11 4 g)) (congrArg (cA w) (sP_i e).symm) ?_
  refine r_aload_n C (k := 0) rfl rfl dX9_readLetter_0 ?_
  obtain ⟨g2, hg2, hF⟩ := ob1_e hF
  refine r_callV C (d' := 1) [] (c_X9_readToken hW (sP_g (Ω := Ω) (j := 11) (p := 4) (g := g)) N hg2 sP_P) myX9_readToken wm3_141 ⟨_, _, _, _, (hW.ok k5), rfl, rfl, rfl, rfl⟩ rfl (kR rfl) (by decide) (kR rfl) rfl dX9_readLetter_1 ?_
  refine r_aload_n C (k := 0) rfl rfl dX9_readLetter_4 ?_
  refine r_aload_n C (k := 0) rfl rfl dX9_readLetter_5 ?_
  refine og_5_0 C (hW.ok k5) wm1_235 dX9_readLetter_6 ?_
  refine r_aload_n C (k := 0) rfl rfl dX9_readLetter_9 ?_
  refine og_5_4 C (hW.ok k5) (sP_g (Ω := Ω) (j := 11) (p := 4) (g := g2)) wm2_2 dX9_readLetter_10 ?_
  refine r_callV C (d' := 0) [.int (g2.1 4)] (c_rget (hW.ok (i := (3, 11, 4, 0)) q4) (hW.ok (i := (4, 11, 4, 0)) q4) (show rlen 4 0 = 800 from rfl) (by decide) (congrArg (fun z => z.2 0) (sP_g (Ω := Ω) (j := 11) (p := 4) (g := g2))) rfl) myX8_get wm3_116 ⟨_, _, _, _, (hW.ok (i := (3, 11, 4, 0)) q4), rfl, rfl, rfl, rfl⟩ rfl (kR rfl) (by decide) (kR rfl) rfl dX9_readLetter_13 ?_
  obtain ⟨g3, eg3, hF⟩ := lt_e hF
  refine op_5_6 C hW.x (Or.inl k5) (hW.fr k5) (sP_g (Ω := Ω) (j := 11) (p := 4) (g := g2)) wm2_7 dX9_readLetter_16 (sP_P.trans (congrArg (sP Ω 11 4) eg3)) ?_
  refine r_aload_n C (k := 0) rfl rfl dX9_readLetter_19 ?_
  refine og_5_3 C (hW.ok k5) (sP_g (Ω := Ω) (j := 11) (p := 4) (g := g3)) wm2_1 dX9_readLetter_20 ?_
  refine r_iconst C (v := 1) rfl dX9_readLetter_23 ?_
  refine r_icmp_ne C (tgt := 35) rfl dX9_readLetter_24 (fun hc => ?_) (fun hc => ?_)
  · rw [if_neg hc] at hF
    refine r_aload_n C (k := 0) rfl rfl dX9_readLetter_35 ?_
    refine r_iconst C (v := 1) rfl dX9_readLetter_36 ?_
    obtain ⟨v4, g5, hg5, hF⟩ := lt2_e hF
    refine r_callV C (d' := 0) [.int 1] (c_X9_refuse hW (sP_g (Ω := Ω) (j := 11) (p := 4) (g := g3)) 1 hg5 sP_P) myX9_refuse wm3_142 ⟨_, _, _, _, (hW.ok k5), rfl, rfl, rfl, rfl⟩ rfl (kR rfl) (by decide) (kR rfl) rfl dX9_readLetter_37 ?_
    refine r_if_eq C (tgt := 47) rfl dX9_readLetter_40 (fun hc => ?_) (fun hc => ?_)
    · rw [if_neg (b2i_f hc)] at hF
      refine r_iconst C (v := 0) rfl dX9_readLetter_47 ?_
      cases hF
      exact r_zreturn C false rfl dX9_readLetter_48
    · rw [if_pos (b2i_t hc)] at hF
      refine r_iconst C (v := 1) rfl dX9_readLetter_43 ?_
      refine r_goto C (tgt := 48) rfl dX9_readLetter_44 ?_
      cases hF
      exact r_zreturn C true rfl dX9_readLetter_48
  · rw [if_pos hc] at hF
    refine r_aload_n C (k := 0) rfl rfl dX9_readLetter_27 ?_
    refine og_5_5 C (hW.ok k5) (sP_g (Ω := Ω) (j := 11) (p := 4) (g := g3)) wm2_4 dX9_readLetter_28 ?_
    refine r_iconst C (v := 1) rfl dX9_readLetter_31 ?_
    refine r_icmp_eq C (tgt := 43) rfl dX9_readLetter_32 (fun hc => ?_) (fun hc => ?_)
    · rw [if_pos hc] at hF
      refine r_iconst C (v := 1) rfl dX9_readLetter_43 ?_
      refine r_goto C (tgt := 48) rfl dX9_readLetter_44 ?_
      cases hF
      exact r_zreturn C true rfl dX9_readLetter_48
    · rw [if_neg hc] at hF
      refine r_aload_n C (k := 0) rfl rfl dX9_readLetter_35 ?_
      refine r_iconst C (v := 1) rfl dX9_readLetter_36 ?_
      obtain ⟨v6, g7, hg7, hF⟩ := lt2_e hF
      refine r_callV C (d' := 0) [.int 1] (c_X9_refuse hW (sP_g (Ω := Ω) (j := 11) (p := 4) (g := g3)) 1 hg7 sP_P) myX9_refuse wm3_142 ⟨_, _, _, _, (hW.ok k5), rfl, rfl, rfl, rfl⟩ rfl (kR rfl) (by decide) (kR rfl) rfl dX9_readLetter_37 ?_
      refine r_if_eq C (tgt := 47) rfl dX9_readLetter_40 (fun hc => ?_) (fun hc => ?_)
      · rw [if_neg (b2i_f hc)] at hF
        refine r_iconst C (v := 0) rfl dX9_readLetter_47 ?_
        cases hF
        exact r_zreturn C false rfl dX9_readLetter_48
      · rw [if_pos (b2i_t hc)] at hF
        refine r_iconst C (v := 1) rfl dX9_readLetter_43 ?_
        refine r_goto C (tgt := 48) rfl dX9_readLetter_44 ?_
        cases hF
        exact r_zreturn C true rfl dX9_readLetter_48
theorem dX9_readSemicolon_0 : decode cX9_readSemicolon 0 = .ok (.aload_n 0, 1) := by decide +kernel
theorem dX9_readSemicolon_1 : decode cX9_readSemicolon 1 = .ok (.invokevirtual 66, 3) := by decide +kernel
theorem dX9_readSemicolon_4 : decode cX9_readSemicolon 4 = .ok (.aload_n 0, 1) := by decide +kernel
theorem dX9_readSemicolon_5 : decode cX9_readSemicolon 5 = .ok (.getfield 48, 3) := by decide +kernel
theorem dX9_readSemicolon_8 : decode cX9_readSemicolon 8 = .ok (.iconst 3, 1) := by decide +kernel
theorem dX9_readSemicolon_9 : decode cX9_readSemicolon 9 = .ok (.if_icmp .eq 11, 3) := by decide +kernel
theorem dX9_readSemicolon_12 : decode cX9_readSemicolon 12 = .ok (.aload_n 0, 1) := by decide +kernel
theorem dX9_readSemicolon_13 : decode cX9_readSemicolon 13 = .ok (.iconst 1, 1) := by decide +kernel
theorem dX9_readSemicolon_14 : decode cX9_readSemicolon 14 = .ok (.invokevirtual 69, 3) := by decide +kernel
theorem dX9_readSemicolon_17 : decode cX9_readSemicolon 17 = .ok (.ifCond .eq 7, 3) := by decide +kernel
theorem dX9_readSemicolon_20 : decode cX9_readSemicolon 20 = .ok (.iconst 1, 1) := by decide +kernel
theorem dX9_readSemicolon_21 : decode cX9_readSemicolon 21 = .ok (.goto 4, 3) := by decide +kernel
theorem dX9_readSemicolon_24 : decode cX9_readSemicolon 24 = .ok (.iconst 0, 1) := by decide +kernel
theorem dX9_readSemicolon_25 : decode cX9_readSemicolon 25 = .ok (.ireturn, 1) := by decide +kernel
def F_X9_readSemicolon (N : Nat) (g : HV) : Option (Bool × (HV)) := (ob1 (F_X9_readToken N g) fun g2 => (if (g2.1 3) = 3 then some (true, g2) else (lt2 (F_X9_refuse 1 g2) fun v3 g4 => (if v3 = true then some (true, g4) else some (false, g4)))))
theorem c_X9_readSemicolon {w : WP} (hW : gW w) {Ω : OM}  {g : HV} (e : Ω.1 11 4 = g) (N : Nat)  {v : Bool} {g' : HV} (hF : F_X9_readSemicolon N g = some (v, g')) {Ω' : OM} (e2 : (sP Ω 11 4 g') = Ω') : gM w 2 yX9_readSemicolon cX9_readSemicolon 1 (some .boolean) [.ref (wAd w (5, 11, 4, 0))] (cA w Ω) (some (.int (b2i v))) (cA w Ω') := by
  refine gM_of "HedgeMessages$Text" rfl (by decide) (kR rfl) fun X C => ?_
  unfold F_X9_readSemicolon at hF
  subst e2
  show gV w X _ _ 0 [(0, .ref (wAd w (5, 11, 4, 0)))] []
  refine r_ct (ct' := cA w (sP Ω 11 4 g)) (congrArg (cA w) (sP_i e).symm) ?_
  refine r_aload_n C (k := 0) rfl rfl dX9_readSemicolon_0 ?_
  obtain ⟨g2, hg2, hF⟩ := ob1_e hF
  refine r_callV C (d' := 1) [] (c_X9_readToken hW (sP_g (Ω := Ω) (j := 11) (p := 4) (g := g)) N hg2 sP_P) myX9_readToken wm3_141 ⟨_, _, _, _, (hW.ok k5), rfl, rfl, rfl, rfl⟩ rfl (kR rfl) (by decide) (kR rfl) rfl dX9_readSemicolon_1 ?_
  refine r_aload_n C (k := 0) rfl rfl dX9_readSemicolon_4 ?_
  refine og_5_3 C (hW.ok k5) (sP_g (Ω := Ω) (j := 11) (p := 4) (g := g2)) wm2_1 dX9_readSemicolon_5 ?_
  refine r_iconst C (v := 3) rfl dX9_readSemicolon_8 ?_
  refine r_icmp_eq C (tgt := 20) rfl dX9_readSemicolon_9 (fun hc => ?_) (fun hc => ?_)
  · rw [if_pos hc] at hF
    refine r_iconst C (v := 1) rfl dX9_readSemicolon_20 ?_
    refine r_goto C (tgt := 25) rfl dX9_readSemicolon_21 ?_
    cases hF
    exact r_zreturn C true rfl dX9_readSemicolon_25
  · rw [if_neg hc] at hF
    refine r_aload_n C (k := 0) rfl rfl dX9_readSemicolon_12 ?_
    refine r_iconst C (v := 1) rfl dX9_readSemicolon_13 ?_
    obtain ⟨v3, g4, hg4, hF⟩ := lt2_e hF
    refine r_callV C (d' := 0) [.int 1] (c_X9_refuse hW (sP_g (Ω := Ω) (j := 11) (p := 4) (g := g2)) 1 hg4 sP_P) myX9_refuse wm3_142 ⟨_, _, _, _, (hW.ok k5), rfl, rfl, rfl, rfl⟩ rfl (kR rfl) (by decide) (kR rfl) rfl dX9_readSemicolon_14 ?_
    refine r_if_eq C (tgt := 24) rfl dX9_readSemicolon_17 (fun hc => ?_) (fun hc => ?_)
    · rw [if_neg (b2i_f hc)] at hF
      refine r_iconst C (v := 0) rfl dX9_readSemicolon_24 ?_
      cases hF
      exact r_zreturn C false rfl dX9_readSemicolon_25
    · rw [if_pos (b2i_t hc)] at hF
      refine r_iconst C (v := 1) rfl dX9_readSemicolon_20 ?_
      refine r_goto C (tgt := 25) rfl dX9_readSemicolon_21 ?_
      cases hF
      exact r_zreturn C true rfl dX9_readSemicolon_25
