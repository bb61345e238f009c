/-! ===== 33.config: printed by wip/p66/gen.py ===== -/
theorem dX3_readHedge_0 : decode cX3_readHedge 0 = .ok (.aload_n 0, 1) := by decide +kernel
theorem dX3_readHedge_1 : decode cX3_readHedge 1 = .ok (.invokevirtual 20, 3) := by decide +kernel
theorem dX3_readHedge_4 : decode cX3_readHedge 4 = .ok (.aload_n 0, 1) := by decide +kernel
theorem dX3_readHedge_5 : decode cX3_readHedge 5 = .ok (.ldc 30, 2) := by decide +kernel
theorem dX3_readHedge_7 : decode cX3_readHedge 7 = .ok (.invokevirtual 32, 3) := by decide +kernel
theorem dX3_readHedge_10 : decode cX3_readHedge 10 = .ok (.ifCond .ne 9, 3) := by decide +kernel
theorem dX3_readHedge_13 : decode cX3_readHedge 13 = .ok (.aload_n 0, 1) := by decide +kernel
theorem dX3_readHedge_14 : decode cX3_readHedge 14 = .ok (.iconst 1, 1) := by decide +kernel
theorem dX3_readHedge_15 : decode cX3_readHedge 15 = .ok (.invokevirtual 36, 3) := by decide +kernel
theorem dX3_readHedge_18 : decode cX3_readHedge 18 = .ok (.ireturn, 1) := by decide +kernel
theorem dX3_readHedge_19 : decode cX3_readHedge 19 = .ok (.aload_n 0, 1) := by decide +kernel
theorem dX3_readHedge_20 : decode cX3_readHedge 20 = .ok (.iconst 4, 1) := by decide +kernel
theorem dX3_readHedge_21 : decode cX3_readHedge 21 = .ok (.bipush 40, 2) := by decide +kernel
theorem dX3_readHedge_23 : decode cX3_readHedge 23 = .ok (.invokevirtual 40, 3) := by decide +kernel
theorem dX3_readHedge_26 : decode cX3_readHedge 26 = .ok (.ifCond .ne 5, 3) := by decide +kernel
theorem dX3_readHedge_29 : decode cX3_readHedge 29 = .ok (.iconst 0, 1) := by decide +kernel
theorem dX3_readHedge_30 : decode cX3_readHedge 30 = .ok (.ireturn, 1) := by decide +kernel
theorem dX3_readHedge_31 : decode cX3_readHedge 31 = .ok (.aload_n 0, 1) := by decide +kernel
theorem dX3_readHedge_32 : decode cX3_readHedge 32 = .ok (.getfield 44, 3) := by decide +kernel
theorem dX3_readHedge_35 : decode cX3_readHedge 35 = .ok (.istore_n 2, 1) := by decide +kernel
theorem dX3_readHedge_36 : decode cX3_readHedge 36 = .ok (.aload_n 0, 1) := by decide +kernel
theorem dX3_readHedge_37 : decode cX3_readHedge 37 = .ok (.iconst 1, 1) := by decide +kernel
theorem dX3_readHedge_38 : decode cX3_readHedge 38 = .ok (.bipush 12, 2) := by decide +kernel
theorem dX3_readHedge_40 : decode cX3_readHedge 40 = .ok (.invokevirtual 40, 3) := by decide +kernel
theorem dX3_readHedge_43 : decode cX3_readHedge 43 = .ok (.ifCond .ne 5, 3) := by decide +kernel
theorem dX3_readHedge_46 : decode cX3_readHedge 46 = .ok (.iconst 0, 1) := by decide +kernel
theorem dX3_readHedge_47 : decode cX3_readHedge 47 = .ok (.ireturn, 1) := by decide +kernel
theorem dX3_readHedge_48 : decode cX3_readHedge 48 = .ok (.aload_n 0, 1) := by decide +kernel
theorem dX3_readHedge_49 : decode cX3_readHedge 49 = .ok (.getfield 44, 3) := by decide +kernel
theorem dX3_readHedge_52 : decode cX3_readHedge 52 = .ok (.istore_n 3, 1) := by decide +kernel
theorem dX3_readHedge_53 : decode cX3_readHedge 53 = .ok (.aload_n 0, 1) := by decide +kernel
theorem dX3_readHedge_54 : decode cX3_readHedge 54 = .ok (.iconst 0, 1) := by decide +kernel
theorem dX3_readHedge_55 : decode cX3_readHedge 55 = .ok (.bipush 9, 2) := by decide +kernel
theorem dX3_readHedge_57 : decode cX3_readHedge 57 = .ok (.invokevirtual 40, 3) := by decide +kernel
theorem dX3_readHedge_60 : decode cX3_readHedge 60 = .ok (.ifCond .ne 5, 3) := by decide +kernel
theorem dX3_readHedge_63 : decode cX3_readHedge 63 = .ok (.iconst 0, 1) := by decide +kernel
theorem dX3_readHedge_64 : decode cX3_readHedge 64 = .ok (.ireturn, 1) := by decide +kernel
theorem dX3_readHedge_65 : decode cX3_readHedge 65 = .ok (.aload_n 0, 1) := by decide +kernel
theorem dX3_readHedge_66 : decode cX3_readHedge 66 = .ok (.getfield 44, 3) := by decide +kernel
theorem dX3_readHedge_69 : decode cX3_readHedge 69 = .ok (.istore 4, 2) := by decide +kernel
theorem dX3_readHedge_71 : decode cX3_readHedge 71 = .ok (.aload_n 0, 1) := by decide +kernel
theorem dX3_readHedge_72 : decode cX3_readHedge 72 = .ok (.iconst 1, 1) := by decide +kernel
theorem dX3_readHedge_73 : decode cX3_readHedge 73 = .ok (.bipush 99, 2) := by decide +kernel
theorem dX3_readHedge_75 : decode cX3_readHedge 75 = .ok (.invokevirtual 40, 3) := by decide +kernel
theorem dX3_readHedge_78 : decode cX3_readHedge 78 = .ok (.ifCond .ne 5, 3) := by decide +kernel
theorem dX3_readHedge_81 : decode cX3_readHedge 81 = .ok (.iconst 0, 1) := by decide +kernel
theorem dX3_readHedge_82 : decode cX3_readHedge 82 = .ok (.ireturn, 1) := by decide +kernel
theorem dX3_readHedge_83 : decode cX3_readHedge 83 = .ok (.aload_n 0, 1) := by decide +kernel
theorem dX3_readHedge_84 : decode cX3_readHedge 84 = .ok (.getfield 44, 3) := by decide +kernel
theorem dX3_readHedge_87 : decode cX3_readHedge 87 = .ok (.istore 5, 2) := by decide +kernel
theorem dX3_readHedge_89 : decode cX3_readHedge 89 = .ok (.aload_n 0, 1) := by decide +kernel
theorem dX3_readHedge_90 : decode cX3_readHedge 90 = .ok (.iconst 1, 1) := by decide +kernel
theorem dX3_readHedge_91 : decode cX3_readHedge 91 = .ok (.bipush 30, 2) := by decide +kernel
theorem dX3_readHedge_93 : decode cX3_readHedge 93 = .ok (.invokevirtual 40, 3) := by decide +kernel
theorem dX3_readHedge_96 : decode cX3_readHedge 96 = .ok (.ifCond .ne 5, 3) := by decide +kernel
theorem dX3_readHedge_99 : decode cX3_readHedge 99 = .ok (.iconst 0, 1) := by decide +kernel
theorem dX3_readHedge_100 : decode cX3_readHedge 100 = .ok (.ireturn, 1) := by decide +kernel
theorem dX3_readHedge_101 : decode cX3_readHedge 101 = .ok (.aload_n 0, 1) := by decide +kernel
theorem dX3_readHedge_102 : decode cX3_readHedge 102 = .ok (.getfield 44, 3) := by decide +kernel
theorem dX3_readHedge_105 : decode cX3_readHedge 105 = .ok (.istore 6, 2) := by decide +kernel
theorem dX3_readHedge_107 : decode cX3_readHedge 107 = .ok (.aload_n 0, 1) := by decide +kernel
theorem dX3_readHedge_108 : decode cX3_readHedge 108 = .ok (.iconst 1, 1) := by decide +kernel
theorem dX3_readHedge_109 : decode cX3_readHedge 109 = .ok (.bipush 40, 2) := by decide +kernel
theorem dX3_readHedge_111 : decode cX3_readHedge 111 = .ok (.invokevirtual 40, 3) := by decide +kernel
theorem dX3_readHedge_114 : decode cX3_readHedge 114 = .ok (.ifCond .ne 5, 3) := by decide +kernel
theorem dX3_readHedge_117 : decode cX3_readHedge 117 = .ok (.iconst 0, 1) := by decide +kernel
theorem dX3_readHedge_118 : decode cX3_readHedge 118 = .ok (.ireturn, 1) := by decide +kernel
theorem dX3_readHedge_119 : decode cX3_readHedge 119 = .ok (.aload_n 0, 1) := by decide +kernel
theorem dX3_readHedge_120 : decode cX3_readHedge 120 = .ok (.getfield 44, 3) := by decide +kernel
theorem dX3_readHedge_123 : decode cX3_readHedge 123 = .ok (.istore 7, 2) := by decide +kernel
theorem dX3_readHedge_125 : decode cX3_readHedge 125 = .ok (.aload_n 1, 1) := by decide +kernel
theorem dX3_readHedge_126 : decode cX3_readHedge 126 = .ok (.iload_n 2, 1) := by decide +kernel
theorem dX3_readHedge_127 : decode cX3_readHedge 127 = .ok (.iload_n 3, 1) := by decide +kernel
theorem dX3_readHedge_128 : decode cX3_readHedge 128 = .ok (.iload 4, 2) := by decide +kernel
theorem dX3_readHedge_130 : decode cX3_readHedge 130 = .ok (.iload 5, 2) := by decide +kernel
theorem dX3_readHedge_132 : decode cX3_readHedge 132 = .ok (.iload 6, 2) := by decide +kernel
theorem dX3_readHedge_134 : decode cX3_readHedge 134 = .ok (.iload 7, 2) := by decide +kernel
theorem dX3_readHedge_136 : decode cX3_readHedge 136 = .ok (.invokevirtual 48, 3) := by decide +kernel
theorem dX3_readHedge_139 : decode cX3_readHedge 139 = .ok (.aload_n 0, 1) := by decide +kernel
theorem dX3_readHedge_140 : decode cX3_readHedge 140 = .ok (.invokevirtual 54, 3) := by decide +kernel
theorem dX3_readHedge_143 : decode cX3_readHedge 143 = .ok (.ireturn, 1) := by decide +kernel
def F_X3_readHedge (N : Nat) (y1 : Nat) (S : Nat → Nat → HV) : Option (Bool × (Nat → Nat → HV)) := (ob1 (F_X9_readToken N (S 11 4)) fun g2 => (lt (up S 11 (up (S 11) 4 g2)) fun S3 => (ob1 (F_X9_isWord N 6 (S3 11 4)) fun v4 => (if v4 = true then (ob (F_X9_readNumber N 4 40 (S3 11 4)) fun v5 g6 => (lt (up S3 11 (up (S3 11) 4 g6)) fun S7 => (if v5 = true then (ob (F_X9_readNumber N 1 12 (S7 11 4)) fun v8 g9 => (lt (up S7 11 (up (S7 11) 4 g9)) fun S10 => (if v8 = true then (ob (F_X9_readNumber N 0 9 (S10 11 4)) fun v11 g12 => (lt (up S10 11 (up (S10 11) 4 g12)) fun S13 => (if v11 = true then (ob (F_X9_readNumber N 1 99 (S13 11 4)) fun v14 g15 => (lt (up S13 11 (up (S13 11) 4 g15)) fun S16 => (if v14 = true then (ob (F_X9_readNumber N 1 30 (S16 11 4)) fun v17 g18 => (lt (up S16 11 (up (S16 11) 4 g18)) fun S19 => (if v17 = true then (ob (F_X9_readNumber N 1 40 (S19 11 4)) fun v20 g21 => (lt (up S19 11 (up (S19 11) 4 g21)) fun S22 => (if v20 = true then (lt (F_X5_layOut ((S7 11 4).1 6) ((S10 11 4).1 6) ((S13 11 4).1 6) ((S16 11 4).1 6) ((S19 11 4).1 6) ((S22 11 4).1 6) (S22 y1)) fun g24 => (lt (up S22 y1 g24) fun S25 => (ob (F_X9_readSemicolon N (S25 11 4)) fun v26 g27 => (lt (up S25 11 (up (S25 11) 4 g27)) fun S28 => some (v26, S28))))) else some (false, S22)))) else some (false, S19)))) else some (false, S16)))) else some (false, S13)))) else some (false, S10)))) else some (false, S7)))) else (lt2 (F_X9_refuse 1 (S3 11 4)) fun v29 g30 => (lt (up S3 11 (up (S3 11) 4 g30)) fun S31 => some (v29, S31)))))))
theorem c_X3_readHedge {w : WP} (hW : gW w) (hS : gS w) {Ω : OM}  {S : Nat → Nat → HV} (e : Ω.1 = S) (N : Nat) (y1 : Nat) (hy1 : y1 ≤ 10) {v : Bool} {S' : Nat → Nat → HV} (hF : F_X3_readHedge N y1 S = some (v, S')) {Ω' : OM} (e2 : (S', Ω.2) = Ω') : gM w 5 yX3_readHedge cX3_readHedge 8 (some .boolean) [.ref (wAd w (5, 11, 4, 0)), .ref (wAd w (0, y1, 0, 0))] (cA w Ω) (some (.int (b2i v))) (cA w Ω') := by
  refine gM_of "HedgeMessages$Configuration" rfl (by decide) (kR rfl) fun X C => ?_
  unfold F_X3_readHedge at hF
  subst e2
  show gV w X _ _ 0 [(0, .ref (wAd w (5, 11, 4, 0))), (1, .ref (wAd w (0, y1, 0, 0)))] []
  refine r_ct (ct' := cA w (S, Ω.2)) (by rw [← e]) ?_
  refine r_aload_n C (k := 0) rfl rfl dX3_readHedge_0 ?_
  obtain ⟨g2, hg2, hF⟩ := ob1_e hF
  obtain ⟨S3, eS3, hF⟩ := lt_e hF
  refine r_callV C (d' := 1) [] (c_X9_readToken hW (congrFun (congrFun (show (S, Ω.2).1 = S from rfl) 11) 4) N hg2 (congrArg (fun z => (z, Ω.2)) eS3)) myX9_readToken wm3_112 ⟨_, _, _, _, (hW.ok k5), rfl, rfl, rfl, rfl⟩ rfl (kR rfl) (by decide) (kR rfl) rfl dX3_readHedge_1 ?_
  refine r_aload_n C (k := 0) rfl rfl dX3_readHedge_4 ?_
  refine r_ldcS C ((hS.s C).imp fun _ _ _ h => h.2.2.1 6 (by decide)) dX3_readHedge_5 ?_
  obtain ⟨v4, hv4, hF⟩ := ob1_e hF
  refine r_callV C (d' := 4) [.ref (wAd w (15, 6, 0, 0))] (c_X9_isWord hW hS (congrFun (congrFun (show (S3, Ω.2).1 = S3 from rfl) 11) 4) N 6 (show 6 < 32 by decide) hv4) myX9_isWord wm3_127 ⟨_, _, _, _, (hW.ok k5), rfl, rfl, rfl, rfl⟩ rfl (kR rfl) (by decide) (kR rfl) rfl dX3_readHedge_7 ?_
  refine r_if_ne C (tgt := 19) rfl dX3_readHedge_10 (fun hc => ?_) (fun hc => ?_)
  · rw [if_pos (b2i_t hc)] at hF
    refine r_aload_n C (k := 0) rfl rfl dX3_readHedge_19 ?_
    refine r_iconst C (v := 4) rfl dX3_readHedge_20 ?_
    refine r_bipush C (v := 40) rfl dX3_readHedge_21 ?_
    obtain ⟨v5, g6, hg6, hF⟩ := ob_e hF
    obtain ⟨S7, eS7, hF⟩ := lt_e hF
    refine r_callV C (d' := 2) [.int 4, .int 40] (c_X9_readNumber hW (congrFun (congrFun (show (S3, Ω.2).1 = S3 from rfl) 11) 4) N 4 40 hg6 (congrArg (fun z => (z, Ω.2)) eS7)) myX9_readNumber wm3_137 ⟨_, _, _, _, (hW.ok k5), rfl, rfl, rfl, rfl⟩ rfl (kR rfl) (by decide) (kR rfl) rfl dX3_readHedge_23 ?_
    refine r_if_ne C (tgt := 31) rfl dX3_readHedge_26 (fun hc => ?_) (fun hc => ?_)
    · rw [if_pos (b2i_t hc)] at hF
      refine r_aload_n C (k := 0) rfl rfl dX3_readHedge_31 ?_
      refine ogN_5_6 C (hW.ok k5) (congrFun (congrFun (show (S7, Ω.2).1 = S7 from rfl) 11) 4) wm2_6 dX3_readHedge_32 ?_
      refine r_istore_n C (lo' := [(2, .int ((S7 11 4).1 6)), (0, .ref (wAd w (5, 11, 4, 0))), (1, .ref (wAd w (0, y1, 0, 0)))]) rfl (by decide) rfl dX3_readHedge_35 ?_
      refine r_aload_n C (k := 1) rfl rfl dX3_readHedge_36 ?_
      refine r_iconst C (v := 1) rfl dX3_readHedge_37 ?_
      refine r_bipush C (v := 12) rfl dX3_readHedge_38 ?_
      obtain ⟨v8, g9, hg9, hF⟩ := ob_e hF
      obtain ⟨S10, eS10, hF⟩ := lt_e hF
      refine r_callV C (d' := 2) [.int 1, .int 12] (c_X9_readNumber hW (congrFun (congrFun (show (S7, Ω.2).1 = S7 from rfl) 11) 4) N 1 12 hg9 (congrArg (fun z => (z, Ω.2)) eS10)) myX9_readNumber wm3_137 ⟨_, _, _, _, (hW.ok k5), rfl, rfl, rfl, rfl⟩ rfl (kR rfl) (by decide) (kR rfl) rfl dX3_readHedge_40 ?_
      refine r_if_ne C (tgt := 48) rfl dX3_readHedge_43 (fun hc => ?_) (fun hc => ?_)
      · rw [if_pos (b2i_t hc)] at hF
        refine r_aload_n C (k := 1) rfl rfl dX3_readHedge_48 ?_
        refine ogN_5_6 C (hW.ok k5) (congrFun (congrFun (show (S10, Ω.2).1 = S10 from rfl) 11) 4) wm2_6 dX3_readHedge_49 ?_
        refine r_istore_n C (lo' := [(3, .int ((S10 11 4).1 6)), (2, .int ((S7 11 4).1 6)), (0, .ref (wAd w (5, 11, 4, 0))), (1, .ref (wAd w (0, y1, 0, 0)))]) rfl (by decide) rfl dX3_readHedge_52 ?_
        refine r_aload_n C (k := 2) rfl rfl dX3_readHedge_53 ?_
        refine r_iconst C (v := 0) rfl dX3_readHedge_54 ?_
        refine r_bipush C (v := 9) rfl dX3_readHedge_55 ?_
        obtain ⟨v11, g12, hg12, hF⟩ := ob_e hF
        obtain ⟨S13, eS13, hF⟩ := lt_e hF
        refine r_callV C (d' := 2) [.int 0, .int 9] (c_X9_readNumber hW (congrFun (congrFun (show (S10, Ω.2).1 = S10 from rfl) 11) 4) N 0 9 hg12 (congrArg (fun z => (z, Ω.2)) eS13)) myX9_readNumber wm3_137 ⟨_, _, _, _, (hW.ok k5), rfl, rfl, rfl, rfl⟩ rfl (kR rfl) (by decide) (kR rfl) rfl dX3_readHedge_57 ?_
        refine r_if_ne C (tgt := 65) rfl dX3_readHedge_60 (fun hc => ?_) (fun hc => ?_)
        · rw [if_pos (b2i_t hc)] at hF
          refine r_aload_n C (k := 2) rfl rfl dX3_readHedge_65 ?_
          refine ogN_5_6 C (hW.ok k5) (congrFun (congrFun (show (S13, Ω.2).1 = S13 from rfl) 11) 4) wm2_6 dX3_readHedge_66 ?_
          refine r_istore C (lo' := [(4, .int ((S13 11 4).1 6)), (3, .int ((S10 11 4).1 6)), (2, .int ((S7 11 4).1 6)), (0, .ref (wAd w (5, 11, 4, 0))), (1, .ref (wAd w (0, y1, 0, 0)))]) (by decide) rfl dX3_readHedge_69 ?_
          refine r_aload_n C (k := 3) rfl rfl dX3_readHedge_71 ?_
          refine r_iconst C (v := 1) rfl dX3_readHedge_72 ?_
          refine r_bipush C (v := 99) rfl dX3_readHedge_73 ?_
          obtain ⟨v14, g15, hg15, hF⟩ := ob_e hF
          obtain ⟨S16, eS16, hF⟩ := lt_e hF
          refine r_callV C (d' := 2) [.int 1, .int 99] (c_X9_readNumber hW (congrFun (congrFun (show (S13, Ω.2).1 = S13 from rfl) 11) 4) N 1 99 hg15 (congrArg (fun z => (z, Ω.2)) eS16)) myX9_readNumber wm3_137 ⟨_, _, _, _, (hW.ok k5), rfl, rfl, rfl, rfl⟩ rfl (kR rfl) (by decide) (kR rfl) rfl dX3_readHedge_75 ?_
          refine r_if_ne C (tgt := 83) rfl dX3_readHedge_78 (fun hc => ?_) (fun hc => ?_)
          · rw [if_pos (b2i_t hc)] at hF
            refine r_aload_n C (k := 3) rfl rfl dX3_readHedge_83 ?_
            refine ogN_5_6 C (hW.ok k5) (congrFun (congrFun (show (S16, Ω.2).1 = S16 from rfl) 11) 4) wm2_6 dX3_readHedge_84 ?_
            refine r_istore C (lo' := [(5, .int ((S16 11 4).1 6)), (4, .int ((S13 11 4).1 6)), (3, .int ((S10 11 4).1 6)), (2, .int ((S7 11 4).1 6)), (0, .ref (wAd w (5, 11, 4, 0))), (1, .ref (wAd w (0, y1, 0, 0)))]) (by decide) rfl dX3_readHedge_87 ?_
            refine r_aload_n C (k := 4) rfl rfl dX3_readHedge_89 ?_
            refine r_iconst C (v := 1) rfl dX3_readHedge_90 ?_
            refine r_bipush C (v := 30) rfl dX3_readHedge_91 ?_
            obtain ⟨v17, g18, hg18, hF⟩ := ob_e hF
            obtain ⟨S19, eS19, hF⟩ := lt_e hF
            refine r_callV C (d' := 2) [.int 1, .int 30] (c_X9_readNumber hW (congrFun (congrFun (show (S16, Ω.2).1 = S16 from rfl) 11) 4) N 1 30 hg18 (congrArg (fun z => (z, Ω.2)) eS19)) myX9_readNumber wm3_137 ⟨_, _, _, _, (hW.ok k5), rfl, rfl, rfl, rfl⟩ rfl (kR rfl) (by decide) (kR rfl) rfl dX3_readHedge_93 ?_
            refine r_if_ne C (tgt := 101) rfl dX3_readHedge_96 (fun hc => ?_) (fun hc => ?_)
            · rw [if_pos (b2i_t hc)] at hF
              refine r_aload_n C (k := 4) rfl rfl dX3_readHedge_101 ?_
              refine ogN_5_6 C (hW.ok k5) (congrFun (congrFun (show (S19, Ω.2).1 = S19 from rfl) 11) 4) wm2_6 dX3_readHedge_102 ?_
              refine r_istore C (lo' := [(6, .int ((S19 11 4).1 6)), (5, .int ((S16 11 4).1 6)), (4, .int ((S13 11 4).1 6)), (3, .int ((S10 11 4).1 6)), (2, .int ((S7 11 4).1 6)), (0, .ref (wAd w (5, 11, 4, 0))), (1, .ref (wAd w (0, y1, 0, 0)))]) (by decide) rfl dX3_readHedge_105 ?_
              refine r_aload_n C (k := 5) rfl rfl dX3_readHedge_107 ?_
              refine r_iconst C (v := 1) rfl dX3_readHedge_108 ?_
              refine r_bipush C (v := 40) rfl dX3_readHedge_109 ?_
              obtain ⟨v20, g21, hg21, hF⟩ := ob_e hF
              obtain ⟨S22, eS22, hF⟩ := lt_e hF
              refine r_callV C (d' := 2) [.int 1, .int 40] (c_X9_readNumber hW (congrFun (congrFun (show (S19, Ω.2).1 = S19 from rfl) 11) 4) N 1 40 hg21 (congrArg (fun z => (z, Ω.2)) eS22)) myX9_readNumber wm3_137 ⟨_, _, _, _, (hW.ok k5), rfl, rfl, rfl, rfl⟩ rfl (kR rfl) (by decide) (kR rfl) rfl dX3_readHedge_111 ?_
              refine r_if_ne C (tgt := 119) rfl dX3_readHedge_114 (fun hc => ?_) (fun hc => ?_)
              · rw [if_pos (b2i_t hc)] at hF
                refine r_aload_n C (k := 5) rfl rfl dX3_readHedge_119 ?_
                refine ogN_5_6 C (hW.ok k5) (congrFun (congrFun (show (S22, Ω.2).1 = S22 from rfl) 11) 4) wm2_6 dX3_readHedge_120 ?_
                refine r_istore C (lo' := [(7, .int ((S22 11 4).1 6)), (6, .int ((S19 11 4).1 6)), (5, .int ((S16 11 4).1 6)), (4, .int ((S13 11 4).1 6)), (3, .int ((S10 11 4).1 6)), (2, .int ((S7 11 4).1 6)), (0, .ref (wAd w (5, 11, 4, 0))), (1, .ref (wAd w (0, y1, 0, 0)))]) (by decide) rfl dX3_readHedge_123 ?_
                refine r_aload_n C (k := 7) rfl rfl dX3_readHedge_125 ?_
                refine r_iload_n C (k := 5) rfl rfl dX3_readHedge_126 ?_
                refine r_iload_n C (k := 4) rfl rfl dX3_readHedge_127 ?_
                refine r_iload C (k := 3) rfl dX3_readHedge_128 ?_
                refine r_iload C (k := 2) rfl dX3_readHedge_130 ?_
                refine r_iload C (k := 1) rfl dX3_readHedge_132 ?_
                refine r_iload C (k := 0) rfl dX3_readHedge_134 ?_
                obtain ⟨g24, hg24, hF⟩ := lt_e hF
                obtain ⟨S25, eS25, hF⟩ := lt_e hF
                refine r_callV C (d' := 2) [.int ((S7 11 4).1 6), .int ((S10 11 4).1 6), .int ((S13 11 4).1 6), .int ((S16 11 4).1 6), .int ((S19 11 4).1 6), .int ((S22 11 4).1 6)] (c_X5_layOut hW hy1 (congrFun (show (S22, Ω.2).1 = S22 from rfl) y1) ((S7 11 4).1 6) ((S10 11 4).1 6) ((S13 11 4).1 6) ((S16 11 4).1 6) ((S19 11 4).1 6) ((S22 11 4).1 6) hg24 (congrArg (fun z => (z, Ω.2)) eS25)) myX5_layOut wm3_143 ⟨_, _, _, _, (hW.ok (k0 hy1)), rfl, rfl, rfl, rfl⟩ rfl (kR rfl) (by decide) (kR rfl) rfl dX3_readHedge_136 ?_
                refine r_aload_n C (k := 6) rfl rfl dX3_readHedge_139 ?_
                obtain ⟨v26, g27, hg27, hF⟩ := ob_e hF
                obtain ⟨S28, eS28, hF⟩ := lt_e hF
                refine r_callV C (d' := 2) [] (c_X9_readSemicolon hW (congrFun (congrFun (show (S25, Ω.2).1 = S25 from rfl) 11) 4) N hg27 (congrArg (fun z => (z, Ω.2)) eS28)) myX9_readSemicolon wm3_144 ⟨_, _, _, _, (hW.ok k5), rfl, rfl, rfl, rfl⟩ rfl (kR rfl) (by decide) (kR rfl) rfl dX3_readHedge_140 ?_
                cases hF
                exact r_zreturn C _ rfl dX3_readHedge_143
              · rw [if_neg (b2i_f hc)] at hF
                refine r_iconst C (v := 0) rfl dX3_readHedge_117 ?_
                cases hF
                exact r_zreturn C false rfl dX3_readHedge_118
            · rw [if_neg (b2i_f hc)] at hF
              refine r_iconst C (v := 0) rfl dX3_readHedge_99 ?_
              cases hF
              exact r_zreturn C false rfl dX3_readHedge_100
          · rw [if_neg (b2i_f hc)] at hF
            refine r_iconst C (v := 0) rfl dX3_readHedge_81 ?_
            cases hF
            exact r_zreturn C false rfl dX3_readHedge_82
        · rw [if_neg (b2i_f hc)] at hF
          refine r_iconst C (v := 0) rfl dX3_readHedge_63 ?_
          cases hF
          exact r_zreturn C false rfl dX3_readHedge_64
      · rw [if_neg (b2i_f hc)] at hF
        refine r_iconst C (v := 0) rfl dX3_readHedge_46 ?_
        cases hF
        exact r_zreturn C false rfl dX3_readHedge_47
    · rw [if_neg (b2i_f hc)] at hF
      refine r_iconst C (v := 0) rfl dX3_readHedge_29 ?_
      cases hF
      exact r_zreturn C false rfl dX3_readHedge_30
  · rw [if_neg (b2i_f hc)] at hF
    refine r_aload_n C (k := 0) rfl rfl dX3_readHedge_13 ?_
    refine r_iconst C (v := 1) rfl dX3_readHedge_14 ?_
    obtain ⟨v29, g30, hg30, hF⟩ := lt2_e hF
    obtain ⟨S31, eS31, hF⟩ := lt_e hF
    refine r_callV C (d' := 0) [.int 1] (c_X9_refuse hW (congrFun (congrFun (show (S3, Ω.2).1 = S3 from rfl) 11) 4) 1 hg30 (congrArg (fun z => (z, Ω.2)) eS31)) myX9_refuse wm3_133 ⟨_, _, _, _, (hW.ok k5), rfl, rfl, rfl, rfl⟩ rfl (kR rfl) (by decide) (kR rfl) rfl dX3_readHedge_15 ?_
    cases hF
    exact r_zreturn C _ rfl dX3_readHedge_18
theorem dX3_readMessage_0 : decode cX3_readMessage 0 = .ok (.aload_n 0, 1) := by decide +kernel
theorem dX3_readMessage_1 : decode cX3_readMessage 1 = .ok (.iconst 0, 1) := by decide +kernel
theorem dX3_readMessage_2 : decode cX3_readMessage 2 = .ok (.iconst 1, 1) := by decide +kernel
theorem dX3_readMessage_3 : decode cX3_readMessage 3 = .ok (.invokevirtual 40, 3) := by decide +kernel
theorem dX3_readMessage_6 : decode cX3_readMessage 6 = .ok (.ifCond .ne 5, 3) := by decide +kernel
theorem dX3_readMessage_9 : decode cX3_readMessage 9 = .ok (.iconst 0, 1) := by decide +kernel
theorem dX3_readMessage_10 : decode cX3_readMessage 10 = .ok (.ireturn, 1) := by decide +kernel
theorem dX3_readMessage_11 : decode cX3_readMessage 11 = .ok (.aload_n 0, 1) := by decide +kernel
theorem dX3_readMessage_12 : decode cX3_readMessage 12 = .ok (.getfield 44, 3) := by decide +kernel
theorem dX3_readMessage_15 : decode cX3_readMessage 15 = .ok (.istore_n 2, 1) := by decide +kernel
theorem dX3_readMessage_16 : decode cX3_readMessage 16 = .ok (.aload_n 0, 1) := by decide +kernel
theorem dX3_readMessage_17 : decode cX3_readMessage 17 = .ok (.invokevirtual 103, 3) := by decide +kernel
theorem dX3_readMessage_20 : decode cX3_readMessage 20 = .ok (.ifCond .ne 5, 3) := by decide +kernel
theorem dX3_readMessage_23 : decode cX3_readMessage 23 = .ok (.iconst 0, 1) := by decide +kernel
theorem dX3_readMessage_24 : decode cX3_readMessage 24 = .ok (.ireturn, 1) := by decide +kernel
theorem dX3_readMessage_25 : decode cX3_readMessage 25 = .ok (.aload_n 1, 1) := by decide +kernel
theorem dX3_readMessage_26 : decode cX3_readMessage 26 = .ok (.iload_n 2, 1) := by decide +kernel
theorem dX3_readMessage_27 : decode cX3_readMessage 27 = .ok (.invokevirtual 106, 3) := by decide +kernel
theorem dX3_readMessage_30 : decode cX3_readMessage 30 = .ok (.ifCond .ne 9, 3) := by decide +kernel
theorem dX3_readMessage_33 : decode cX3_readMessage 33 = .ok (.aload_n 0, 1) := by decide +kernel
theorem dX3_readMessage_34 : decode cX3_readMessage 34 = .ok (.iconst 4, 1) := by decide +kernel
theorem dX3_readMessage_35 : decode cX3_readMessage 35 = .ok (.invokevirtual 36, 3) := by decide +kernel
theorem dX3_readMessage_38 : decode cX3_readMessage 38 = .ok (.ireturn, 1) := by decide +kernel
theorem dX3_readMessage_39 : decode cX3_readMessage 39 = .ok (.aload_n 1, 1) := by decide +kernel
theorem dX3_readMessage_40 : decode cX3_readMessage 40 = .ok (.iload_n 2, 1) := by decide +kernel
theorem dX3_readMessage_41 : decode cX3_readMessage 41 = .ok (.aload_n 0, 1) := by decide +kernel
theorem dX3_readMessage_42 : decode cX3_readMessage 42 = .ok (.getfield 109, 3) := by decide +kernel
theorem dX3_readMessage_45 : decode cX3_readMessage 45 = .ok (.aload_n 0, 1) := by decide +kernel
theorem dX3_readMessage_46 : decode cX3_readMessage 46 = .ok (.getfield 112, 3) := by decide +kernel
theorem dX3_readMessage_49 : decode cX3_readMessage 49 = .ok (.aload_n 0, 1) := by decide +kernel
theorem dX3_readMessage_50 : decode cX3_readMessage 50 = .ok (.getfield 115, 3) := by decide +kernel
theorem dX3_readMessage_53 : decode cX3_readMessage 53 = .ok (.invokevirtual 118, 3) := by decide +kernel
theorem dX3_readMessage_56 : decode cX3_readMessage 56 = .ok (.aload_n 0, 1) := by decide +kernel
theorem dX3_readMessage_57 : decode cX3_readMessage 57 = .ok (.invokevirtual 54, 3) := by decide +kernel
theorem dX3_readMessage_60 : decode cX3_readMessage 60 = .ok (.ireturn, 1) := by decide +kernel
def F_X3_readMessage (N : Nat) (y1 : Nat) (S : Nat → Nat → HV) : Option (Bool × (Nat → Nat → HV)) := (ob (F_X9_readNumber N 0 1 (S 11 4)) fun v1 g2 => (lt (up S 11 (up (S 11) 4 g2)) fun S3 => (if v1 = true then (ob (F_X9_readMessageWord N (S3 11 4)) fun v4 g5 => (lt (up S3 11 (up (S3 11) 4 g5)) fun S6 => (if v4 = true then (if (F_X5_mayQueue ((S3 11 4).1 6) (S6 y1)) = true then (lt (F_X5_receive ((S3 11 4).1 6) ((S6 11 4).2 0) 800 ((S6 11 4).1 4) ((S6 11 4).1 5) (S6 y1)) fun g8 => (lt (up S6 y1 g8) fun S9 => (ob (F_X9_readSemicolon N (S9 11 4)) fun v10 g11 => (lt (up S9 11 (up (S9 11) 4 g11)) fun S12 => some (v10, S12))))) else (lt2 (F_X9_refuse 4 (S6 11 4)) fun v13 g14 => (lt (up S6 11 (up (S6 11) 4 g14)) fun S15 => some (v13, S15)))) else some (false, S6)))) else some (false, S3))))
theorem c_X3_readMessage {w : WP} (hW : gW w) {Ω : OM}  {S : Nat → Nat → HV} (e : Ω.1 = S) (N : Nat) (y1 : Nat) (hy1 : y1 ≤ 10) {v : Bool} {S' : Nat → Nat → HV} (hF : F_X3_readMessage N y1 S = some (v, S')) {Ω' : OM} (e2 : (S', Ω.2) = Ω') : gM w 4 yX3_readMessage cX3_readMessage 3 (some .boolean) [.ref (wAd w (5, 11, 4, 0)), .ref (wAd w (0, y1, 0, 0))] (cA w Ω) (some (.int (b2i v))) (cA w Ω') := by
  refine gM_of "HedgeMessages$Configuration" rfl (by decide) (kR rfl) fun X C => ?_
  unfold F_X3_readMessage at hF
  subst e2
  show gV w X _ _ 0 [(0, .ref (wAd w (5, 11, 4, 0))), (1, .ref (wAd w (0, y1, 0, 0)))] []
  refine r_ct (ct' := cA w (S, Ω.2)) (by rw [← e]) ?_
  refine r_aload_n C (k := 0) rfl rfl dX3_readMessage_0 ?_
  refine r_iconst C (v := 0) rfl dX3_readMessage_1 ?_
  refine r_iconst C (v := 1) rfl dX3_readMessage_2 ?_
  obtain ⟨v1, g2, hg2, hF⟩ := ob_e hF
  obtain ⟨S3, eS3, hF⟩ := lt_e hF
  refine r_callV C (d' := 2) [.int 0, .int 1] (c_X9_readNumber hW (congrFun (congrFun (show (S, Ω.2).1 = S from rfl) 11) 4) N 0 1 hg2 (congrArg (fun z => (z, Ω.2)) eS3)) myX9_readNumber wm3_137 ⟨_, _, _, _, (hW.ok k5), rfl, rfl, rfl, rfl⟩ rfl (kR rfl) (by decide) (kR rfl) rfl dX3_readMessage_3 ?_
  refine r_if_ne C (tgt := 11) rfl dX3_readMessage_6 (fun hc => ?_) (fun hc => ?_)
  · rw [if_pos (b2i_t hc)] at hF
    refine r_aload_n C (k := 0) rfl rfl dX3_readMessage_11 ?_
    refine ogN_5_6 C (hW.ok k5) (congrFun (congrFun (show (S3, Ω.2).1 = S3 from rfl) 11) 4) wm2_6 dX3_readMessage_12 ?_
    refine r_istore_n C (lo' := [(2, .int ((S3 11 4).1 6)), (0, .ref (wAd w (5, 11, 4, 0))), (1, .ref (wAd w (0, y1, 0, 0)))]) rfl (by decide) rfl dX3_readMessage_15 ?_
    refine r_aload_n C (k := 1) rfl rfl dX3_readMessage_16 ?_
    obtain ⟨v4, g5, hg5, hF⟩ := ob_e hF
    obtain ⟨S6, eS6, hF⟩ := lt_e hF
    refine r_callV C (d' := 2) [] (c_X9_readMessageWord hW (congrFun (congrFun (show (S3, Ω.2).1 = S3 from rfl) 11) 4) N hg5 (congrArg (fun z => (z, Ω.2)) eS6)) myX9_readMessageWord wm3_183 ⟨_, _, _, _, (hW.ok k5), rfl, rfl, rfl, rfl⟩ rfl (kR rfl) (by decide) (kR rfl) rfl dX3_readMessage_17 ?_
    refine r_if_ne C (tgt := 25) rfl dX3_readMessage_20 (fun hc => ?_) (fun hc => ?_)
    · rw [if_pos (b2i_t hc)] at hF
      refine r_aload_n C (k := 2) rfl rfl dX3_readMessage_25 ?_
      refine r_iload_n C (k := 0) rfl rfl dX3_readMessage_26 ?_
      refine r_callV C (d' := 1) [.int ((S3 11 4).1 6)] (c_X5_mayQueue hW hy1 (congrFun (show (S6, Ω.2).1 = S6 from rfl) y1) ((S3 11 4).1 6) rfl) myX5_mayQueue wm3_187 ⟨_, _, _, _, (hW.ok (k0 hy1)), rfl, rfl, rfl, rfl⟩ rfl (kR rfl) (by decide) (kR rfl) rfl dX3_readMessage_27 ?_
      refine r_if_ne C (tgt := 39) rfl dX3_readMessage_30 (fun hc => ?_) (fun hc => ?_)
      · rw [if_pos (b2i_t hc)] at hF
        refine r_aload_n C (k := 2) rfl rfl dX3_readMessage_39 ?_
        refine r_iload_n C (k := 0) rfl rfl dX3_readMessage_40 ?_
        refine r_aload_n C (k := 1) rfl rfl dX3_readMessage_41 ?_
        refine ogN_5_0 C (hW.ok k5) wm1_236 dX3_readMessage_42 ?_
        refine r_aload_n C (k := 1) rfl rfl dX3_readMessage_45 ?_
        refine ogN_5_4 C (hW.ok k5) (congrFun (congrFun (show (S6, Ω.2).1 = S6 from rfl) 11) 4) wm2_3 dX3_readMessage_46 ?_
        refine r_aload_n C (k := 1) rfl rfl dX3_readMessage_49 ?_
        refine ogN_5_5 C (hW.ok k5) (congrFun (congrFun (show (S6, Ω.2).1 = S6 from rfl) 11) 4) wm2_5 dX3_readMessage_50 ?_
        obtain ⟨g8, hg8, hF⟩ := lt_e hF
        obtain ⟨S9, eS9, hF⟩ := lt_e hF
        refine r_callV C (d' := 3) [.int ((S3 11 4).1 6), .ref (wAd w (3, 11, 4, 0)), .int ((S6 11 4).1 4), .int ((S6 11 4).1 5)] (c_X5_receive hW hy1 (congrFun (show (S6, Ω.2).1 = S6 from rfl) y1) ((S3 11 4).1 6) (hW.ok (i := (3, 11, 4, 0)) q4) (hW.ok (i := (4, 11, 4, 0)) q4) (show rlen 4 0 = 800 from rfl) (by decide) (congrArg (fun z => z.2 0) (congrFun (congrFun (show (S6, Ω.2).1 = S6 from rfl) 11) 4)) ((S6 11 4).1 4) ((S6 11 4).1 5) hg8 (congrArg (fun z => (z, Ω.2)) eS9)) myX5_receive wm3_191 ⟨_, _, _, _, (hW.ok (k0 hy1)), rfl, rfl, rfl, rfl⟩ rfl (kR rfl) (by decide) (kR rfl) rfl dX3_readMessage_53 ?_
        refine r_aload_n C (k := 1) rfl rfl dX3_readMessage_56 ?_
        obtain ⟨v10, g11, hg11, hF⟩ := ob_e hF
        obtain ⟨S12, eS12, hF⟩ := lt_e hF
        refine r_callV C (d' := 2) [] (c_X9_readSemicolon hW (congrFun (congrFun (show (S9, Ω.2).1 = S9 from rfl) 11) 4) N hg11 (congrArg (fun z => (z, Ω.2)) eS12)) myX9_readSemicolon wm3_144 ⟨_, _, _, _, (hW.ok k5), rfl, rfl, rfl, rfl⟩ rfl (kR rfl) (by decide) (kR rfl) rfl dX3_readMessage_57 ?_
        cases hF
        exact r_zreturn C _ rfl dX3_readMessage_60
      · rw [if_neg (b2i_f hc)] at hF
        refine r_aload_n C (k := 1) rfl rfl dX3_readMessage_33 ?_
        refine r_iconst C (v := 4) rfl dX3_readMessage_34 ?_
        obtain ⟨v13, g14, hg14, hF⟩ := lt2_e hF
        obtain ⟨S15, eS15, hF⟩ := lt_e hF
        refine r_callV C (d' := 0) [.int 4] (c_X9_refuse hW (congrFun (congrFun (show (S6, Ω.2).1 = S6 from rfl) 11) 4) 4 hg14 (congrArg (fun z => (z, Ω.2)) eS15)) myX9_refuse wm3_133 ⟨_, _, _, _, (hW.ok k5), rfl, rfl, rfl, rfl⟩ rfl (kR rfl) (by decide) (kR rfl) rfl dX3_readMessage_35 ?_
        cases hF
        exact r_zreturn C _ rfl dX3_readMessage_38
    · rw [if_neg (b2i_f hc)] at hF
      refine r_iconst C (v := 0) rfl dX3_readMessage_23 ?_
      cases hF
      exact r_zreturn C false rfl dX3_readMessage_24
  · rw [if_neg (b2i_f hc)] at hF
    refine r_iconst C (v := 0) rfl dX3_readMessage_9 ?_
    cases hF
    exact r_zreturn C false rfl dX3_readMessage_10
theorem dX3_readNest_0 : decode cX3_readNest 0 = .ok (.aload_n 0, 1) := by decide +kernel
theorem dX3_readNest_1 : decode cX3_readNest 1 = .ok (.iconst 0, 1) := by decide +kernel
theorem dX3_readNest_2 : decode cX3_readNest 2 = .ok (.aload_n 1, 1) := by decide +kernel
theorem dX3_readNest_3 : decode cX3_readNest 3 = .ok (.getfield 72, 3) := by decide +kernel
theorem dX3_readNest_6 : decode cX3_readNest 6 = .ok (.iconst 1, 1) := by decide +kernel
theorem dX3_readNest_7 : decode cX3_readNest 7 = .ok (.isub, 1) := by decide +kernel
theorem dX3_readNest_8 : decode cX3_readNest 8 = .ok (.invokevirtual 40, 3) := by decide +kernel
theorem dX3_readNest_11 : decode cX3_readNest 11 = .ok (.ifCond .ne 5, 3) := by decide +kernel
theorem dX3_readNest_14 : decode cX3_readNest 14 = .ok (.iconst 0, 1) := by decide +kernel
theorem dX3_readNest_15 : decode cX3_readNest 15 = .ok (.ireturn, 1) := by decide +kernel
theorem dX3_readNest_16 : decode cX3_readNest 16 = .ok (.aload_n 0, 1) := by decide +kernel
theorem dX3_readNest_17 : decode cX3_readNest 17 = .ok (.getfield 44, 3) := by decide +kernel
theorem dX3_readNest_20 : decode cX3_readNest 20 = .ok (.istore_n 2, 1) := by decide +kernel
theorem dX3_readNest_21 : decode cX3_readNest 21 = .ok (.aload_n 1, 1) := by decide +kernel
theorem dX3_readNest_22 : decode cX3_readNest 22 = .ok (.getfield 85, 3) := by decide +kernel
theorem dX3_readNest_25 : decode cX3_readNest 25 = .ok (.iload_n 2, 1) := by decide +kernel
theorem dX3_readNest_26 : decode cX3_readNest 26 = .ok (.invokevirtual 89, 3) := by decide +kernel
theorem dX3_readNest_29 : decode cX3_readNest 29 = .ok (.ifCond .le 9, 3) := by decide +kernel
theorem dX3_readNest_32 : decode cX3_readNest 32 = .ok (.aload_n 0, 1) := by decide +kernel
theorem dX3_readNest_33 : decode cX3_readNest 33 = .ok (.iconst 3, 1) := by decide +kernel
theorem dX3_readNest_34 : decode cX3_readNest 34 = .ok (.invokevirtual 36, 3) := by decide +kernel
theorem dX3_readNest_37 : decode cX3_readNest 37 = .ok (.ireturn, 1) := by decide +kernel
theorem dX3_readNest_38 : decode cX3_readNest 38 = .ok (.aload_n 1, 1) := by decide +kernel
theorem dX3_readNest_39 : decode cX3_readNest 39 = .ok (.invokevirtual 95, 3) := by decide +kernel
theorem dX3_readNest_42 : decode cX3_readNest 42 = .ok (.bipush 6, 2) := by decide +kernel
theorem dX3_readNest_44 : decode cX3_readNest 44 = .ok (.if_icmp .lt 9, 3) := by decide +kernel
theorem dX3_readNest_47 : decode cX3_readNest 47 = .ok (.aload_n 0, 1) := by decide +kernel
theorem dX3_readNest_48 : decode cX3_readNest 48 = .ok (.iconst 4, 1) := by decide +kernel
theorem dX3_readNest_49 : decode cX3_readNest 49 = .ok (.invokevirtual 36, 3) := by decide +kernel
theorem dX3_readNest_52 : decode cX3_readNest 52 = .ok (.ireturn, 1) := by decide +kernel
theorem dX3_readNest_53 : decode cX3_readNest 53 = .ok (.aload_n 0, 1) := by decide +kernel
theorem dX3_readNest_54 : decode cX3_readNest 54 = .ok (.iconst 1, 1) := by decide +kernel
theorem dX3_readNest_55 : decode cX3_readNest 55 = .ok (.bipush 30, 2) := by decide +kernel
theorem dX3_readNest_57 : decode cX3_readNest 57 = .ok (.invokevirtual 40, 3) := by decide +kernel
theorem dX3_readNest_60 : decode cX3_readNest 60 = .ok (.ifCond .ne 5, 3) := by decide +kernel
theorem dX3_readNest_63 : decode cX3_readNest 63 = .ok (.iconst 0, 1) := by decide +kernel
theorem dX3_readNest_64 : decode cX3_readNest 64 = .ok (.ireturn, 1) := by decide +kernel
theorem dX3_readNest_65 : decode cX3_readNest 65 = .ok (.aload_n 1, 1) := by decide +kernel
theorem dX3_readNest_66 : decode cX3_readNest 66 = .ok (.iload_n 2, 1) := by decide +kernel
theorem dX3_readNest_67 : decode cX3_readNest 67 = .ok (.aload_n 0, 1) := by decide +kernel
theorem dX3_readNest_68 : decode cX3_readNest 68 = .ok (.getfield 44, 3) := by decide +kernel
theorem dX3_readNest_71 : decode cX3_readNest 71 = .ok (.invokevirtual 99, 3) := by decide +kernel
theorem dX3_readNest_74 : decode cX3_readNest 74 = .ok (.aload_n 0, 1) := by decide +kernel
theorem dX3_readNest_75 : decode cX3_readNest 75 = .ok (.invokevirtual 54, 3) := by decide +kernel
theorem dX3_readNest_78 : decode cX3_readNest 78 = .ok (.ireturn, 1) := by decide +kernel
def F_X3_readNest (N : Nat) (y1 : Nat) (S : Nat → Nat → HV) : Option (Bool × (Nat → Nat → HV)) := (ob (F_X9_readNumber N 0 (((S y1 0).1 0) - 1) (S 11 4)) fun v1 g2 => (lt (up S 11 (up (S 11) 4 g2)) fun S3 => (if v1 = true then (if (rget 40 ((S3 y1 0).2 3) ((S3 11 4).1 6)) ≤ 0 then (ob1 (F_X5_countNests N (S3 y1)) fun v4 => (if v4 < 6 then (ob (F_X9_readNumber N 1 30 (S3 11 4)) fun v5 g6 => (lt (up S3 11 (up (S3 11) 4 g6)) fun S7 => (if v5 = true then (lt (F_X5_placeNest ((S3 11 4).1 6) ((S7 11 4).1 6) (S7 y1)) fun g9 => (lt (up S7 y1 g9) fun S10 => (ob (F_X9_readSemicolon N (S10 11 4)) fun v11 g12 => (lt (up S10 11 (up (S10 11) 4 g12)) fun S13 => some (v11, S13))))) else some (false, S7)))) else (lt2 (F_X9_refuse 4 (S3 11 4)) fun v14 g15 => (lt (up S3 11 (up (S3 11) 4 g15)) fun S16 => some (v14, S16))))) else (lt2 (F_X9_refuse 3 (S3 11 4)) fun v17 g18 => (lt (up S3 11 (up (S3 11) 4 g18)) fun S19 => some (v17, S19)))) else some (false, S3))))
theorem c_X3_readNest {w : WP} (hW : gW w) {Ω : OM}  {S : Nat → Nat → HV} (e : Ω.1 = S) (N : Nat) (y1 : Nat) (hy1 : y1 ≤ 10) {v : Bool} {S' : Nat → Nat → HV} (hF : F_X3_readNest N y1 S = some (v, S')) {Ω' : OM} (e2 : (S', Ω.2) = Ω') : gM w 3 yX3_readNest cX3_readNest 3 (some .boolean) [.ref (wAd w (5, 11, 4, 0)), .ref (wAd w (0, y1, 0, 0))] (cA w Ω) (some (.int (b2i v))) (cA w Ω') := by
  refine gM_of "HedgeMessages$Configuration" rfl (by decide) (kR rfl) fun X C => ?_
  unfold F_X3_readNest at hF
  subst e2
  show gV w X _ _ 0 [(0, .ref (wAd w (5, 11, 4, 0))), (1, .ref (wAd w (0, y1, 0, 0)))] []
  refine r_ct (ct' := cA w (S, Ω.2)) (by rw [← e]) ?_
  refine r_aload_n C (k := 0) rfl rfl dX3_readNest_0 ?_
  refine r_iconst C (v := 0) rfl dX3_readNest_1 ?_
  refine r_aload_n C (k := 1) rfl rfl dX3_readNest_2 ?_
  refine ogN_0_0 C (hW.ok (k0 hy1)) (congrFun (congrFun (show (S, Ω.2).1 = S from rfl) y1) 0) wm1_135 dX3_readNest_3 ?_
  refine r_iconst C (v := 1) rfl dX3_readNest_6 ?_
  refine r_isub C dX3_readNest_7 ?_
  obtain ⟨v1, g2, hg2, hF⟩ := ob_e hF
  obtain ⟨S3, eS3, hF⟩ := lt_e hF
  refine r_callV C (d' := 2) [.int 0, .int (((S y1 0).1 0) - 1)] (c_X9_readNumber hW (congrFun (congrFun (show (S, Ω.2).1 = S from rfl) 11) 4) N 0 (((S y1 0).1 0) - 1) hg2 (congrArg (fun z => (z, Ω.2)) eS3)) myX9_readNumber wm3_137 ⟨_, _, _, _, (hW.ok k5), rfl, rfl, rfl, rfl⟩ rfl (kR rfl) (by decide) (kR rfl) rfl dX3_readNest_8 ?_
  refine r_if_ne C (tgt := 16) rfl dX3_readNest_11 (fun hc => ?_) (fun hc => ?_)
  · rw [if_pos (b2i_t hc)] at hF
    refine r_aload_n C (k := 0) rfl rfl dX3_readNest_16 ?_
    refine ogN_5_6 C (hW.ok k5) (congrFun (congrFun (show (S3, Ω.2).1 = S3 from rfl) 11) 4) wm2_6 dX3_readNest_17 ?_
    refine r_istore_n C (lo' := [(2, .int ((S3 11 4).1 6)), (0, .ref (wAd w (5, 11, 4, 0))), (1, .ref (wAd w (0, y1, 0, 0)))]) rfl (by decide) rfl dX3_readNest_20 ?_
    refine r_aload_n C (k := 2) rfl rfl dX3_readNest_21 ?_
    refine ogN_0_11 C (hW.ok (k0 hy1)) wm1_153 dX3_readNest_22 ?_
    refine r_iload_n C (k := 0) rfl rfl dX3_readNest_25 ?_
    refine r_callV C (d' := 0) [.int ((S3 11 4).1 6)] (c_rget (hW.ok (i := (3, y1, 0, 3)) (q0 hy1 (kR rfl))) (hW.ok (i := (4, y1, 0, 3)) (q0 hy1 (kR rfl))) (show rlen 0 3 = 40 from rfl) (by decide) (congrArg (fun z => z.2 3) (congrFun (congrFun (show (S3, Ω.2).1 = S3 from rfl) y1) 0)) rfl) myX8_get wm3_173 ⟨_, _, _, _, (hW.ok (i := (3, y1, 0, 3)) (q0 hy1 (kR rfl))), rfl, rfl, rfl, rfl⟩ rfl (kR rfl) (by decide) (kR rfl) rfl dX3_readNest_26 ?_
    refine r_if_le C (tgt := 38) rfl dX3_readNest_29 (fun hc => ?_) (fun hc => ?_)
    · rw [if_pos hc] at hF
      refine r_aload_n C (k := 2) rfl rfl dX3_readNest_38 ?_
      obtain ⟨v4, hv4, hF⟩ := ob1_e hF
      refine r_callV C (d' := 1) [] (c_X5_countNests hW hy1 (congrFun (show (S3, Ω.2).1 = S3 from rfl) y1) N hv4) myX5_countNests wm3_174 ⟨_, _, _, _, (hW.ok (k0 hy1)), rfl, rfl, rfl, rfl⟩ rfl (kR rfl) (by decide) (kR rfl) rfl dX3_readNest_39 ?_
      refine r_bipush C (v := 6) rfl dX3_readNest_42 ?_
      refine r_icmp_lt C (tgt := 53) rfl dX3_readNest_44 (fun hc => ?_) (fun hc => ?_)
      · rw [if_pos hc] at hF
        refine r_aload_n C (k := 1) rfl rfl dX3_readNest_53 ?_
        refine r_iconst C (v := 1) rfl dX3_readNest_54 ?_
        refine r_bipush C (v := 30) rfl dX3_readNest_55 ?_
        obtain ⟨v5, g6, hg6, hF⟩ := ob_e hF
        obtain ⟨S7, eS7, hF⟩ := lt_e hF
        refine r_callV C (d' := 2) [.int 1, .int 30] (c_X9_readNumber hW (congrFun (congrFun (show (S3, Ω.2).1 = S3 from rfl) 11) 4) N 1 30 hg6 (congrArg (fun z => (z, Ω.2)) eS7)) myX9_readNumber wm3_137 ⟨_, _, _, _, (hW.ok k5), rfl, rfl, rfl, rfl⟩ rfl (kR rfl) (by decide) (kR rfl) rfl dX3_readNest_57 ?_
        refine r_if_ne C (tgt := 65) rfl dX3_readNest_60 (fun hc => ?_) (fun hc => ?_)
        · rw [if_pos (b2i_t hc)] at hF
          refine r_aload_n C (k := 2) rfl rfl dX3_readNest_65 ?_
          refine r_iload_n C (k := 0) rfl rfl dX3_readNest_66 ?_
          refine r_aload_n C (k := 1) rfl rfl dX3_readNest_67 ?_
          refine ogN_5_6 C (hW.ok k5) (congrFun (congrFun (show (S7, Ω.2).1 = S7 from rfl) 11) 4) wm2_6 dX3_readNest_68 ?_
          obtain ⟨g9, hg9, hF⟩ := lt_e hF
          obtain ⟨S10, eS10, hF⟩ := lt_e hF
          refine r_callV C (d' := 1) [.int ((S3 11 4).1 6), .int ((S7 11 4).1 6)] (c_X5_placeNest hW hy1 (congrFun (show (S7, Ω.2).1 = S7 from rfl) y1) ((S3 11 4).1 6) ((S7 11 4).1 6) hg9 (congrArg (fun z => (z, Ω.2)) eS10)) myX5_placeNest wm3_178 ⟨_, _, _, _, (hW.ok (k0 hy1)), rfl, rfl, rfl, rfl⟩ rfl (kR rfl) (by decide) (kR rfl) rfl dX3_readNest_71 ?_
          refine r_aload_n C (k := 1) rfl rfl dX3_readNest_74 ?_
          obtain ⟨v11, g12, hg12, hF⟩ := ob_e hF
          obtain ⟨S13, eS13, hF⟩ := lt_e hF
          refine r_callV C (d' := 2) [] (c_X9_readSemicolon hW (congrFun (congrFun (show (S10, Ω.2).1 = S10 from rfl) 11) 4) N hg12 (congrArg (fun z => (z, Ω.2)) eS13)) myX9_readSemicolon wm3_144 ⟨_, _, _, _, (hW.ok k5), rfl, rfl, rfl, rfl⟩ rfl (kR rfl) (by decide) (kR rfl) rfl dX3_readNest_75 ?_
          cases hF
          exact r_zreturn C _ rfl dX3_readNest_78
        · rw [if_neg (b2i_f hc)] at hF
          refine r_iconst C (v := 0) rfl dX3_readNest_63 ?_
          cases hF
          exact r_zreturn C false rfl dX3_readNest_64
      · rw [if_neg hc] at hF
        refine r_aload_n C (k := 1) rfl rfl dX3_readNest_47 ?_
        refine r_iconst C (v := 4) rfl dX3_readNest_48 ?_
        obtain ⟨v14, g15, hg15, hF⟩ := lt2_e hF
        obtain ⟨S16, eS16, hF⟩ := lt_e hF
        refine r_callV C (d' := 0) [.int 4] (c_X9_refuse hW (congrFun (congrFun (show (S3, Ω.2).1 = S3 from rfl) 11) 4) 4 hg15 (congrArg (fun z => (z, Ω.2)) eS16)) myX9_refuse wm3_133 ⟨_, _, _, _, (hW.ok k5), rfl, rfl, rfl, rfl⟩ rfl (kR rfl) (by decide) (kR rfl) rfl dX3_readNest_49 ?_
        cases hF
        exact r_zreturn C _ rfl dX3_readNest_52
    · rw [if_neg hc] at hF
      refine r_aload_n C (k := 1) rfl rfl dX3_readNest_32 ?_
      refine r_iconst C (v := 3) rfl dX3_readNest_33 ?_
      obtain ⟨v17, g18, hg18, hF⟩ := lt2_e hF
      obtain ⟨S19, eS19, hF⟩ := lt_e hF
      refine r_callV C (d' := 0) [.int 3] (c_X9_refuse hW (congrFun (congrFun (show (S3, Ω.2).1 = S3 from rfl) 11) 4) 3 hg18 (congrArg (fun z => (z, Ω.2)) eS19)) myX9_refuse wm3_133 ⟨_, _, _, _, (hW.ok k5), rfl, rfl, rfl, rfl⟩ rfl (kR rfl) (by decide) (kR rfl) rfl dX3_readNest_34 ?_
      cases hF
      exact r_zreturn C _ rfl dX3_readNest_37
  · rw [if_neg (b2i_f hc)] at hF
    refine r_iconst C (v := 0) rfl dX3_readNest_14 ?_
    cases hF
    exact r_zreturn C false rfl dX3_readNest_15
theorem dX3_readTwig_0 : decode cX3_readTwig 0 = .ok (.aload_n 0, 1) := by decide +kernel
theorem dX3_readTwig_1 : decode cX3_readTwig 1 = .ok (.iconst 0, 1) := by decide +kernel
theorem dX3_readTwig_2 : decode cX3_readTwig 2 = .ok (.aload_n 1, 1) := by decide +kernel
theorem dX3_readTwig_3 : decode cX3_readTwig 3 = .ok (.getfield 72, 3) := by decide +kernel
theorem dX3_readTwig_6 : decode cX3_readTwig 6 = .ok (.iconst 1, 1) := by decide +kernel
theorem dX3_readTwig_7 : decode cX3_readTwig 7 = .ok (.isub, 1) := by decide +kernel
theorem dX3_readTwig_8 : decode cX3_readTwig 8 = .ok (.invokevirtual 40, 3) := by decide +kernel
theorem dX3_readTwig_11 : decode cX3_readTwig 11 = .ok (.ifCond .ne 5, 3) := by decide +kernel
theorem dX3_readTwig_14 : decode cX3_readTwig 14 = .ok (.iconst 0, 1) := by decide +kernel
theorem dX3_readTwig_15 : decode cX3_readTwig 15 = .ok (.ireturn, 1) := by decide +kernel
theorem dX3_readTwig_16 : decode cX3_readTwig 16 = .ok (.aload_n 0, 1) := by decide +kernel
theorem dX3_readTwig_17 : decode cX3_readTwig 17 = .ok (.getfield 44, 3) := by decide +kernel
theorem dX3_readTwig_20 : decode cX3_readTwig 20 = .ok (.istore_n 2, 1) := by decide +kernel
theorem dX3_readTwig_21 : decode cX3_readTwig 21 = .ok (.aload_n 1, 1) := by decide +kernel
theorem dX3_readTwig_22 : decode cX3_readTwig 22 = .ok (.iload_n 2, 1) := by decide +kernel
theorem dX3_readTwig_23 : decode cX3_readTwig 23 = .ok (.invokevirtual 75, 3) := by decide +kernel
theorem dX3_readTwig_26 : decode cX3_readTwig 26 = .ok (.ifCond .eq 9, 3) := by decide +kernel
theorem dX3_readTwig_29 : decode cX3_readTwig 29 = .ok (.aload_n 0, 1) := by decide +kernel
theorem dX3_readTwig_30 : decode cX3_readTwig 30 = .ok (.iconst 3, 1) := by decide +kernel
theorem dX3_readTwig_31 : decode cX3_readTwig 31 = .ok (.invokevirtual 36, 3) := by decide +kernel
theorem dX3_readTwig_34 : decode cX3_readTwig 34 = .ok (.ireturn, 1) := by decide +kernel
theorem dX3_readTwig_35 : decode cX3_readTwig 35 = .ok (.aload_n 0, 1) := by decide +kernel
theorem dX3_readTwig_36 : decode cX3_readTwig 36 = .ok (.invokevirtual 78, 3) := by decide +kernel
theorem dX3_readTwig_39 : decode cX3_readTwig 39 = .ok (.ifCond .ne 5, 3) := by decide +kernel
theorem dX3_readTwig_42 : decode cX3_readTwig 42 = .ok (.iconst 0, 1) := by decide +kernel
theorem dX3_readTwig_43 : decode cX3_readTwig 43 = .ok (.ireturn, 1) := by decide +kernel
theorem dX3_readTwig_44 : decode cX3_readTwig 44 = .ok (.aload_n 0, 1) := by decide +kernel
theorem dX3_readTwig_45 : decode cX3_readTwig 45 = .ok (.getfield 44, 3) := by decide +kernel
theorem dX3_readTwig_48 : decode cX3_readTwig 48 = .ok (.istore_n 3, 1) := by decide +kernel
theorem dX3_readTwig_49 : decode cX3_readTwig 49 = .ok (.aload_n 0, 1) := by decide +kernel
theorem dX3_readTwig_50 : decode cX3_readTwig 50 = .ok (.iconst 0, 1) := by decide +kernel
theorem dX3_readTwig_51 : decode cX3_readTwig 51 = .ok (.iconst 1, 1) := by decide +kernel
theorem dX3_readTwig_52 : decode cX3_readTwig 52 = .ok (.invokevirtual 40, 3) := by decide +kernel
theorem dX3_readTwig_55 : decode cX3_readTwig 55 = .ok (.ifCond .ne 5, 3) := by decide +kernel
theorem dX3_readTwig_58 : decode cX3_readTwig 58 = .ok (.iconst 0, 1) := by decide +kernel
theorem dX3_readTwig_59 : decode cX3_readTwig 59 = .ok (.ireturn, 1) := by decide +kernel
theorem dX3_readTwig_60 : decode cX3_readTwig 60 = .ok (.aload_n 0, 1) := by decide +kernel
theorem dX3_readTwig_61 : decode cX3_readTwig 61 = .ok (.getfield 44, 3) := by decide +kernel
theorem dX3_readTwig_64 : decode cX3_readTwig 64 = .ok (.istore 4, 2) := by decide +kernel
theorem dX3_readTwig_66 : decode cX3_readTwig 66 = .ok (.aload_n 0, 1) := by decide +kernel
theorem dX3_readTwig_67 : decode cX3_readTwig 67 = .ok (.iconst 1, 1) := by decide +kernel
theorem dX3_readTwig_68 : decode cX3_readTwig 68 = .ok (.bipush 99, 2) := by decide +kernel
theorem dX3_readTwig_70 : decode cX3_readTwig 70 = .ok (.invokevirtual 40, 3) := by decide +kernel
theorem dX3_readTwig_73 : decode cX3_readTwig 73 = .ok (.ifCond .ne 5, 3) := by decide +kernel
theorem dX3_readTwig_76 : decode cX3_readTwig 76 = .ok (.iconst 0, 1) := by decide +kernel
theorem dX3_readTwig_77 : decode cX3_readTwig 77 = .ok (.ireturn, 1) := by decide +kernel
theorem dX3_readTwig_78 : decode cX3_readTwig 78 = .ok (.aload_n 1, 1) := by decide +kernel
theorem dX3_readTwig_79 : decode cX3_readTwig 79 = .ok (.iload_n 2, 1) := by decide +kernel
theorem dX3_readTwig_80 : decode cX3_readTwig 80 = .ok (.iload_n 3, 1) := by decide +kernel
theorem dX3_readTwig_81 : decode cX3_readTwig 81 = .ok (.iload 4, 2) := by decide +kernel
theorem dX3_readTwig_83 : decode cX3_readTwig 83 = .ok (.aload_n 0, 1) := by decide +kernel
theorem dX3_readTwig_84 : decode cX3_readTwig 84 = .ok (.getfield 44, 3) := by decide +kernel
theorem dX3_readTwig_87 : decode cX3_readTwig 87 = .ok (.invokevirtual 81, 3) := by decide +kernel
theorem dX3_readTwig_90 : decode cX3_readTwig 90 = .ok (.aload_n 0, 1) := by decide +kernel
theorem dX3_readTwig_91 : decode cX3_readTwig 91 = .ok (.invokevirtual 54, 3) := by decide +kernel
theorem dX3_readTwig_94 : decode cX3_readTwig 94 = .ok (.ireturn, 1) := by decide +kernel
def F_X3_readTwig (N : Nat) (y1 : Nat) (S : Nat → Nat → HV) : Option (Bool × (Nat → Nat → HV)) := (ob (F_X9_readNumber N 0 (((S y1 0).1 0) - 1) (S 11 4)) fun v1 g2 => (lt (up S 11 (up (S 11) 4 g2)) fun S3 => (if v1 = true then (if (F_X5_hasTwig ((S3 11 4).1 6) (S3 y1)) = true then (lt2 (F_X9_refuse 3 (S3 11 4)) fun v19 g20 => (lt (up S3 11 (up (S3 11) 4 g20)) fun S21 => some (v19, S21))) else (ob (F_X9_readLetter N (S3 11 4)) fun v4 g5 => (lt (up S3 11 (up (S3 11) 4 g5)) fun S6 => (if v4 = true then (ob (F_X9_readNumber N 0 1 (S6 11 4)) fun v7 g8 => (lt (up S6 11 (up (S6 11) 4 g8)) fun S9 => (if v7 = true then (ob (F_X9_readNumber N 1 99 (S9 11 4)) fun v10 g11 => (lt (up S9 11 (up (S9 11) 4 g11)) fun S12 => (if v10 = true then (lt (F_X5_placeTwig ((S3 11 4).1 6) ((S6 11 4).1 6) ((S9 11 4).1 6) ((S12 11 4).1 6) (S12 y1)) fun g14 => (lt (up S12 y1 g14) fun S15 => (ob (F_X9_readSemicolon N (S15 11 4)) fun v16 g17 => (lt (up S15 11 (up (S15 11) 4 g17)) fun S18 => some (v16, S18))))) else some (false, S12)))) else some (false, S9)))) else some (false, S6))))) else some (false, S3))))
theorem c_X3_readTwig {w : WP} (hW : gW w) {Ω : OM}  {S : Nat → Nat → HV} (e : Ω.1 = S) (N : Nat) (y1 : Nat) (hy1 : y1 ≤ 10) {v : Bool} {S' : Nat → Nat → HV} (hF : F_X3_readTwig N y1 S = some (v, S')) {Ω' : OM} (e2 : (S', Ω.2) = Ω') : gM w 3 yX3_readTwig cX3_readTwig 5 (some .boolean) [.ref (wAd w (5, 11, 4, 0)), .ref (wAd w (0, y1, 0, 0))] (cA w Ω) (some (.int (b2i v))) (cA w Ω') := by
  refine gM_of "HedgeMessages$Configuration" rfl (by decide) (kR rfl) fun X C => ?_
  unfold F_X3_readTwig at hF
  subst e2
  show gV w X _ _ 0 [(0, .ref (wAd w (5, 11, 4, 0))), (1, .ref (wAd w (0, y1, 0, 0)))] []
  refine r_ct (ct' := cA w (S, Ω.2)) (by rw [← e]) ?_
  refine r_aload_n C (k := 0) rfl rfl dX3_readTwig_0 ?_
  refine r_iconst C (v := 0) rfl dX3_readTwig_1 ?_
  refine r_aload_n C (k := 1) rfl rfl dX3_readTwig_2 ?_
  refine ogN_0_0 C (hW.ok (k0 hy1)) (congrFun (congrFun (show (S, Ω.2).1 = S from rfl) y1) 0) wm1_135 dX3_readTwig_3 ?_
  refine r_iconst C (v := 1) rfl dX3_readTwig_6 ?_
  refine r_isub C dX3_readTwig_7 ?_
  obtain ⟨v1, g2, hg2, hF⟩ := ob_e hF
  obtain ⟨S3, eS3, hF⟩ := lt_e hF
  refine r_callV C (d' := 2) [.int 0, .int (((S y1 0).1 0) - 1)] (c_X9_readNumber hW (congrFun (congrFun (show (S, Ω.2).1 = S from rfl) 11) 4) N 0 (((S y1 0).1 0) - 1) hg2 (congrArg (fun z => (z, Ω.2)) eS3)) myX9_readNumber wm3_137 ⟨_, _, _, _, (hW.ok k5), rfl, rfl, rfl, rfl⟩ rfl (kR rfl) (by decide) (kR rfl) rfl dX3_readTwig_8 ?_
  refine r_if_ne C (tgt := 16) rfl dX3_readTwig_11 (fun hc => ?_) (fun hc => ?_)
  · rw [if_pos (b2i_t hc)] at hF
    refine r_aload_n C (k := 0) rfl rfl dX3_readTwig_16 ?_
    refine ogN_5_6 C (hW.ok k5) (congrFun (congrFun (show (S3, Ω.2).1 = S3 from rfl) 11) 4) wm2_6 dX3_readTwig_17 ?_
    refine r_istore_n C (lo' := [(2, .int ((S3 11 4).1 6)), (0, .ref (wAd w (5, 11, 4, 0))), (1, .ref (wAd w (0, y1, 0, 0)))]) rfl (by decide) rfl dX3_readTwig_20 ?_
    refine r_aload_n C (k := 2) rfl rfl dX3_readTwig_21 ?_
    refine r_iload_n C (k := 0) rfl rfl dX3_readTwig_22 ?_
    refine r_callV C (d' := 1) [.int ((S3 11 4).1 6)] (c_X5_hasTwig hW hy1 (congrFun (show (S3, Ω.2).1 = S3 from rfl) y1) ((S3 11 4).1 6) rfl) myX5_hasTwig wm3_159 ⟨_, _, _, _, (hW.ok (k0 hy1)), rfl, rfl, rfl, rfl⟩ rfl (kR rfl) (by decide) (kR rfl) rfl dX3_readTwig_23 ?_
    refine r_if_eq C (tgt := 35) rfl dX3_readTwig_26 (fun hc => ?_) (fun hc => ?_)
    · rw [if_neg (b2i_f hc)] at hF
      refine r_aload_n C (k := 1) rfl rfl dX3_readTwig_35 ?_
      obtain ⟨v4, g5, hg5, hF⟩ := ob_e hF
      obtain ⟨S6, eS6, hF⟩ := lt_e hF
      refine r_callV C (d' := 2) [] (c_X9_readLetter hW (congrFun (congrFun (show (S3, Ω.2).1 = S3 from rfl) 11) 4) N hg5 (congrArg (fun z => (z, Ω.2)) eS6)) myX9_readLetter wm3_164 ⟨_, _, _, _, (hW.ok k5), rfl, rfl, rfl, rfl⟩ rfl (kR rfl) (by decide) (kR rfl) rfl dX3_readTwig_36 ?_
      refine r_if_ne C (tgt := 44) rfl dX3_readTwig_39 (fun hc => ?_) (fun hc => ?_)
      · rw [if_pos (b2i_t hc)] at hF
        refine r_aload_n C (k := 1) rfl rfl dX3_readTwig_44 ?_
        refine ogN_5_6 C (hW.ok k5) (congrFun (congrFun (show (S6, Ω.2).1 = S6 from rfl) 11) 4) wm2_6 dX3_readTwig_45 ?_
        refine r_istore_n C (lo' := [(3, .int ((S6 11 4).1 6)), (2, .int ((S3 11 4).1 6)), (0, .ref (wAd w (5, 11, 4, 0))), (1, .ref (wAd w (0, y1, 0, 0)))]) rfl (by decide) rfl dX3_readTwig_48 ?_
        refine r_aload_n C (k := 2) rfl rfl dX3_readTwig_49 ?_
        refine r_iconst C (v := 0) rfl dX3_readTwig_50 ?_
        refine r_iconst C (v := 1) rfl dX3_readTwig_51 ?_
        obtain ⟨v7, g8, hg8, hF⟩ := ob_e hF
        obtain ⟨S9, eS9, hF⟩ := lt_e hF
        refine r_callV C (d' := 2) [.int 0, .int 1] (c_X9_readNumber hW (congrFun (congrFun (show (S6, Ω.2).1 = S6 from rfl) 11) 4) N 0 1 hg8 (congrArg (fun z => (z, Ω.2)) eS9)) myX9_readNumber wm3_137 ⟨_, _, _, _, (hW.ok k5), rfl, rfl, rfl, rfl⟩ rfl (kR rfl) (by decide) (kR rfl) rfl dX3_readTwig_52 ?_
        refine r_if_ne C (tgt := 60) rfl dX3_readTwig_55 (fun hc => ?_) (fun hc => ?_)
        · rw [if_pos (b2i_t hc)] at hF
          refine r_aload_n C (k := 2) rfl rfl dX3_readTwig_60 ?_
          refine ogN_5_6 C (hW.ok k5) (congrFun (congrFun (show (S9, Ω.2).1 = S9 from rfl) 11) 4) wm2_6 dX3_readTwig_61 ?_
          refine r_istore C (lo' := [(4, .int ((S9 11 4).1 6)), (3, .int ((S6 11 4).1 6)), (2, .int ((S3 11 4).1 6)), (0, .ref (wAd w (5, 11, 4, 0))), (1, .ref (wAd w (0, y1, 0, 0)))]) (by decide) rfl dX3_readTwig_64 ?_
          refine r_aload_n C (k := 3) rfl rfl dX3_readTwig_66 ?_
          refine r_iconst C (v := 1) rfl dX3_readTwig_67 ?_
          refine r_bipush C (v := 99) rfl dX3_readTwig_68 ?_
          obtain ⟨v10, g11, hg11, hF⟩ := ob_e hF
          obtain ⟨S12, eS12, hF⟩ := lt_e hF
          refine r_callV C (d' := 2) [.int 1, .int 99] (c_X9_readNumber hW (congrFun (congrFun (show (S9, Ω.2).1 = S9 from rfl) 11) 4) N 1 99 hg11 (congrArg (fun z => (z, Ω.2)) eS12)) myX9_readNumber wm3_137 ⟨_, _, _, _, (hW.ok k5), rfl, rfl, rfl, rfl⟩ rfl (kR rfl) (by decide) (kR rfl) rfl dX3_readTwig_70 ?_
          refine r_if_ne C (tgt := 78) rfl dX3_readTwig_73 (fun hc => ?_) (fun hc => ?_)
          · rw [if_pos (b2i_t hc)] at hF
            refine r_aload_n C (k := 4) rfl rfl dX3_readTwig_78 ?_
            refine r_iload_n C (k := 2) rfl rfl dX3_readTwig_79 ?_
            refine r_iload_n C (k := 1) rfl rfl dX3_readTwig_80 ?_
            refine r_iload C (k := 0) rfl dX3_readTwig_81 ?_
            refine r_aload_n C (k := 3) rfl rfl dX3_readTwig_83 ?_
            refine ogN_5_6 C (hW.ok k5) (congrFun (congrFun (show (S12, Ω.2).1 = S12 from rfl) 11) 4) wm2_6 dX3_readTwig_84 ?_
            obtain ⟨g14, hg14, hF⟩ := lt_e hF
            obtain ⟨S15, eS15, hF⟩ := lt_e hF
            refine r_callV C (d' := 1) [.int ((S3 11 4).1 6), .int ((S6 11 4).1 6), .int ((S9 11 4).1 6), .int ((S12 11 4).1 6)] (c_X5_placeTwig hW hy1 (congrFun (show (S12, Ω.2).1 = S12 from rfl) y1) ((S3 11 4).1 6) ((S6 11 4).1 6) ((S9 11 4).1 6) ((S12 11 4).1 6) hg14 (congrArg (fun z => (z, Ω.2)) eS15)) myX5_placeTwig wm3_168 ⟨_, _, _, _, (hW.ok (k0 hy1)), rfl, rfl, rfl, rfl⟩ rfl (kR rfl) (by decide) (kR rfl) rfl dX3_readTwig_87 ?_
            refine r_aload_n C (k := 3) rfl rfl dX3_readTwig_90 ?_
            obtain ⟨v16, g17, hg17, hF⟩ := ob_e hF
            obtain ⟨S18, eS18, hF⟩ := lt_e hF
            refine r_callV C (d' := 2) [] (c_X9_readSemicolon hW (congrFun (congrFun (show (S15, Ω.2).1 = S15 from rfl) 11) 4) N hg17 (congrArg (fun z => (z, Ω.2)) eS18)) myX9_readSemicolon wm3_144 ⟨_, _, _, _, (hW.ok k5), rfl, rfl, rfl, rfl⟩ rfl (kR rfl) (by decide) (kR rfl) rfl dX3_readTwig_91 ?_
            cases hF
            exact r_zreturn C _ rfl dX3_readTwig_94
          · rw [if_neg (b2i_f hc)] at hF
            refine r_iconst C (v := 0) rfl dX3_readTwig_76 ?_
            cases hF
            exact r_zreturn C false rfl dX3_readTwig_77
        · rw [if_neg (b2i_f hc)] at hF
          refine r_iconst C (v := 0) rfl dX3_readTwig_58 ?_
          cases hF
          exact r_zreturn C false rfl dX3_readTwig_59
      · rw [if_neg (b2i_f hc)] at hF
        refine r_iconst C (v := 0) rfl dX3_readTwig_42 ?_
        cases hF
        exact r_zreturn C false rfl dX3_readTwig_43
    · rw [if_pos (b2i_t hc)] at hF
      refine r_aload_n C (k := 1) rfl rfl dX3_readTwig_29 ?_
      refine r_iconst C (v := 3) rfl dX3_readTwig_30 ?_
      obtain ⟨v19, g20, hg20, hF⟩ := lt2_e hF
      obtain ⟨S21, eS21, hF⟩ := lt_e hF
      refine r_callV C (d' := 0) [.int 3] (c_X9_refuse hW (congrFun (congrFun (show (S3, Ω.2).1 = S3 from rfl) 11) 4) 3 hg20 (congrArg (fun z => (z, Ω.2)) eS21)) myX9_refuse wm3_133 ⟨_, _, _, _, (hW.ok k5), rfl, rfl, rfl, rfl⟩ rfl (kR rfl) (by decide) (kR rfl) rfl dX3_readTwig_31 ?_
      cases hF
      exact r_zreturn C _ rfl dX3_readTwig_34
  · rw [if_neg (b2i_f hc)] at hF
    refine r_iconst C (v := 0) rfl dX3_readTwig_14 ?_
    cases hF
    exact r_zreturn C false rfl dX3_readTwig_15
theorem dX3_readStatement_0 : decode cX3_readStatement 0 = .ok (.aload_n 0, 1) := by decide +kernel
theorem dX3_readStatement_1 : decode cX3_readStatement 1 = .ok (.ldc 57, 2) := by decide +kernel
theorem dX3_readStatement_3 : decode cX3_readStatement 3 = .ok (.invokevirtual 32, 3) := by decide +kernel
theorem dX3_readStatement_6 : decode cX3_readStatement 6 = .ok (.ifCond .eq 9, 3) := by decide +kernel
theorem dX3_readStatement_9 : decode cX3_readStatement 9 = .ok (.aload_n 0, 1) := by decide +kernel
theorem dX3_readStatement_10 : decode cX3_readStatement 10 = .ok (.aload_n 1, 1) := by decide +kernel
theorem dX3_readStatement_11 : decode cX3_readStatement 11 = .ok (.invokestatic 59, 3) := by decide +kernel
theorem dX3_readStatement_14 : decode cX3_readStatement 14 = .ok (.ireturn, 1) := by decide +kernel
theorem dX3_readStatement_15 : decode cX3_readStatement 15 = .ok (.aload_n 0, 1) := by decide +kernel
theorem dX3_readStatement_16 : decode cX3_readStatement 16 = .ok (.ldc 62, 2) := by decide +kernel
theorem dX3_readStatement_18 : decode cX3_readStatement 18 = .ok (.invokevirtual 32, 3) := by decide +kernel
theorem dX3_readStatement_21 : decode cX3_readStatement 21 = .ok (.ifCond .eq 9, 3) := by decide +kernel
theorem dX3_readStatement_24 : decode cX3_readStatement 24 = .ok (.aload_n 0, 1) := by decide +kernel
theorem dX3_readStatement_25 : decode cX3_readStatement 25 = .ok (.aload_n 1, 1) := by decide +kernel
theorem dX3_readStatement_26 : decode cX3_readStatement 26 = .ok (.invokestatic 64, 3) := by decide +kernel
theorem dX3_readStatement_29 : decode cX3_readStatement 29 = .ok (.ireturn, 1) := by decide +kernel
theorem dX3_readStatement_30 : decode cX3_readStatement 30 = .ok (.aload_n 0, 1) := by decide +kernel
theorem dX3_readStatement_31 : decode cX3_readStatement 31 = .ok (.ldc 67, 2) := by decide +kernel
theorem dX3_readStatement_33 : decode cX3_readStatement 33 = .ok (.invokevirtual 32, 3) := by decide +kernel
theorem dX3_readStatement_36 : decode cX3_readStatement 36 = .ok (.ifCond .eq 9, 3) := by decide +kernel
theorem dX3_readStatement_39 : decode cX3_readStatement 39 = .ok (.aload_n 0, 1) := by decide +kernel
theorem dX3_readStatement_40 : decode cX3_readStatement 40 = .ok (.aload_n 1, 1) := by decide +kernel
theorem dX3_readStatement_41 : decode cX3_readStatement 41 = .ok (.invokestatic 69, 3) := by decide +kernel
theorem dX3_readStatement_44 : decode cX3_readStatement 44 = .ok (.ireturn, 1) := by decide +kernel
theorem dX3_readStatement_45 : decode cX3_readStatement 45 = .ok (.aload_n 0, 1) := by decide +kernel
theorem dX3_readStatement_46 : decode cX3_readStatement 46 = .ok (.iconst 1, 1) := by decide +kernel
theorem dX3_readStatement_47 : decode cX3_readStatement 47 = .ok (.invokevirtual 36, 3) := by decide +kernel
theorem dX3_readStatement_50 : decode cX3_readStatement 50 = .ok (.ireturn, 1) := by decide +kernel
def F_X3_readStatement (N : Nat) (y1 : Nat) (S : Nat → Nat → HV) : Option (Bool × (Nat → Nat → HV)) := (ob1 (F_X9_isWord N 7 (S 11 4)) fun v1 => (if v1 = true then (ob (F_X3_readTwig N y1 S) fun v11 S12 => some (v11, S12)) else (ob1 (F_X9_isWord N 8 (S 11 4)) fun v2 => (if v2 = true then (ob (F_X3_readNest N y1 S) fun v9 S10 => some (v9, S10)) else (ob1 (F_X9_isWord N 9 (S 11 4)) fun v3 => (if v3 = true then (ob (F_X3_readMessage N y1 S) fun v7 S8 => some (v7, S8)) else (lt2 (F_X9_refuse 1 (S 11 4)) fun v4 g5 => (lt (up S 11 (up (S 11) 4 g5)) fun S6 => some (v4, S6)))))))))
theorem c_X3_readStatement {w : WP} (hW : gW w) (hS : gS w) {Ω : OM}  {S : Nat → Nat → HV} (e : Ω.1 = S) (N : Nat) (y1 : Nat) (hy1 : y1 ≤ 10) {v : Bool} {S' : Nat → Nat → HV} (hF : F_X3_readStatement N y1 S = some (v, S')) {Ω' : OM} (e2 : (S', Ω.2) = Ω') : gM w 5 yX3_readStatement cX3_readStatement 2 (some .boolean) [.ref (wAd w (5, 11, 4, 0)), .ref (wAd w (0, y1, 0, 0))] (cA w Ω) (some (.int (b2i v))) (cA w Ω') := by
  refine gM_of "HedgeMessages$Configuration" rfl (by decide) (kR rfl) fun X C => ?_
  unfold F_X3_readStatement at hF
  subst e2
  show gV w X _ _ 0 [(0, .ref (wAd w (5, 11, 4, 0))), (1, .ref (wAd w (0, y1, 0, 0)))] []
  refine r_ct (ct' := cA w (S, Ω.2)) (by rw [← e]) ?_
  refine r_aload_n C (k := 0) rfl rfl dX3_readStatement_0 ?_
  refine r_ldcS C ((hS.s C).imp fun _ _ _ h => h.2.2.1 7 (by decide)) dX3_readStatement_1 ?_
  obtain ⟨v1, hv1, hF⟩ := ob1_e hF
  refine r_callV C (d' := 4) [.ref (wAd w (15, 7, 0, 0))] (c_X9_isWord hW hS (congrFun (congrFun (show (S, Ω.2).1 = S from rfl) 11) 4) N 7 (show 7 < 32 by decide) hv1) myX9_isWord wm3_127 ⟨_, _, _, _, (hW.ok k5), rfl, rfl, rfl, rfl⟩ rfl (kR rfl) (by decide) (kR rfl) rfl dX3_readStatement_3 ?_
  refine r_if_eq C (tgt := 15) rfl dX3_readStatement_6 (fun hc => ?_) (fun hc => ?_)
  · rw [if_neg (b2i_f hc)] at hF
    refine r_aload_n C (k := 0) rfl rfl dX3_readStatement_15 ?_
    refine r_ldcS C ((hS.s C).imp fun _ _ _ h => h.2.2.1 8 (by decide)) dX3_readStatement_16 ?_
    obtain ⟨v2, hv2, hF⟩ := ob1_e hF
    refine r_callV C (d' := 4) [.ref (wAd w (15, 8, 0, 0))] (c_X9_isWord hW hS (congrFun (congrFun (show (S, Ω.2).1 = S from rfl) 11) 4) N 8 (show 8 < 32 by decide) hv2) myX9_isWord wm3_127 ⟨_, _, _, _, (hW.ok k5), rfl, rfl, rfl, rfl⟩ rfl (kR rfl) (by decide) (kR rfl) rfl dX3_readStatement_18 ?_
    refine r_if_eq C (tgt := 30) rfl dX3_readStatement_21 (fun hc => ?_) (fun hc => ?_)
    · rw [if_neg (b2i_f hc)] at hF
      refine r_aload_n C (k := 0) rfl rfl dX3_readStatement_30 ?_
      refine r_ldcS C ((hS.s C).imp fun _ _ _ h => h.2.2.1 9 (by decide)) dX3_readStatement_31 ?_
      obtain ⟨v3, hv3, hF⟩ := ob1_e hF
      refine r_callV C (d' := 4) [.ref (wAd w (15, 9, 0, 0))] (c_X9_isWord hW hS (congrFun (congrFun (show (S, Ω.2).1 = S from rfl) 11) 4) N 9 (show 9 < 32 by decide) hv3) myX9_isWord wm3_127 ⟨_, _, _, _, (hW.ok k5), rfl, rfl, rfl, rfl⟩ rfl (kR rfl) (by decide) (kR rfl) rfl dX3_readStatement_33 ?_
      refine r_if_eq C (tgt := 45) rfl dX3_readStatement_36 (fun hc => ?_) (fun hc => ?_)
      · rw [if_neg (b2i_f hc)] at hF
        refine r_aload_n C (k := 0) rfl rfl dX3_readStatement_45 ?_
        refine r_iconst C (v := 1) rfl dX3_readStatement_46 ?_
        obtain ⟨v4, g5, hg5, hF⟩ := lt2_e hF
        obtain ⟨S6, eS6, hF⟩ := lt_e hF
        refine r_callV C (d' := 0) [.int 1] (c_X9_refuse hW (congrFun (congrFun (show (S, Ω.2).1 = S from rfl) 11) 4) 1 hg5 (congrArg (fun z => (z, Ω.2)) eS6)) myX9_refuse wm3_133 ⟨_, _, _, _, (hW.ok k5), rfl, rfl, rfl, rfl⟩ rfl (kR rfl) (by decide) (kR rfl) rfl dX3_readStatement_47 ?_
        cases hF
        exact r_zreturn C _ rfl dX3_readStatement_50
      · rw [if_pos (b2i_t hc)] at hF
        refine r_aload_n C (k := 0) rfl rfl dX3_readStatement_39 ?_
        refine r_aload_n C (k := 1) rfl rfl dX3_readStatement_40 ?_
        obtain ⟨v7, S8, hS8, hF⟩ := ob_e hF
        refine r_callS C (d' := 4) [.ref (wAd w (5, 11, 4, 0)), .ref (wAd w (0, y1, 0, 0))] (c_X3_readMessage hW (show (S, Ω.2).1 = S from rfl) N y1 hy1 hS8 rfl) myX3_readMessage wm3_180 rfl (kR rfl) (by decide) (kR rfl) rfl dX3_readStatement_41 ?_
        cases hF
        exact r_zreturn C _ rfl dX3_readStatement_44
    · rw [if_pos (b2i_t hc)] at hF
      refine r_aload_n C (k := 0) rfl rfl dX3_readStatement_24 ?_
      refine r_aload_n C (k := 1) rfl rfl dX3_readStatement_25 ?_
      obtain ⟨v9, S10, hS10, hF⟩ := ob_e hF
      refine r_callS C (d' := 3) [.ref (wAd w (5, 11, 4, 0)), .ref (wAd w (0, y1, 0, 0))] (c_X3_readNest hW (show (S, Ω.2).1 = S from rfl) N y1 hy1 hS10 rfl) myX3_readNest wm3_170 rfl (kR rfl) (by decide) (kR rfl) rfl dX3_readStatement_26 ?_
      cases hF
      exact r_zreturn C _ rfl dX3_readStatement_29
  · rw [if_pos (b2i_t hc)] at hF
    refine r_aload_n C (k := 0) rfl rfl dX3_readStatement_9 ?_
    refine r_aload_n C (k := 1) rfl rfl dX3_readStatement_10 ?_
    obtain ⟨v11, S12, hS12, hF⟩ := ob_e hF
    refine r_callS C (d' := 3) [.ref (wAd w (5, 11, 4, 0)), .ref (wAd w (0, y1, 0, 0))] (c_X3_readTwig hW (show (S, Ω.2).1 = S from rfl) N y1 hy1 hS12 rfl) myX3_readTwig wm3_156 rfl (kR rfl) (by decide) (kR rfl) rfl dX3_readStatement_11 ?_
    cases hF
    exact r_zreturn C _ rfl dX3_readStatement_14
theorem dX3_read_0 : decode cX3_read 0 = .ok (.aload_n 0, 1) := by decide +kernel
theorem dX3_read_1 : decode cX3_read 1 = .ok (.invokevirtual 9, 3) := by decide +kernel
theorem dX3_read_4 : decode cX3_read 4 = .ok (.aload_n 0, 1) := by decide +kernel
theorem dX3_read_5 : decode cX3_read 5 = .ok (.aload_n 1, 1) := by decide +kernel
theorem dX3_read_6 : decode cX3_read 6 = .ok (.invokestatic 14, 3) := by decide +kernel
theorem dX3_read_9 : decode cX3_read 9 = .ok (.ifCond .ne 5, 3) := by decide +kernel
theorem dX3_read_12 : decode cX3_read 12 = .ok (.iconst 0, 1) := by decide +kernel
theorem dX3_read_13 : decode cX3_read 13 = .ok (.ireturn, 1) := by decide +kernel
theorem dX3_read_14 : decode cX3_read 14 = .ok (.iconst 0, 1) := by decide +kernel
theorem dX3_read_15 : decode cX3_read 15 = .ok (.istore_n 2, 1) := by decide +kernel
theorem dX3_read_16 : decode cX3_read 16 = .ok (.iload_n 2, 1) := by decide +kernel
theorem dX3_read_17 : decode cX3_read 17 = .ok (.sipush 800, 3) := by decide +kernel
theorem dX3_read_20 : decode cX3_read 20 = .ok (.if_icmp .gt 32, 3) := by decide +kernel
theorem dX3_read_23 : decode cX3_read 23 = .ok (.aload_n 0, 1) := by decide +kernel
theorem dX3_read_24 : decode cX3_read 24 = .ok (.invokevirtual 20, 3) := by decide +kernel
theorem dX3_read_27 : decode cX3_read 27 = .ok (.aload_n 0, 1) := by decide +kernel
theorem dX3_read_28 : decode cX3_read 28 = .ok (.invokevirtual 23, 3) := by decide +kernel
theorem dX3_read_31 : decode cX3_read 31 = .ok (.ifCond .eq 5, 3) := by decide +kernel
theorem dX3_read_34 : decode cX3_read 34 = .ok (.iconst 1, 1) := by decide +kernel
theorem dX3_read_35 : decode cX3_read 35 = .ok (.ireturn, 1) := by decide +kernel
theorem dX3_read_36 : decode cX3_read 36 = .ok (.aload_n 0, 1) := by decide +kernel
theorem dX3_read_37 : decode cX3_read 37 = .ok (.aload_n 1, 1) := by decide +kernel
theorem dX3_read_38 : decode cX3_read 38 = .ok (.invokestatic 27, 3) := by decide +kernel
theorem dX3_read_41 : decode cX3_read 41 = .ok (.ifCond .ne 5, 3) := by decide +kernel
theorem dX3_read_44 : decode cX3_read 44 = .ok (.iconst 0, 1) := by decide +kernel
theorem dX3_read_45 : decode cX3_read 45 = .ok (.ireturn, 1) := by decide +kernel
theorem dX3_read_46 : decode cX3_read 46 = .ok (.iinc 2 1, 3) := by decide +kernel
theorem dX3_read_49 : decode cX3_read 49 = .ok (.goto (-33), 3) := by decide +kernel
theorem dX3_read_52 : decode cX3_read 52 = .ok (.iconst 1, 1) := by decide +kernel
theorem dX3_read_53 : decode cX3_read 53 = .ok (.ireturn, 1) := by decide +kernel
def st_X3_read_16 (N : Nat) (y1 : Nat) (l2 : Int32) (S : Nat → Nat → HV) : Option ((Int32 × (Nat → Nat → HV)) ⊕ (Bool × (Nat → Nat → HV))) := (if 800 < l2 then some (.inr (true, S)) else (ob1 (F_X9_readToken N (S 11 4)) fun g7 => (lt (up S 11 (up (S 11) 4 g7)) fun S8 => (if (F_X9_atEnd (S8 11 4)) = true then some (.inr (true, S8)) else (ob (F_X3_readStatement N y1 S8) fun v9 S10 => (if v9 = true then some (.inl ((l2 + 1), S10)) else some (.inr (false, S10))))))))
def F_X3_read (N : Nat) (y1 : Nat) (S : Nat → Nat → HV) : Option (Bool × (Nat → Nat → HV)) := (lt (F_X9_startReading (S 11 4)) fun g2 => (lt (up S 11 (up (S 11) 4 g2)) fun S3 => (ob (F_X3_readHedge N y1 S3) fun v4 S5 => (if v4 = true then (lpN N (fun z => st_X3_read_16 N y1 z.1 z.2) (0, S5)) else some (false, S5)))))
theorem lp_X3_read_16 {w : WP} (hW : gW w) (hS : gS w) {Ω : OM}  (y1 : Nat) (hy1 : y1 ≤ 10)  {N : Nat} {X : CX} (C : gC w X cX3_read "HedgeMessages$Configuration" (some .boolean) 6 3) {v : Bool} {S' : Nat → Nat → HV}  : ∀ (n : Nat) (l2 : Int32) (S : Nat → Nat → HV), lpN n (fun z : Int32 × (Nat → Nat → HV) => st_X3_read_16 N y1 z.1 z.2) (l2, S) = some (v, S') → gV w X (some (.int (b2i v)), cA w (S', Ω.2)) (cA w (S, Ω.2)) 16 [(0, .ref (wAd w (5, 11, 4, 0))), (1, .ref (wAd w (0, y1, 0, 0))), (2, .int l2)] [] := by
  intro n
  induction n with
  | zero => intro l2 S hL; exact lpN_0 hL
  | succ n ih =>
    intro l2 S hL
    obtain ⟨q9, hF, hL⟩ := lpN_e hL
    change st_X3_read_16 N y1 l2 S = some q9 at hF
    unfold st_X3_read_16 at hF
    refine r_iload_n C (k := 2) rfl rfl dX3_read_16 ?_
    refine r_sipush C (v := 800) rfl dX3_read_17 ?_
    refine r_icmp_gt C (tgt := 52) rfl dX3_read_20 (fun hc => ?_) (fun hc => ?_)
    · rw [if_pos hc] at hF
      refine r_iconst C (v := 1) rfl dX3_read_52 ?_
      cases hF
      change some _ = some _ at hL
      cases hL
      exact r_zreturn C true rfl dX3_read_53
    · rw [if_neg hc] at hF
      refine r_aload_n C (k := 0) rfl rfl dX3_read_23 ?_
      obtain ⟨g7, hg7, hF⟩ := ob1_e hF
      obtain ⟨S8, eS8, hF⟩ := lt_e hF
      refine r_callV C (d' := 1) [] (c_X9_readToken hW (congrFun (congrFun (show (S, Ω.2).1 = S from rfl) 11) 4) N hg7 (congrArg (fun z => (z, Ω.2)) eS8)) myX9_readToken wm3_112 ⟨_, _, _, _, (hW.ok k5), rfl, rfl, rfl, rfl⟩ rfl (kR rfl) (by decide) (kR rfl) rfl dX3_read_24 ?_
      refine r_aload_n C (k := 0) rfl rfl dX3_read_27 ?_
      refine r_callV C (d' := 0) [] (c_X9_atEnd hW (congrFun (congrFun (show (S8, Ω.2).1 = S8 from rfl) 11) 4) rfl) myX9_atEnd wm3_148 ⟨_, _, _, _, (hW.ok k5), rfl, rfl, rfl, rfl⟩ rfl (kR rfl) (by decide) (kR rfl) rfl dX3_read_28 ?_
      refine r_if_eq C (tgt := 36) rfl dX3_read_31 (fun hc => ?_) (fun hc => ?_)
      · rw [if_neg (b2i_f hc)] at hF
        refine r_aload_n C (k := 0) rfl rfl dX3_read_36 ?_
        refine r_aload_n C (k := 1) rfl rfl dX3_read_37 ?_
        obtain ⟨v9, S10, hS10, hF⟩ := ob_e hF
        refine r_callS C (d' := 5) [.ref (wAd w (5, 11, 4, 0)), .ref (wAd w (0, y1, 0, 0))] (c_X3_readStatement hW hS (show (S8, Ω.2).1 = S8 from rfl) N y1 hy1 hS10 rfl) myX3_readStatement wm3_152 rfl (kR rfl) (by decide) (kR rfl) rfl dX3_read_38 ?_
        refine r_if_ne C (tgt := 46) rfl dX3_read_41 (fun hc => ?_) (fun hc => ?_)
        · rw [if_pos (b2i_t hc)] at hF
          refine r_iinc C (k := 2) (v := (l2 + 1)) (lo' := [(2, .int (l2 + 1)), (0, .ref (wAd w (5, 11, 4, 0))), (1, .ref (wAd w (0, y1, 0, 0)))]) rfl rfl (by decide) rfl dX3_read_46 ?_
          refine r_goto C (tgt := 16) rfl dX3_read_49 ?_
          cases hF
          change lpN n _ _ = some _ at hL
          refine r_lo [1, 2, 0] (lo' := [(0, .ref (wAd w (5, 11, 4, 0))), (1, .ref (wAd w (0, y1, 0, 0))), (2, .int (l2 + 1))]) rfl ?_
          exact ih (l2 + 1) S10 hL
        · rw [if_neg (b2i_f hc)] at hF
          refine r_iconst C (v := 0) rfl dX3_read_44 ?_
          cases hF
          change some _ = some _ at hL
          cases hL
          exact r_zreturn C false rfl dX3_read_45
      · rw [if_pos (b2i_t hc)] at hF
        refine r_iconst C (v := 1) rfl dX3_read_34 ?_
        cases hF
        change some _ = some _ at hL
        cases hL
        exact r_zreturn C true rfl dX3_read_35
theorem c_X3_read {w : WP} (hW : gW w) (hS : gS w) {Ω : OM}  {S : Nat → Nat → HV} (e : Ω.1 = S) (N : Nat) (y1 : Nat) (hy1 : y1 ≤ 10) {v : Bool} {S' : Nat → Nat → HV} (hF : F_X3_read N y1 S = some (v, S')) {Ω' : OM} (e2 : (S', Ω.2) = Ω') : gM w 6 yX3_read cX3_read 3 (some .boolean) [.ref (wAd w (5, 11, 4, 0)), .ref (wAd w (0, y1, 0, 0))] (cA w Ω) (some (.int (b2i v))) (cA w Ω') := by
  refine gM_of "HedgeMessages$Configuration" rfl (by decide) (kR rfl) fun X C => ?_
  unfold F_X3_read at hF
  subst e2
  show gV w X _ _ 0 [(0, .ref (wAd w (5, 11, 4, 0))), (1, .ref (wAd w (0, y1, 0, 0)))] []
  refine r_ct (ct' := cA w (S, Ω.2)) (by rw [← e]) ?_
  refine r_aload_n C (k := 0) rfl rfl dX3_read_0 ?_
  obtain ⟨g2, hg2, hF⟩ := lt_e hF
  obtain ⟨S3, eS3, hF⟩ := lt_e hF
  refine r_callV C (d' := 0) [] (c_X9_startReading hW (congrFun (congrFun (show (S, Ω.2).1 = S from rfl) 11) 4) hg2 (congrArg (fun z => (z, Ω.2)) eS3)) myX9_startReading wm3_105 ⟨_, _, _, _, (hW.ok k5), rfl, rfl, rfl, rfl⟩ rfl (kR rfl) (by decide) (kR rfl) rfl dX3_read_1 ?_
  refine r_aload_n C (k := 0) rfl rfl dX3_read_4 ?_
  refine r_aload_n C (k := 1) rfl rfl dX3_read_5 ?_
  obtain ⟨v4, S5, hS5, hF⟩ := ob_e hF
  refine r_callS C (d' := 5) [.ref (wAd w (5, 11, 4, 0)), .ref (wAd w (0, y1, 0, 0))] (c_X3_readHedge hW hS (show (S3, Ω.2).1 = S3 from rfl) N y1 hy1 hS5 rfl) myX3_readHedge wm3_109 rfl (kR rfl) (by decide) (kR rfl) rfl dX3_read_6 ?_
  refine r_if_ne C (tgt := 14) rfl dX3_read_9 (fun hc => ?_) (fun hc => ?_)
  · rw [if_pos (b2i_t hc)] at hF
    refine r_iconst C (v := 0) rfl dX3_read_14 ?_
    refine r_istore_n C (lo' := [(2, .int 0), (0, .ref (wAd w (5, 11, 4, 0))), (1, .ref (wAd w (0, y1, 0, 0)))]) rfl (by decide) rfl dX3_read_15 ?_
    refine r_lo [1, 2, 0] (lo' := [(0, .ref (wAd w (5, 11, 4, 0))), (1, .ref (wAd w (0, y1, 0, 0))), (2, .int 0)]) rfl ?_
    exact lp_X3_read_16 hW hS y1 hy1 C N 0 S5 hF
  · rw [if_neg (b2i_f hc)] at hF
    refine r_iconst C (v := 0) rfl dX3_read_12 ?_
    cases hF
    exact r_zreturn C false rfl dX3_read_13
