/-! ===== 35.list: printed by wip/whole/gen.py ===== -/
theorem dX2_readArguments_0 : decode cX2_readArguments 0 = .ok (.aload_n 1, 1) := by decide +kernel
theorem dX2_readArguments_1 : decode cX2_readArguments 1 = .ok (.aload_n 2, 1) := by decide +kernel
theorem dX2_readArguments_2 : decode cX2_readArguments 2 = .ok (.getfield 74, 3) := by decide +kernel
theorem dX2_readArguments_5 : decode cX2_readArguments 5 = .ok (.aload_n 2, 1) := by decide +kernel
theorem dX2_readArguments_6 : decode cX2_readArguments 6 = .ok (.getfield 77, 3) := by decide +kernel
theorem dX2_readArguments_9 : decode cX2_readArguments 9 = .ok (.invokevirtual 80, 3) := by decide +kernel
theorem dX2_readArguments_12 : decode cX2_readArguments 12 = .ok (.ifCond .ne 5, 3) := by decide +kernel
theorem dX2_readArguments_15 : decode cX2_readArguments 15 = .ok (.iconst 0, 1) := by decide +kernel
theorem dX2_readArguments_16 : decode cX2_readArguments 16 = .ok (.ireturn, 1) := by decide +kernel
theorem dX2_readArguments_17 : decode cX2_readArguments 17 = .ok (.aload_n 0, 1) := by decide +kernel
theorem dX2_readArguments_18 : decode cX2_readArguments 18 = .ok (.getfield 22, 3) := by decide +kernel
theorem dX2_readArguments_21 : decode cX2_readArguments 21 = .ok (.iload_n 3, 1) := by decide +kernel
theorem dX2_readArguments_22 : decode cX2_readArguments 22 = .ok (.aload_n 1, 1) := by decide +kernel
theorem dX2_readArguments_23 : decode cX2_readArguments 23 = .ok (.getfield 84, 3) := by decide +kernel
theorem dX2_readArguments_26 : decode cX2_readArguments 26 = .ok (.invokevirtual 87, 3) := by decide +kernel
theorem dX2_readArguments_29 : decode cX2_readArguments 29 = .ok (.aload_n 2, 1) := by decide +kernel
theorem dX2_readArguments_30 : decode cX2_readArguments 30 = .ok (.getfield 91, 3) := by decide +kernel
theorem dX2_readArguments_33 : decode cX2_readArguments 33 = .ok (.iconst (-1), 1) := by decide +kernel
theorem dX2_readArguments_34 : decode cX2_readArguments 34 = .ok (.if_icmp .ne 5, 3) := by decide +kernel
theorem dX2_readArguments_37 : decode cX2_readArguments 37 = .ok (.iconst 1, 1) := by decide +kernel
theorem dX2_readArguments_38 : decode cX2_readArguments 38 = .ok (.ireturn, 1) := by decide +kernel
theorem dX2_readArguments_39 : decode cX2_readArguments 39 = .ok (.aload_n 2, 1) := by decide +kernel
theorem dX2_readArguments_40 : decode cX2_readArguments 40 = .ok (.getfield 91, 3) := by decide +kernel
theorem dX2_readArguments_43 : decode cX2_readArguments 43 = .ok (.bipush (-3), 2) := by decide +kernel
theorem dX2_readArguments_45 : decode cX2_readArguments 45 = .ok (.if_icmp .ne 36, 3) := by decide +kernel
theorem dX2_readArguments_48 : decode cX2_readArguments 48 = .ok (.aload_n 1, 1) := by decide +kernel
theorem dX2_readArguments_49 : decode cX2_readArguments 49 = .ok (.invokevirtual 94, 3) := by decide +kernel
theorem dX2_readArguments_52 : decode cX2_readArguments 52 = .ok (.istore 4, 2) := by decide +kernel
theorem dX2_readArguments_54 : decode cX2_readArguments 54 = .ok (.aload_n 0, 1) := by decide +kernel
theorem dX2_readArguments_55 : decode cX2_readArguments 55 = .ok (.getfield 26, 3) := by decide +kernel
theorem dX2_readArguments_58 : decode cX2_readArguments 58 = .ok (.iload_n 3, 1) := by decide +kernel
theorem dX2_readArguments_59 : decode cX2_readArguments 59 = .ok (.aload_n 1, 1) := by decide +kernel
theorem dX2_readArguments_60 : decode cX2_readArguments 60 = .ok (.getfield 97, 3) := by decide +kernel
theorem dX2_readArguments_63 : decode cX2_readArguments 63 = .ok (.invokevirtual 87, 3) := by decide +kernel
theorem dX2_readArguments_66 : decode cX2_readArguments 66 = .ok (.aload_n 0, 1) := by decide +kernel
theorem dX2_readArguments_67 : decode cX2_readArguments 67 = .ok (.getfield 29, 3) := by decide +kernel
theorem dX2_readArguments_70 : decode cX2_readArguments 70 = .ok (.iload_n 3, 1) := by decide +kernel
theorem dX2_readArguments_71 : decode cX2_readArguments 71 = .ok (.aload_n 1, 1) := by decide +kernel
theorem dX2_readArguments_72 : decode cX2_readArguments 72 = .ok (.getfield 100, 3) := by decide +kernel
theorem dX2_readArguments_75 : decode cX2_readArguments 75 = .ok (.invokevirtual 87, 3) := by decide +kernel
theorem dX2_readArguments_78 : decode cX2_readArguments 78 = .ok (.iload 4, 2) := by decide +kernel
theorem dX2_readArguments_80 : decode cX2_readArguments 80 = .ok (.ireturn, 1) := by decide +kernel
theorem dX2_readArguments_81 : decode cX2_readArguments 81 = .ok (.aload_n 2, 1) := by decide +kernel
theorem dX2_readArguments_82 : decode cX2_readArguments 82 = .ok (.getfield 91, 3) := by decide +kernel
theorem dX2_readArguments_85 : decode cX2_readArguments 85 = .ok (.bipush (-2), 2) := by decide +kernel
theorem dX2_readArguments_87 : decode cX2_readArguments 87 = .ok (.if_icmp .ne 10, 3) := by decide +kernel
theorem dX2_readArguments_90 : decode cX2_readArguments 90 = .ok (.aload_n 1, 1) := by decide +kernel
theorem dX2_readArguments_91 : decode cX2_readArguments 91 = .ok (.invokevirtual 103, 3) := by decide +kernel
theorem dX2_readArguments_94 : decode cX2_readArguments 94 = .ok (.goto 15, 3) := by decide +kernel
theorem dX2_readArguments_97 : decode cX2_readArguments 97 = .ok (.aload_n 1, 1) := by decide +kernel
theorem dX2_readArguments_98 : decode cX2_readArguments 98 = .ok (.aload_n 2, 1) := by decide +kernel
theorem dX2_readArguments_99 : decode cX2_readArguments 99 = .ok (.getfield 91, 3) := by decide +kernel
theorem dX2_readArguments_102 : decode cX2_readArguments 102 = .ok (.aload_n 2, 1) := by decide +kernel
theorem dX2_readArguments_103 : decode cX2_readArguments 103 = .ok (.getfield 106, 3) := by decide +kernel
theorem dX2_readArguments_106 : decode cX2_readArguments 106 = .ok (.invokevirtual 80, 3) := by decide +kernel
theorem dX2_readArguments_109 : decode cX2_readArguments 109 = .ok (.istore 4, 2) := by decide +kernel
theorem dX2_readArguments_111 : decode cX2_readArguments 111 = .ok (.aload_n 0, 1) := by decide +kernel
theorem dX2_readArguments_112 : decode cX2_readArguments 112 = .ok (.getfield 26, 3) := by decide +kernel
theorem dX2_readArguments_115 : decode cX2_readArguments 115 = .ok (.iload_n 3, 1) := by decide +kernel
theorem dX2_readArguments_116 : decode cX2_readArguments 116 = .ok (.aload_n 1, 1) := by decide +kernel
theorem dX2_readArguments_117 : decode cX2_readArguments 117 = .ok (.getfield 84, 3) := by decide +kernel
theorem dX2_readArguments_120 : decode cX2_readArguments 120 = .ok (.invokevirtual 87, 3) := by decide +kernel
theorem dX2_readArguments_123 : decode cX2_readArguments 123 = .ok (.iload 4, 2) := by decide +kernel
theorem dX2_readArguments_125 : decode cX2_readArguments 125 = .ok (.ireturn, 1) := by decide +kernel
def F_X2_readArguments (N : Nat) (kf : Nat) (a3 : Int32) (S : Nat → Nat → HV) : Option (Bool × (Nat → Nat → HV)) := (ob (F_X9_readNumber N (cfLo.getD kf 0) (cfHi.getD kf 0) (S 11 4)) fun v1 g2 => (lt (up S 11 (up (S 11) 4 g2)) fun S3 => (if v1 = true then (lt (up S3 11 (up (S3 11) 5 (sA (S3 11 5) 1 (rset 30 ((S3 11 5).2 1) a3 ((S3 11 4).1 6))))) fun S5 => (if (cfSe.getD kf 0) = (-1) then some (true, S5) else (if (cfSe.getD kf 0) = (-3) then (ob (F_X9_readMessageWord N (S5 11 4)) fun v16 g17 => (lt (up S5 11 (up (S5 11) 4 g17)) fun S18 => (lt (up S18 11 (up (S18 11) 5 (sA (S18 11 5) 2 (rset 30 ((S18 11 5).2 2) a3 ((S18 11 4).1 4))))) fun S20 => (lt (up S20 11 (up (S20 11) 5 (sA (S20 11 5) 3 (rset 30 ((S20 11 5).2 3) a3 ((S20 11 4).1 5))))) fun S22 => some (v16, S22))))) else (if (cfSe.getD kf 0) = (-2) then (ob (F_X9_readLetter N (S5 11 4)) fun v11 g12 => (lt (up S5 11 (up (S5 11) 4 g12)) fun S13 => (lt (up S13 11 (up (S13 11) 5 (sA (S13 11 5) 2 (rset 30 ((S13 11 5).2 2) a3 ((S13 11 4).1 6))))) fun S15 => some (v11, S15)))) else (ob (F_X9_readNumber N (cfSe.getD kf 0) (cfSh.getD kf 0) (S5 11 4)) fun v6 g7 => (lt (up S5 11 (up (S5 11) 4 g7)) fun S8 => (lt (up S8 11 (up (S8 11) 5 (sA (S8 11 5) 2 (rset 30 ((S8 11 5).2 2) a3 ((S8 11 4).1 6))))) fun S10 => some (v6, S10)))))))) else some (false, S3))))
theorem c_X2_readArguments {w : WP} (hW : gW w) (hS : gS w) {Ω : OM}  {S : Nat → Nat → HV} (e : Ω.1 = S) (N : Nat) (kf : Nat) (hkf : kf < 8) (a3 : Int32) {v : Bool} {S' : Nat → Nat → HV} (hF : F_X2_readArguments N kf a3 S = some (v, S')) {Ω' : OM} (e2 : (S', Ω.2) = Ω') : gM w 3 yX2_readArguments cX2_readArguments 5 (some .boolean) [.ref (wAd w (6, 11, 5, 0)), .ref (wAd w (5, 11, 4, 0)), .ref (wAd w (13, kf, 0, 0)), .int a3] (cA w Ω) (some (.int (b2i v))) (cA w Ω') := by
  refine gM_of "HedgeMessages$CommandList" rfl (by decide) (kR rfl) fun X C => ?_
  unfold F_X2_readArguments at hF
  subst e2
  show gV w X _ _ 0 [(0, .ref (wAd w (6, 11, 5, 0))), (1, .ref (wAd w (5, 11, 4, 0))), (2, .ref (wAd w (13, kf, 0, 0))), (3, .int a3)] []
  refine r_ct (ct' := cA w (S, Ω.2)) (by rw [← e]) ?_
  refine r_aload_n C (k := 1) rfl rfl dX2_readArguments_0 ?_
  refine r_aload_n C (k := 2) rfl rfl dX2_readArguments_1 ?_
  refine r_getON C ((hS.e C).imp fun _ _ _ h => (h.2.2.2.2.1 kf hkf).2.2.2.1) wm9_199 dX2_readArguments_2 ?_
  refine r_aload_n C (k := 2) rfl rfl dX2_readArguments_5 ?_
  refine r_getON C ((hS.e C).imp fun _ _ _ h => (h.2.2.2.2.1 kf hkf).2.2.2.2.1) wm9_200 dX2_readArguments_6 ?_
  obtain ⟨v1, g2, hg2, hF⟩ := ob_e hF
  obtain ⟨S3, eS3, hF⟩ := lt_e hF
  refine r_callV C (d' := 2) [.int (cfLo.getD kf 0), .int (cfHi.getD kf 0)] (c_X9_readNumber hW (congrFun (congrFun (show (S, Ω.2).1 = S from rfl) 11) 4) N (cfLo.getD kf 0) (cfHi.getD kf 0) hg2 (congrArg (fun z => (z, Ω.2)) eS3)) myX9_readNumber wm4_132 ⟨_, _, _, _, (hW.ok k5), rfl, rfl, rfl, rfl⟩ rfl (kR rfl) (by decide) (kR rfl) rfl dX2_readArguments_9 ?_
  refine r_if_ne C (tgt := 17) rfl dX2_readArguments_12 (fun hc => ?_) (fun hc => ?_)
  · rw [if_pos (b2i_t hc)] at hF
    refine r_aload_n C (k := 0) rfl rfl dX2_readArguments_17 ?_
    refine og_6_1 C (hW.ok k6) wm2_44 dX2_readArguments_18 ?_
    refine r_iload_n C (k := 3) rfl rfl dX2_readArguments_21 ?_
    refine r_aload_n C (k := 1) rfl rfl dX2_readArguments_22 ?_
    refine ogN_5_6 C (hW.ok k5) (congrFun (congrFun (show (S3, Ω.2).1 = S3 from rfl) 11) 4) wm2_8 dX2_readArguments_23 ?_
    obtain ⟨S5, eS5, hF⟩ := lt_e hF
    refine r_callV C (d' := 0) [.int a3, .int ((S3 11 4).1 6)] (c_rset hW.x (Or.inl (show okC (4, 11, 5, 1) from (q5 (kR rfl) (kR rfl)))) (hW.ok (i := (3, 11, 5, 1)) (q5 (kR rfl) (kR rfl))) (hW.ok (i := (4, 11, 5, 1)) (q5 (kR rfl) (kR rfl))) (hW.fr (i := (4, 11, 5, 1)) (q5 (kR rfl) (kR rfl))) (show rlen 5 1 = 30 from rfl) (by decide) (congrFun (congrFun (show (S3, Ω.2).1 = S3 from rfl) 11) 5) rfl (congrArg (fun z => (z, Ω.2)) eS5)) myX8_set wm4_133 ⟨_, _, _, _, (hW.ok (i := (3, 11, 5, 1)) (q5 (kR rfl) (kR rfl))), rfl, rfl, rfl, rfl⟩ rfl (kR rfl) (by decide) (kR rfl) rfl dX2_readArguments_26 ?_
    refine r_aload_n C (k := 2) rfl rfl dX2_readArguments_29 ?_
    refine r_getON C ((hS.e C).imp fun _ _ _ h => (h.2.2.2.2.1 kf hkf).2.2.2.2.2.1) wm9_201 dX2_readArguments_30 ?_
    refine r_iconst C (v := (-1)) (by decide) dX2_readArguments_33 ?_
    refine r_icmp_ne C (tgt := 39) rfl dX2_readArguments_34 (fun hc => ?_) (fun hc => ?_)
    · rw [if_neg hc] at hF
      refine r_aload_n C (k := 2) rfl rfl dX2_readArguments_39 ?_
      refine r_getON C ((hS.e C).imp fun _ _ _ h => (h.2.2.2.2.1 kf hkf).2.2.2.2.2.1) wm9_201 dX2_readArguments_40 ?_
      refine r_bipush C (v := (-3)) (by decide) dX2_readArguments_43 ?_
      refine r_icmp_ne C (tgt := 81) rfl dX2_readArguments_45 (fun hc => ?_) (fun hc => ?_)
      · rw [if_neg hc] at hF
        refine r_aload_n C (k := 2) rfl rfl dX2_readArguments_81 ?_
        refine r_getON C ((hS.e C).imp fun _ _ _ h => (h.2.2.2.2.1 kf hkf).2.2.2.2.2.1) wm9_201 dX2_readArguments_82 ?_
        refine r_bipush C (v := (-2)) (by decide) dX2_readArguments_85 ?_
        refine r_icmp_ne C (tgt := 97) rfl dX2_readArguments_87 (fun hc => ?_) (fun hc => ?_)
        · rw [if_neg hc] at hF
          refine r_aload_n C (k := 1) rfl rfl dX2_readArguments_97 ?_
          refine r_aload_n C (k := 2) rfl rfl dX2_readArguments_98 ?_
          refine r_getON C ((hS.e C).imp fun _ _ _ h => (h.2.2.2.2.1 kf hkf).2.2.2.2.2.1) wm9_201 dX2_readArguments_99 ?_
          refine r_aload_n C (k := 2) rfl rfl dX2_readArguments_102 ?_
          refine r_getON C ((hS.e C).imp fun _ _ _ h => (h.2.2.2.2.1 kf hkf).2.2.2.2.2.2) wm9_202 dX2_readArguments_103 ?_
          obtain ⟨v6, g7, hg7, hF⟩ := ob_e hF
          obtain ⟨S8, eS8, hF⟩ := lt_e hF
          refine r_callV C (d' := 2) [.int (cfSe.getD kf 0), .int (cfSh.getD kf 0)] (c_X9_readNumber hW (congrFun (congrFun (show (S5, Ω.2).1 = S5 from rfl) 11) 4) N (cfSe.getD kf 0) (cfSh.getD kf 0) hg7 (congrArg (fun z => (z, Ω.2)) eS8)) myX9_readNumber wm4_132 ⟨_, _, _, _, (hW.ok k5), rfl, rfl, rfl, rfl⟩ rfl (kR rfl) (by decide) (kR rfl) rfl dX2_readArguments_106 ?_
          refine r_istore C (lo' := [(4, .int (b2i v6)), (0, .ref (wAd w (6, 11, 5, 0))), (1, .ref (wAd w (5, 11, 4, 0))), (2, .ref (wAd w (13, kf, 0, 0))), (3, .int a3)]) (by decide) rfl dX2_readArguments_109 ?_
          refine r_aload_n C (k := 1) rfl rfl dX2_readArguments_111 ?_
          refine og_6_2 C (hW.ok k6) wm2_46 dX2_readArguments_112 ?_
          refine r_iload_n C (k := 4) rfl rfl dX2_readArguments_115 ?_
          refine r_aload_n C (k := 2) rfl rfl dX2_readArguments_116 ?_
          refine ogN_5_6 C (hW.ok k5) (congrFun (congrFun (show (S8, Ω.2).1 = S8 from rfl) 11) 4) wm2_8 dX2_readArguments_117 ?_
          obtain ⟨S10, eS10, hF⟩ := lt_e hF
          refine r_callV C (d' := 0) [.int a3, .int ((S8 11 4).1 6)] (c_rset hW.x (Or.inl (show okC (4, 11, 5, 2) from (q5 (kR rfl) (kR rfl)))) (hW.ok (i := (3, 11, 5, 2)) (q5 (kR rfl) (kR rfl))) (hW.ok (i := (4, 11, 5, 2)) (q5 (kR rfl) (kR rfl))) (hW.fr (i := (4, 11, 5, 2)) (q5 (kR rfl) (kR rfl))) (show rlen 5 2 = 30 from rfl) (by decide) (congrFun (congrFun (show (S8, Ω.2).1 = S8 from rfl) 11) 5) rfl (congrArg (fun z => (z, Ω.2)) eS10)) myX8_set wm4_133 ⟨_, _, _, _, (hW.ok (i := (3, 11, 5, 2)) (q5 (kR rfl) (kR rfl))), rfl, rfl, rfl, rfl⟩ rfl (kR rfl) (by decide) (kR rfl) rfl dX2_readArguments_120 ?_
          refine r_iload C (k := 0) rfl dX2_readArguments_123 ?_
          cases hF
          exact r_zreturn C _ rfl dX2_readArguments_125
        · rw [if_pos hc] at hF
          refine r_aload_n C (k := 1) rfl rfl dX2_readArguments_90 ?_
          obtain ⟨v11, g12, hg12, hF⟩ := ob_e hF
          obtain ⟨S13, eS13, hF⟩ := lt_e hF
          refine r_callV C (d' := 2) [] (c_X9_readLetter hW (congrFun (congrFun (show (S5, Ω.2).1 = S5 from rfl) 11) 4) N hg12 (congrArg (fun z => (z, Ω.2)) eS13)) myX9_readLetter wm4_135 ⟨_, _, _, _, (hW.ok k5), rfl, rfl, rfl, rfl⟩ rfl (kR rfl) (by decide) (kR rfl) rfl dX2_readArguments_91 ?_
          refine r_goto C (tgt := 109) rfl dX2_readArguments_94 ?_
          refine r_istore C (lo' := [(4, .int (b2i v11)), (0, .ref (wAd w (6, 11, 5, 0))), (1, .ref (wAd w (5, 11, 4, 0))), (2, .ref (wAd w (13, kf, 0, 0))), (3, .int a3)]) (by decide) rfl dX2_readArguments_109 ?_
          refine r_aload_n C (k := 1) rfl rfl dX2_readArguments_111 ?_
          refine og_6_2 C (hW.ok k6) wm2_46 dX2_readArguments_112 ?_
          refine r_iload_n C (k := 4) rfl rfl dX2_readArguments_115 ?_
          refine r_aload_n C (k := 2) rfl rfl dX2_readArguments_116 ?_
          refine ogN_5_6 C (hW.ok k5) (congrFun (congrFun (show (S13, Ω.2).1 = S13 from rfl) 11) 4) wm2_8 dX2_readArguments_117 ?_
          obtain ⟨S15, eS15, hF⟩ := lt_e hF
          refine r_callV C (d' := 0) [.int a3, .int ((S13 11 4).1 6)] (c_rset hW.x (Or.inl (show okC (4, 11, 5, 2) from (q5 (kR rfl) (kR rfl)))) (hW.ok (i := (3, 11, 5, 2)) (q5 (kR rfl) (kR rfl))) (hW.ok (i := (4, 11, 5, 2)) (q5 (kR rfl) (kR rfl))) (hW.fr (i := (4, 11, 5, 2)) (q5 (kR rfl) (kR rfl))) (show rlen 5 2 = 30 from rfl) (by decide) (congrFun (congrFun (show (S13, Ω.2).1 = S13 from rfl) 11) 5) rfl (congrArg (fun z => (z, Ω.2)) eS15)) myX8_set wm4_133 ⟨_, _, _, _, (hW.ok (i := (3, 11, 5, 2)) (q5 (kR rfl) (kR rfl))), rfl, rfl, rfl, rfl⟩ rfl (kR rfl) (by decide) (kR rfl) rfl dX2_readArguments_120 ?_
          refine r_iload C (k := 0) rfl dX2_readArguments_123 ?_
          cases hF
          exact r_zreturn C _ rfl dX2_readArguments_125
      · rw [if_pos hc] at hF
        refine r_aload_n C (k := 1) rfl rfl dX2_readArguments_48 ?_
        obtain ⟨v16, g17, hg17, hF⟩ := ob_e hF
        obtain ⟨S18, eS18, hF⟩ := lt_e hF
        refine r_callV C (d' := 2) [] (c_X9_readMessageWord hW (congrFun (congrFun (show (S5, Ω.2).1 = S5 from rfl) 11) 4) N hg17 (congrArg (fun z => (z, Ω.2)) eS18)) myX9_readMessageWord wm4_134 ⟨_, _, _, _, (hW.ok k5), rfl, rfl, rfl, rfl⟩ rfl (kR rfl) (by decide) (kR rfl) rfl dX2_readArguments_49 ?_
        refine r_istore C (lo' := [(4, .int (b2i v16)), (0, .ref (wAd w (6, 11, 5, 0))), (1, .ref (wAd w (5, 11, 4, 0))), (2, .ref (wAd w (13, kf, 0, 0))), (3, .int a3)]) (by decide) rfl dX2_readArguments_52 ?_
        refine r_aload_n C (k := 1) rfl rfl dX2_readArguments_54 ?_
        refine og_6_2 C (hW.ok k6) wm2_46 dX2_readArguments_55 ?_
        refine r_iload_n C (k := 4) rfl rfl dX2_readArguments_58 ?_
        refine r_aload_n C (k := 2) rfl rfl dX2_readArguments_59 ?_
        refine ogN_5_4 C (hW.ok k5) (congrFun (congrFun (show (S18, Ω.2).1 = S18 from rfl) 11) 4) wm2_2 dX2_readArguments_60 ?_
        obtain ⟨S20, eS20, hF⟩ := lt_e hF
        refine r_callV C (d' := 0) [.int a3, .int ((S18 11 4).1 4)] (c_rset hW.x (Or.inl (show okC (4, 11, 5, 2) from (q5 (kR rfl) (kR rfl)))) (hW.ok (i := (3, 11, 5, 2)) (q5 (kR rfl) (kR rfl))) (hW.ok (i := (4, 11, 5, 2)) (q5 (kR rfl) (kR rfl))) (hW.fr (i := (4, 11, 5, 2)) (q5 (kR rfl) (kR rfl))) (show rlen 5 2 = 30 from rfl) (by decide) (congrFun (congrFun (show (S18, Ω.2).1 = S18 from rfl) 11) 5) rfl (congrArg (fun z => (z, Ω.2)) eS20)) myX8_set wm4_133 ⟨_, _, _, _, (hW.ok (i := (3, 11, 5, 2)) (q5 (kR rfl) (kR rfl))), rfl, rfl, rfl, rfl⟩ rfl (kR rfl) (by decide) (kR rfl) rfl dX2_readArguments_63 ?_
        refine r_aload_n C (k := 1) rfl rfl dX2_readArguments_66 ?_
        refine og_6_3 C (hW.ok k6) wm2_48 dX2_readArguments_67 ?_
        refine r_iload_n C (k := 4) rfl rfl dX2_readArguments_70 ?_
        refine r_aload_n C (k := 2) rfl rfl dX2_readArguments_71 ?_
        refine ogN_5_5 C (hW.ok k5) (congrFun (congrFun (show (S20, Ω.2).1 = S20 from rfl) 11) 4) wm2_4 dX2_readArguments_72 ?_
        obtain ⟨S22, eS22, hF⟩ := lt_e hF
        refine r_callV C (d' := 0) [.int a3, .int ((S20 11 4).1 5)] (c_rset hW.x (Or.inl (show okC (4, 11, 5, 3) from (q5 (kR rfl) (kR rfl)))) (hW.ok (i := (3, 11, 5, 3)) (q5 (kR rfl) (kR rfl))) (hW.ok (i := (4, 11, 5, 3)) (q5 (kR rfl) (kR rfl))) (hW.fr (i := (4, 11, 5, 3)) (q5 (kR rfl) (kR rfl))) (show rlen 5 3 = 30 from rfl) (by decide) (congrFun (congrFun (show (S20, Ω.2).1 = S20 from rfl) 11) 5) rfl (congrArg (fun z => (z, Ω.2)) eS22)) myX8_set wm4_133 ⟨_, _, _, _, (hW.ok (i := (3, 11, 5, 3)) (q5 (kR rfl) (kR rfl))), rfl, rfl, rfl, rfl⟩ rfl (kR rfl) (by decide) (kR rfl) rfl dX2_readArguments_75 ?_
        refine r_iload C (k := 0) rfl dX2_readArguments_78 ?_
        cases hF
        exact r_zreturn C _ rfl dX2_readArguments_80
    · rw [if_pos hc] at hF
      refine r_iconst C (v := 1) rfl dX2_readArguments_37 ?_
      cases hF
      exact r_zreturn C true rfl dX2_readArguments_38
  · rw [if_neg (b2i_f hc)] at hF
    refine r_iconst C (v := 0) rfl dX2_readArguments_15 ?_
    cases hF
    exact r_zreturn C false rfl dX2_readArguments_16
theorem dX2_read_0 : decode cX2_read 0 = .ok (.aload_n 1, 1) := by decide +kernel
theorem dX2_read_1 : decode cX2_read 1 = .ok (.invokevirtual 32, 3) := by decide +kernel
theorem dX2_read_4 : decode cX2_read 4 = .ok (.aload_n 0, 1) := by decide +kernel
theorem dX2_read_5 : decode cX2_read 5 = .ok (.iconst 0, 1) := by decide +kernel
theorem dX2_read_6 : decode cX2_read 6 = .ok (.putfield 37, 3) := by decide +kernel
theorem dX2_read_9 : decode cX2_read 9 = .ok (.iconst 0, 1) := by decide +kernel
theorem dX2_read_10 : decode cX2_read 10 = .ok (.istore_n 2, 1) := by decide +kernel
theorem dX2_read_11 : decode cX2_read 11 = .ok (.iload_n 2, 1) := by decide +kernel
theorem dX2_read_12 : decode cX2_read 12 = .ok (.bipush 30, 2) := by decide +kernel
theorem dX2_read_14 : decode cX2_read 14 = .ok (.if_icmp .gt 85, 3) := by decide +kernel
theorem dX2_read_17 : decode cX2_read 17 = .ok (.aload_n 1, 1) := by decide +kernel
theorem dX2_read_18 : decode cX2_read 18 = .ok (.invokevirtual 41, 3) := by decide +kernel
theorem dX2_read_21 : decode cX2_read 21 = .ok (.aload_n 1, 1) := by decide +kernel
theorem dX2_read_22 : decode cX2_read 22 = .ok (.invokevirtual 44, 3) := by decide +kernel
theorem dX2_read_25 : decode cX2_read 25 = .ok (.ifCond .eq 5, 3) := by decide +kernel
theorem dX2_read_28 : decode cX2_read 28 = .ok (.iconst 1, 1) := by decide +kernel
theorem dX2_read_29 : decode cX2_read 29 = .ok (.ireturn, 1) := by decide +kernel
theorem dX2_read_30 : decode cX2_read 30 = .ok (.aload_n 1, 1) := by decide +kernel
theorem dX2_read_31 : decode cX2_read 31 = .ok (.invokestatic 48, 3) := by decide +kernel
theorem dX2_read_34 : decode cX2_read 34 = .ok (.astore_n 3, 1) := by decide +kernel
theorem dX2_read_35 : decode cX2_read 35 = .ok (.aload_n 3, 1) := by decide +kernel
theorem dX2_read_36 : decode cX2_read 36 = .ok (.ifnonnull 9, 3) := by decide +kernel
theorem dX2_read_39 : decode cX2_read 39 = .ok (.aload_n 1, 1) := by decide +kernel
theorem dX2_read_40 : decode cX2_read 40 = .ok (.iconst 1, 1) := by decide +kernel
theorem dX2_read_41 : decode cX2_read 41 = .ok (.invokevirtual 52, 3) := by decide +kernel
theorem dX2_read_44 : decode cX2_read 44 = .ok (.ireturn, 1) := by decide +kernel
theorem dX2_read_45 : decode cX2_read 45 = .ok (.iload_n 2, 1) := by decide +kernel
theorem dX2_read_46 : decode cX2_read 46 = .ok (.aload_n 0, 1) := by decide +kernel
theorem dX2_read_47 : decode cX2_read 47 = .ok (.getfield 11, 3) := by decide +kernel
theorem dX2_read_50 : decode cX2_read 50 = .ok (.arraylength, 1) := by decide +kernel
theorem dX2_read_51 : decode cX2_read 51 = .ok (.if_icmp .lt 9, 3) := by decide +kernel
theorem dX2_read_54 : decode cX2_read 54 = .ok (.aload_n 1, 1) := by decide +kernel
theorem dX2_read_55 : decode cX2_read 55 = .ok (.iconst 4, 1) := by decide +kernel
theorem dX2_read_56 : decode cX2_read 56 = .ok (.invokevirtual 52, 3) := by decide +kernel
theorem dX2_read_59 : decode cX2_read 59 = .ok (.ireturn, 1) := by decide +kernel
theorem dX2_read_60 : decode cX2_read 60 = .ok (.aload_n 0, 1) := by decide +kernel
theorem dX2_read_61 : decode cX2_read 61 = .ok (.getfield 11, 3) := by decide +kernel
theorem dX2_read_64 : decode cX2_read 64 = .ok (.iload_n 2, 1) := by decide +kernel
theorem dX2_read_65 : decode cX2_read 65 = .ok (.aload_n 3, 1) := by decide +kernel
theorem dX2_read_66 : decode cX2_read 66 = .ok (.aastore, 1) := by decide +kernel
theorem dX2_read_67 : decode cX2_read 67 = .ok (.aload_n 0, 1) := by decide +kernel
theorem dX2_read_68 : decode cX2_read 68 = .ok (.aload_n 1, 1) := by decide +kernel
theorem dX2_read_69 : decode cX2_read 69 = .ok (.aload_n 3, 1) := by decide +kernel
theorem dX2_read_70 : decode cX2_read 70 = .ok (.iload_n 2, 1) := by decide +kernel
theorem dX2_read_71 : decode cX2_read 71 = .ok (.invokevirtual 56, 3) := by decide +kernel
theorem dX2_read_74 : decode cX2_read 74 = .ok (.ifCond .eq 10, 3) := by decide +kernel
theorem dX2_read_77 : decode cX2_read 77 = .ok (.aload_n 1, 1) := by decide +kernel
theorem dX2_read_78 : decode cX2_read 78 = .ok (.invokevirtual 60, 3) := by decide +kernel
theorem dX2_read_81 : decode cX2_read 81 = .ok (.ifCond .ne 5, 3) := by decide +kernel
theorem dX2_read_84 : decode cX2_read 84 = .ok (.iconst 0, 1) := by decide +kernel
theorem dX2_read_85 : decode cX2_read 85 = .ok (.ireturn, 1) := by decide +kernel
theorem dX2_read_86 : decode cX2_read 86 = .ok (.aload_n 0, 1) := by decide +kernel
theorem dX2_read_87 : decode cX2_read 87 = .ok (.iload_n 2, 1) := by decide +kernel
theorem dX2_read_88 : decode cX2_read 88 = .ok (.iconst 1, 1) := by decide +kernel
theorem dX2_read_89 : decode cX2_read 89 = .ok (.iadd, 1) := by decide +kernel
theorem dX2_read_90 : decode cX2_read 90 = .ok (.putfield 37, 3) := by decide +kernel
theorem dX2_read_93 : decode cX2_read 93 = .ok (.iinc 2 1, 3) := by decide +kernel
theorem dX2_read_96 : decode cX2_read 96 = .ok (.goto (-85), 3) := by decide +kernel
theorem dX2_read_99 : decode cX2_read 99 = .ok (.iconst 1, 1) := by decide +kernel
theorem dX2_read_100 : decode cX2_read 100 = .ok (.ireturn, 1) := by decide +kernel
def st_X2_read_11 (N : Nat) (l2 : Int32) (S : Nat → Nat → HV) : Option ((Int32 × (Nat → Nat → HV)) ⊕ (Bool × (Nat → Nat → HV))) := (if 30 < l2 then some (.inr (true, S)) else (ob1 (F_X9_readToken N (S 11 4)) fun g6 => (lt (up S 11 (up (S 11) 4 g6)) fun S7 => (if (F_X9_atEnd (S7 11 4)) = true then some (.inr (true, S7)) else (ob1 (F_X2_formNamedBy N (S7 11 4)) fun v8 => (if v8 = 0 then (lt2 (F_X9_refuse 1 (S7 11 4)) fun v11 g12 => (lt (up S7 11 (up (S7 11) 4 g12)) fun S13 => some (.inr (v11, S13)))) else (if vpb (v8 - 1) 8 = true then (lt (v8 - 1).toNatClampNeg fun kx9 => (if l2 < (nI 30) then (if vpb l2 30 = true then (lt (up S7 11 (up (S7 11) 5 (sA (S7 11 5) 0 (upd ((S7 11 5).2 0) (l2).toNatClampNeg (nI (kx9 + 1)))))) fun S15 => (ob (F_X2_readArguments N kx9 l2 S15) fun v16 S17 => (if v16 = true then (ob (F_X9_readSemicolon N (S17 11 4)) fun v18 g19 => (lt (up S17 11 (up (S17 11) 4 g19)) fun S20 => (if v18 = true then (lt (up S20 11 (up (S20 11) 5 (sS (S20 11 5) 4 (l2 + 1)))) fun S21 => some (.inl ((l2 + 1), S21))) else some (.inr (false, S20))))) else some (.inr (false, S17))))) else none) else (lt2 (F_X9_refuse 4 (S7 11 4)) fun v22 g23 => (lt (up S7 11 (up (S7 11) 4 g23)) fun S24 => some (.inr (v22, S24)))))) else none)))))))
def F_X2_read (N : Nat) (S : Nat → Nat → HV) : Option (Bool × (Nat → Nat → HV)) := (lt (F_X9_startReading (S 11 4)) fun g2 => (lt (up S 11 (up (S 11) 4 g2)) fun S3 => (lt (up S3 11 (up (S3 11) 5 (sS (S3 11 5) 4 0))) fun S4 => (lpN N (fun z => st_X2_read_11 N z.1 z.2) (0, S4)))))
theorem lp_X2_read_11 {w : WP} (hW : gW w) (hS : gS w) {Ω : OM}    {N : Nat} {X : CX} (C : gC w X cX2_read "HedgeMessages$CommandList" (some .boolean) 6 4) {v : Bool} {S' : Nat → Nat → HV}  : ∀ (n : Nat) (l2 : Int32) (S : Nat → Nat → HV), lpN n (fun z : Int32 × (Nat → Nat → HV) => st_X2_read_11 N z.1 z.2) (l2, S) = some (v, S') → gV w X (some (.int (b2i v)), cA w (S', Ω.2)) (cA w (S, Ω.2)) 11 [(0, .ref (wAd w (6, 11, 5, 0))), (1, .ref (wAd w (5, 11, 4, 0))), (2, .int l2)] [] := by
  intro n
  induction n with
  | zero => intro l2 S hL; exact lpN_0 hL
  | succ n ih =>
    intro l2 S hL
    obtain ⟨q9, hF, hL⟩ := lpN_e hL
    change st_X2_read_11 N l2 S = some q9 at hF
    unfold st_X2_read_11 at hF
    refine r_iload_n C (k := 2) rfl rfl dX2_read_11 ?_
    refine r_bipush C (v := 30) rfl dX2_read_12 ?_
    refine r_icmp_gt C (tgt := 99) rfl dX2_read_14 (fun hc => ?_) (fun hc => ?_)
    · rw [if_pos hc] at hF
      refine r_iconst C (v := 1) rfl dX2_read_99 ?_
      cases hF
      change some _ = some _ at hL
      cases hL
      exact r_zreturn C true rfl dX2_read_100
    · rw [if_neg hc] at hF
      refine r_aload_n C (k := 1) rfl rfl dX2_read_17 ?_
      obtain ⟨g6, hg6, hF⟩ := ob1_e hF
      obtain ⟨S7, eS7, hF⟩ := lt_e hF
      refine r_callV C (d' := 1) [] (c_X9_readToken hW (congrFun (congrFun (show (S, Ω.2).1 = S from rfl) 11) 4) N hg6 (congrArg (fun z => (z, Ω.2)) eS7)) myX9_readToken wm4_119 ⟨_, _, _, _, (hW.ok k5), rfl, rfl, rfl, rfl⟩ rfl (kR rfl) (by decide) (kR rfl) rfl dX2_read_18 ?_
      refine r_aload_n C (k := 1) rfl rfl dX2_read_21 ?_
      refine r_callV C (d' := 0) [] (c_X9_atEnd hW (congrFun (congrFun (show (S7, Ω.2).1 = S7 from rfl) 11) 4) rfl) myX9_atEnd wm4_120 ⟨_, _, _, _, (hW.ok k5), rfl, rfl, rfl, rfl⟩ rfl (kR rfl) (by decide) (kR rfl) rfl dX2_read_22 ?_
      refine r_if_eq C (tgt := 30) rfl dX2_read_25 (fun hc => ?_) (fun hc => ?_)
      · rw [if_neg (b2i_f hc)] at hF
        refine r_aload_n C (k := 1) rfl rfl dX2_read_30 ?_
        obtain ⟨v8, hv8, hF⟩ := ob1_e hF
        refine r_callS C (d' := 5) [.ref (wAd w (5, 11, 4, 0))] (c_X2_formNamedBy hW hS (congrFun (congrFun (show (S7, Ω.2).1 = S7 from rfl) 11) 4) N hv8) myX2_formNamedBy wm4_121 rfl (kR rfl) (by decide) (kR rfl) rfl dX2_read_31 ?_
        refine r_astoreq_n C (lo' := [(3, va_rf (dForm w v8)), (0, .ref (wAd w (6, 11, 5, 0))), (1, .ref (wAd w (5, 11, 4, 0))), (2, .int l2)]) rfl (by decide) rfl dX2_read_34 ?_
        refine r_aloadq_n C (k := 0) rfl rfl dX2_read_35 ?_
        by_cases hc : v8 = 0
        · rw [if_pos hc] at hF
          rw [dF_0 hc]
          refine r_ifnonnullN C dX2_read_36 ?_
          refine r_lq (lo' := [(3, .null), (0, .ref (wAd w (6, 11, 5, 0))), (1, .ref (wAd w (5, 11, 4, 0))), (2, .int l2)]) rfl ?_
          refine r_aload_n C (k := 2) rfl rfl dX2_read_39 ?_
          refine r_iconst C (v := 1) rfl dX2_read_40 ?_
          obtain ⟨v11, g12, hg12, hF⟩ := lt2_e hF
          obtain ⟨S13, eS13, hF⟩ := lt_e hF
          refine r_callV C (d' := 0) [.int 1] (c_X9_refuse hW (congrFun (congrFun (show (S7, Ω.2).1 = S7 from rfl) 11) 4) 1 hg12 (congrArg (fun z => (z, Ω.2)) eS13)) myX9_refuse wm4_127 ⟨_, _, _, _, (hW.ok k5), rfl, rfl, rfl, rfl⟩ rfl (kR rfl) (by decide) (kR rfl) rfl dX2_read_41 ?_
          cases hF
          change some _ = some _ at hL
          cases hL
          exact r_zreturn C _ rfl dX2_read_44
        · rw [if_neg hc] at hF
          obtain ⟨b10, hF⟩ := gd_e hF
          obtain ⟨kx9, ekx9, hF⟩ := lt_e hF
          have hkx9 : kx9 < 8 := by rw [← ekx9]; exact clN (vpb_in b10)
          rw [dF_s hc, ekx9]
          refine r_ifnonnull C (tgt := 45) rfl dX2_read_36 ?_
          refine r_lq (lo' := [(3, .ref (wAd w (13, kx9, 0, 0))), (0, .ref (wAd w (6, 11, 5, 0))), (1, .ref (wAd w (5, 11, 4, 0))), (2, .int l2)]) rfl ?_
          refine r_iload_n C (k := 3) rfl rfl dX2_read_45 ?_
          refine r_aload_n C (k := 1) rfl rfl dX2_read_46 ?_
          refine og_6_0 C (hW.ok k6) wm2_43 dX2_read_47 ?_
          refine r_alenq C (10, 11, 5, 0) (hW.ok k10) 2 rfl rfl (n := 30) rfl dX2_read_50 ?_
          refine r_icmp_lt C (tgt := 60) rfl dX2_read_51 (fun hc => ?_) (fun hc => ?_)
          · rw [if_pos hc] at hF
            refine r_aload_n C (k := 1) rfl rfl dX2_read_60 ?_
            refine og_6_0 C (hW.ok k6) wm2_43 dX2_read_61 ?_
            refine r_iload_n C (k := 3) rfl rfl dX2_read_64 ?_
            refine r_aload_n C (k := 0) rfl rfl dX2_read_65 ?_
            obtain ⟨b14, hF⟩ := gd_e hF
            obtain ⟨S15, eS15, hF⟩ := lt_e hF
            refine r_fast C hW hS hkx9 (congrFun (congrFun (show (S7, Ω.2).1 = S7 from rfl) 11) 5) b14 dX2_read_66 (congrArg (fun z => (z, Ω.2)) eS15) ?_
            refine r_aload_n C (k := 1) rfl rfl dX2_read_67 ?_
            refine r_aload_n C (k := 2) rfl rfl dX2_read_68 ?_
            refine r_aload_n C (k := 0) rfl rfl dX2_read_69 ?_
            refine r_iload_n C (k := 3) rfl rfl dX2_read_70 ?_
            obtain ⟨v16, S17, hS17, hF⟩ := ob_e hF
            refine r_callV C (d' := 3) [.ref (wAd w (5, 11, 4, 0)), .ref (wAd w (13, kx9, 0, 0)), .int l2] (c_X2_readArguments hW hS (show (S15, Ω.2).1 = S15 from rfl) N kx9 hkx9 l2 hS17 rfl) myX2_readArguments wm4_128 ⟨_, _, _, _, (hW.ok k6), rfl, rfl, rfl, rfl⟩ rfl (kR rfl) (by decide) (kR rfl) rfl dX2_read_71 ?_
            refine r_if_eq C (tgt := 84) rfl dX2_read_74 (fun hc => ?_) (fun hc => ?_)
            · rw [if_neg (b2i_f hc)] at hF
              refine r_iconst C (v := 0) rfl dX2_read_84 ?_
              cases hF
              change some _ = some _ at hL
              cases hL
              exact r_zreturn C false rfl dX2_read_85
            · rw [if_pos (b2i_t hc)] at hF
              refine r_aload_n C (k := 2) rfl rfl dX2_read_77 ?_
              obtain ⟨v18, g19, hg19, hF⟩ := ob_e hF
              obtain ⟨S20, eS20, hF⟩ := lt_e hF
              refine r_callV C (d' := 2) [] (c_X9_readSemicolon hW (congrFun (congrFun (show (S17, Ω.2).1 = S17 from rfl) 11) 4) N hg19 (congrArg (fun z => (z, Ω.2)) eS20)) myX9_readSemicolon wm4_136 ⟨_, _, _, _, (hW.ok k5), rfl, rfl, rfl, rfl⟩ rfl (kR rfl) (by decide) (kR rfl) rfl dX2_read_78 ?_
              refine r_if_ne C (tgt := 86) rfl dX2_read_81 (fun hc => ?_) (fun hc => ?_)
              · rw [if_pos (b2i_t hc)] at hF
                refine r_aload_n C (k := 1) rfl rfl dX2_read_86 ?_
                refine r_iload_n C (k := 3) rfl rfl dX2_read_87 ?_
                refine r_iconst C (v := 1) rfl dX2_read_88 ?_
                refine r_iadd C dX2_read_89 ?_
                obtain ⟨S21, eS21, hF⟩ := lt_e hF
                refine op_6_4 C hW.x (Or.inl k6) (hW.fr k6) (congrFun (congrFun (show (S20, Ω.2).1 = S20 from rfl) 11) 5) wm2_50 dX2_read_90 (congrArg (fun z => (z, Ω.2)) eS21) ?_
                refine r_iinc C (k := 3) (v := (l2 + 1)) (lo' := [(2, .int (l2 + 1)), (3, .ref (wAd w (13, kx9, 0, 0))), (0, .ref (wAd w (6, 11, 5, 0))), (1, .ref (wAd w (5, 11, 4, 0)))]) rfl rfl (by decide) rfl dX2_read_93 ?_
                refine r_goto C (tgt := 11) rfl dX2_read_96 ?_
                cases hF
                change lpN n _ _ = some _ at hL
                refine r_lo [2, 3, 0] (lo' := [(0, .ref (wAd w (6, 11, 5, 0))), (1, .ref (wAd w (5, 11, 4, 0))), (2, .int (l2 + 1))]) rfl ?_
                exact ih (l2 + 1) S21 hL
              · rw [if_neg (b2i_f hc)] at hF
                refine r_iconst C (v := 0) rfl dX2_read_84 ?_
                cases hF
                change some _ = some _ at hL
                cases hL
                exact r_zreturn C false rfl dX2_read_85
          · rw [if_neg hc] at hF
            refine r_aload_n C (k := 2) rfl rfl dX2_read_54 ?_
            refine r_iconst C (v := 4) rfl dX2_read_55 ?_
            obtain ⟨v22, g23, hg23, hF⟩ := lt2_e hF
            obtain ⟨S24, eS24, hF⟩ := lt_e hF
            refine r_callV C (d' := 0) [.int 4] (c_X9_refuse hW (congrFun (congrFun (show (S7, Ω.2).1 = S7 from rfl) 11) 4) 4 hg23 (congrArg (fun z => (z, Ω.2)) eS24)) myX9_refuse wm4_127 ⟨_, _, _, _, (hW.ok k5), rfl, rfl, rfl, rfl⟩ rfl (kR rfl) (by decide) (kR rfl) rfl dX2_read_56 ?_
            cases hF
            change some _ = some _ at hL
            cases hL
            exact r_zreturn C _ rfl dX2_read_59
      · rw [if_pos (b2i_t hc)] at hF
        refine r_iconst C (v := 1) rfl dX2_read_28 ?_
        cases hF
        change some _ = some _ at hL
        cases hL
        exact r_zreturn C true rfl dX2_read_29
theorem c_X2_read {w : WP} (hW : gW w) (hS : gS w) {Ω : OM}  {S : Nat → Nat → HV} (e : Ω.1 = S) (N : Nat)  {v : Bool} {S' : Nat → Nat → HV} (hF : F_X2_read N S = some (v, S')) {Ω' : OM} (e2 : (S', Ω.2) = Ω') : gM w 6 yX2_read cX2_read 4 (some .boolean) [.ref (wAd w (6, 11, 5, 0)), .ref (wAd w (5, 11, 4, 0))] (cA w Ω) (some (.int (b2i v))) (cA w Ω') := by
  refine gM_of "HedgeMessages$CommandList" rfl (by decide) (kR rfl) fun X C => ?_
  unfold F_X2_read at hF
  subst e2
  show gV w X _ _ 0 [(0, .ref (wAd w (6, 11, 5, 0))), (1, .ref (wAd w (5, 11, 4, 0)))] []
  refine r_ct (ct' := cA w (S, Ω.2)) (by rw [← e]) ?_
  refine r_aload_n C (k := 1) rfl rfl dX2_read_0 ?_
  obtain ⟨g2, hg2, hF⟩ := lt_e hF
  obtain ⟨S3, eS3, hF⟩ := lt_e hF
  refine r_callV C (d' := 0) [] (c_X9_startReading hW (congrFun (congrFun (show (S, Ω.2).1 = S from rfl) 11) 4) hg2 (congrArg (fun z => (z, Ω.2)) eS3)) myX9_startReading wm4_118 ⟨_, _, _, _, (hW.ok k5), rfl, rfl, rfl, rfl⟩ rfl (kR rfl) (by decide) (kR rfl) rfl dX2_read_1 ?_
  refine r_aload_n C (k := 0) rfl rfl dX2_read_4 ?_
  refine r_iconst C (v := 0) rfl dX2_read_5 ?_
  obtain ⟨S4, eS4, hF⟩ := lt_e hF
  refine op_6_4 C hW.x (Or.inl k6) (hW.fr k6) (congrFun (congrFun (show (S3, Ω.2).1 = S3 from rfl) 11) 5) wm2_50 dX2_read_6 (congrArg (fun z => (z, Ω.2)) eS4) ?_
  refine r_iconst C (v := 0) rfl dX2_read_9 ?_
  refine r_istore_n C (lo' := [(2, .int 0), (0, .ref (wAd w (6, 11, 5, 0))), (1, .ref (wAd w (5, 11, 4, 0)))]) rfl (by decide) rfl dX2_read_10 ?_
  refine r_lo [1, 2, 0] (lo' := [(0, .ref (wAd w (6, 11, 5, 0))), (1, .ref (wAd w (5, 11, 4, 0))), (2, .int 0)]) rfl ?_
  exact lp_X2_read_11 hW hS C N 0 S4 hF
theorem dX6_forget_0 : decode cX6_forget 0 = .ok (.aload_n 0, 1) := by decide +kernel
theorem dX6_forget_1 : decode cX6_forget 1 = .ok (.iconst 0, 1) := by decide +kernel
theorem dX6_forget_2 : decode cX6_forget 2 = .ok (.putfield 18, 3) := by decide +kernel
theorem dX6_forget_5 : decode cX6_forget 5 = .ok (.return_, 1) := by decide +kernel
def F_X6_forget (S : Nat → Nat → HV) : Nat → Nat → HV := (lt (up S 11 (up (S 11) 7 (sS (S 11 7) 2 0))) fun S1 => S1)
theorem c_X6_forget {w : WP} (hW : gW w) {Ω : OM}  {S : Nat → Nat → HV} (e : Ω.1 = S)  {S' : Nat → Nat → HV} (hF : F_X6_forget S = S') {Ω' : OM} (e2 : (S', Ω.2) = Ω') : gM w 0 yX6_forget cX6_forget 1 none [.ref (wAd w (8, 11, 7, 0))] (cA w Ω) none (cA w Ω') := by
  refine gM_of "HedgeMessages$History" rfl (by decide) (kR rfl) fun X C => ?_
  unfold F_X6_forget at hF
  subst e2
  show gV w X _ _ 0 [(0, .ref (wAd w (8, 11, 7, 0)))] []
  refine r_ct (ct' := cA w (S, Ω.2)) (by rw [← e]) ?_
  refine r_aload_n C (k := 0) rfl rfl dX6_forget_0 ?_
  refine r_iconst C (v := 0) rfl dX6_forget_1 ?_
  obtain ⟨S1, eS1, hF⟩ := lt_e hF
  refine op_8_2 C hW.x (Or.inl k8) (hW.fr k8) (congrFun (congrFun (show (S, Ω.2).1 = S from rfl) 11) 7) wm1_217 dX6_forget_2 (congrArg (fun z => (z, Ω.2)) eS1) ?_
  cases hF
  exact r_return C dX6_forget_5
theorem dX6_remember_0 : decode cX6_remember 0 = .ok (.aload_n 0, 1) := by decide +kernel
theorem dX6_remember_1 : decode cX6_remember 1 = .ok (.aload_n 0, 1) := by decide +kernel
theorem dX6_remember_2 : decode cX6_remember 2 = .ok (.getfield 22, 3) := by decide +kernel
theorem dX6_remember_5 : decode cX6_remember 5 = .ok (.invokevirtual 25, 3) := by decide +kernel
theorem dX6_remember_8 : decode cX6_remember 8 = .ok (.astore_n 2, 1) := by decide +kernel
theorem dX6_remember_9 : decode cX6_remember 9 = .ok (.aload_n 2, 1) := by decide +kernel
theorem dX6_remember_10 : decode cX6_remember 10 = .ok (.ifnull 8, 3) := by decide +kernel
theorem dX6_remember_13 : decode cX6_remember 13 = .ok (.aload_n 2, 1) := by decide +kernel
theorem dX6_remember_14 : decode cX6_remember 14 = .ok (.aload_n 1, 1) := by decide +kernel
theorem dX6_remember_15 : decode cX6_remember 15 = .ok (.invokevirtual 29, 3) := by decide +kernel
theorem dX6_remember_18 : decode cX6_remember 18 = .ok (.aload_n 0, 1) := by decide +kernel
theorem dX6_remember_19 : decode cX6_remember 19 = .ok (.aload_n 0, 1) := by decide +kernel
theorem dX6_remember_20 : decode cX6_remember 20 = .ok (.getfield 22, 3) := by decide +kernel
theorem dX6_remember_23 : decode cX6_remember 23 = .ok (.iconst 1, 1) := by decide +kernel
theorem dX6_remember_24 : decode cX6_remember 24 = .ok (.iadd, 1) := by decide +kernel
theorem dX6_remember_25 : decode cX6_remember 25 = .ok (.bipush 8, 2) := by decide +kernel
theorem dX6_remember_27 : decode cX6_remember 27 = .ok (.if_icmp .ge 12, 3) := by decide +kernel
theorem dX6_remember_30 : decode cX6_remember 30 = .ok (.aload_n 0, 1) := by decide +kernel
theorem dX6_remember_31 : decode cX6_remember 31 = .ok (.getfield 22, 3) := by decide +kernel
theorem dX6_remember_34 : decode cX6_remember 34 = .ok (.iconst 1, 1) := by decide +kernel
theorem dX6_remember_35 : decode cX6_remember 35 = .ok (.iadd, 1) := by decide +kernel
theorem dX6_remember_36 : decode cX6_remember 36 = .ok (.goto 4, 3) := by decide +kernel
theorem dX6_remember_39 : decode cX6_remember 39 = .ok (.iconst 0, 1) := by decide +kernel
theorem dX6_remember_40 : decode cX6_remember 40 = .ok (.putfield 22, 3) := by decide +kernel
theorem dX6_remember_43 : decode cX6_remember 43 = .ok (.aload_n 0, 1) := by decide +kernel
theorem dX6_remember_44 : decode cX6_remember 44 = .ok (.aload_n 0, 1) := by decide +kernel
theorem dX6_remember_45 : decode cX6_remember 45 = .ok (.getfield 18, 3) := by decide +kernel
theorem dX6_remember_48 : decode cX6_remember 48 = .ok (.bipush 8, 2) := by decide +kernel
theorem dX6_remember_50 : decode cX6_remember 50 = .ok (.if_icmp .ge 12, 3) := by decide +kernel
theorem dX6_remember_53 : decode cX6_remember 53 = .ok (.aload_n 0, 1) := by decide +kernel
theorem dX6_remember_54 : decode cX6_remember 54 = .ok (.getfield 18, 3) := by decide +kernel
theorem dX6_remember_57 : decode cX6_remember 57 = .ok (.iconst 1, 1) := by decide +kernel
theorem dX6_remember_58 : decode cX6_remember 58 = .ok (.iadd, 1) := by decide +kernel
theorem dX6_remember_59 : decode cX6_remember 59 = .ok (.goto 7, 3) := by decide +kernel
theorem dX6_remember_62 : decode cX6_remember 62 = .ok (.aload_n 0, 1) := by decide +kernel
theorem dX6_remember_63 : decode cX6_remember 63 = .ok (.getfield 18, 3) := by decide +kernel
theorem dX6_remember_66 : decode cX6_remember 66 = .ok (.putfield 18, 3) := by decide +kernel
theorem dX6_remember_69 : decode cX6_remember 69 = .ok (.return_, 1) := by decide +kernel
def F_X6_remember (y1 : Nat) (S : Nat → Nat → HV) : Option (Nat → Nat → HV) := (if vpb ((S 11 7).1 1) 8 = true then (lt (3 + (((S 11 7).1 1)).toNatClampNeg) fun yx1 => (lt (F_X5_copyFrom yx1 y1 S) fun S9 => (if 8 ≤ (((S9 11 7).1 1) + 1) then (lt (up S9 11 (up (S9 11) 7 (sS (S9 11 7) 1 0))) fun S10 => (if 8 ≤ ((S10 11 7).1 2) then (lt (up S10 11 (up (S10 11) 7 (sS (S10 11 7) 2 ((S10 11 7).1 2)))) fun S11 => some S11) else (lt (up S10 11 (up (S10 11) 7 (sS (S10 11 7) 2 (((S10 11 7).1 2) + 1)))) fun S12 => some S12))) else (lt (up S9 11 (up (S9 11) 7 (sS (S9 11 7) 1 (((S9 11 7).1 1) + 1)))) fun S13 => (if 8 ≤ ((S13 11 7).1 2) then (lt (up S13 11 (up (S13 11) 7 (sS (S13 11 7) 2 ((S13 11 7).1 2)))) fun S14 => some S14) else (lt (up S13 11 (up (S13 11) 7 (sS (S13 11 7) 2 (((S13 11 7).1 2) + 1)))) fun S15 => some S15)))))) else (if 8 ≤ (((S 11 7).1 1) + 1) then (lt (up S 11 (up (S 11) 7 (sS (S 11 7) 1 0))) fun S2 => (if 8 ≤ ((S2 11 7).1 2) then (lt (up S2 11 (up (S2 11) 7 (sS (S2 11 7) 2 ((S2 11 7).1 2)))) fun S3 => some S3) else (lt (up S2 11 (up (S2 11) 7 (sS (S2 11 7) 2 (((S2 11 7).1 2) + 1)))) fun S4 => some S4))) else (lt (up S 11 (up (S 11) 7 (sS (S 11 7) 1 (((S 11 7).1 1) + 1)))) fun S5 => (if 8 ≤ ((S5 11 7).1 2) then (lt (up S5 11 (up (S5 11) 7 (sS (S5 11 7) 2 ((S5 11 7).1 2)))) fun S6 => some S6) else (lt (up S5 11 (up (S5 11) 7 (sS (S5 11 7) 2 (((S5 11 7).1 2) + 1)))) fun S7 => some S7)))))
theorem c_X6_remember {w : WP} (hW : gW w) {Ω : OM}  {S : Nat → Nat → HV} (e : Ω.1 = S) (y1 : Nat) (hy1 : y1 ≤ 10) {S' : Nat → Nat → HV} (hF : F_X6_remember y1 S = some S') {Ω' : OM} (e2 : (S', Ω.2) = Ω') : gM w 5 yX6_remember cX6_remember 3 none [.ref (wAd w (8, 11, 7, 0)), .ref (wAd w (0, y1, 0, 0))] (cA w Ω) none (cA w Ω') := by
  refine gM_of "HedgeMessages$History" rfl (by decide) (kR rfl) fun X C => ?_
  unfold F_X6_remember at hF
  subst e2
  show gV w X _ _ 0 [(0, .ref (wAd w (8, 11, 7, 0))), (1, .ref (wAd w (0, y1, 0, 0)))] []
  refine r_ct (ct' := cA w (S, Ω.2)) (by rw [← e]) ?_
  refine r_aload_n C (k := 0) rfl rfl dX6_remember_0 ?_
  refine r_aload_n C (k := 0) rfl rfl dX6_remember_1 ?_
  refine og_8_1 C (hW.ok k8) (congrFun (congrFun (show (S, Ω.2).1 = S from rfl) 11) 7) wm1_216 dX6_remember_2 ?_
  refine r_callV C (d' := 0) [.int ((S 11 7).1 1)] (c_X6_stateAt hW ((S 11 7).1 1)) myX6_stateAt wm4_141 ⟨_, _, _, _, (hW.ok k8), rfl, rfl, rfl, rfl⟩ rfl (kR rfl) (by decide) (kR rfl) rfl dX6_remember_5 ?_
  refine r_astoreq_n C (lo' := [(2, va_rf (dHist w ((S 11 7).1 1))), (0, .ref (wAd w (8, 11, 7, 0))), (1, .ref (wAd w (0, y1, 0, 0)))]) rfl (by decide) rfl dX6_remember_8 ?_
  refine r_aloadq_n C (k := 0) rfl rfl dX6_remember_9 ?_
  by_cases hc : vpb ((S 11 7).1 1) 8 = true
  · rw [if_pos hc] at hF
    obtain ⟨yx1, eyx1, hF⟩ := lt_e hF
    have hyx1 : yx1 ≤ 10 := by rw [← eyx1]; exact dH_le hc
    rw [dH_s hc, eyx1]
    refine r_ifnull C dX6_remember_10 ?_
    refine r_lq (lo' := [(2, .ref (wAd w (0, yx1, 0, 0))), (0, .ref (wAd w (8, 11, 7, 0))), (1, .ref (wAd w (0, y1, 0, 0)))]) rfl ?_
    refine r_aload_n C (k := 0) rfl rfl dX6_remember_13 ?_
    refine r_aload_n C (k := 2) rfl rfl dX6_remember_14 ?_
    obtain ⟨S9, hS9, hF⟩ := lt_e hF
    refine r_callV C (d' := 4) [.ref (wAd w (0, y1, 0, 0))] (c_X5_copyFrom hW hyx1 hy1 (show (S, Ω.2).1 = S from rfl) hS9 rfl) myX5_copyFrom wm4_145 ⟨_, _, _, _, (hW.ok (k0 hyx1)), rfl, rfl, rfl, rfl⟩ rfl (kR rfl) (by decide) (kR rfl) rfl dX6_remember_15 ?_
    refine r_aload_n C (k := 1) rfl rfl dX6_remember_18 ?_
    refine r_aload_n C (k := 1) rfl rfl dX6_remember_19 ?_
    refine og_8_1 C (hW.ok k8) (congrFun (congrFun (show (S9, Ω.2).1 = S9 from rfl) 11) 7) wm1_216 dX6_remember_20 ?_
    refine r_iconst C (v := 1) rfl dX6_remember_23 ?_
    refine r_iadd C dX6_remember_24 ?_
    refine r_bipush C (v := 8) rfl dX6_remember_25 ?_
    refine r_icmp_ge C (tgt := 39) rfl dX6_remember_27 (fun hc => ?_) (fun hc => ?_)
    · rw [if_pos hc] at hF
      refine r_iconst C (v := 0) rfl dX6_remember_39 ?_
      obtain ⟨S10, eS10, hF⟩ := lt_e hF
      refine op_8_1 C hW.x (Or.inl k8) (hW.fr k8) (congrFun (congrFun (show (S9, Ω.2).1 = S9 from rfl) 11) 7) wm1_216 dX6_remember_40 (congrArg (fun z => (z, Ω.2)) eS10) ?_
      refine r_aload_n C (k := 1) rfl rfl dX6_remember_43 ?_
      refine r_aload_n C (k := 1) rfl rfl dX6_remember_44 ?_
      refine og_8_2 C (hW.ok k8) (congrFun (congrFun (show (S10, Ω.2).1 = S10 from rfl) 11) 7) wm1_217 dX6_remember_45 ?_
      refine r_bipush C (v := 8) rfl dX6_remember_48 ?_
      refine r_icmp_ge C (tgt := 62) rfl dX6_remember_50 (fun hc => ?_) (fun hc => ?_)
      · rw [if_pos hc] at hF
        refine r_aload_n C (k := 1) rfl rfl dX6_remember_62 ?_
        refine og_8_2 C (hW.ok k8) (congrFun (congrFun (show (S10, Ω.2).1 = S10 from rfl) 11) 7) wm1_217 dX6_remember_63 ?_
        obtain ⟨S11, eS11, hF⟩ := lt_e hF
        refine op_8_2 C hW.x (Or.inl k8) (hW.fr k8) (congrFun (congrFun (show (S10, Ω.2).1 = S10 from rfl) 11) 7) wm1_217 dX6_remember_66 (congrArg (fun z => (z, Ω.2)) eS11) ?_
        cases hF
        exact r_return C dX6_remember_69
      · rw [if_neg hc] at hF
        refine r_aload_n C (k := 1) rfl rfl dX6_remember_53 ?_
        refine og_8_2 C (hW.ok k8) (congrFun (congrFun (show (S10, Ω.2).1 = S10 from rfl) 11) 7) wm1_217 dX6_remember_54 ?_
        refine r_iconst C (v := 1) rfl dX6_remember_57 ?_
        refine r_iadd C dX6_remember_58 ?_
        refine r_goto C (tgt := 66) rfl dX6_remember_59 ?_
        obtain ⟨S12, eS12, hF⟩ := lt_e hF
        refine op_8_2 C hW.x (Or.inl k8) (hW.fr k8) (congrFun (congrFun (show (S10, Ω.2).1 = S10 from rfl) 11) 7) wm1_217 dX6_remember_66 (congrArg (fun z => (z, Ω.2)) eS12) ?_
        cases hF
        exact r_return C dX6_remember_69
    · rw [if_neg hc] at hF
      refine r_aload_n C (k := 1) rfl rfl dX6_remember_30 ?_
      refine og_8_1 C (hW.ok k8) (congrFun (congrFun (show (S9, Ω.2).1 = S9 from rfl) 11) 7) wm1_216 dX6_remember_31 ?_
      refine r_iconst C (v := 1) rfl dX6_remember_34 ?_
      refine r_iadd C dX6_remember_35 ?_
      refine r_goto C (tgt := 40) rfl dX6_remember_36 ?_
      obtain ⟨S13, eS13, hF⟩ := lt_e hF
      refine op_8_1 C hW.x (Or.inl k8) (hW.fr k8) (congrFun (congrFun (show (S9, Ω.2).1 = S9 from rfl) 11) 7) wm1_216 dX6_remember_40 (congrArg (fun z => (z, Ω.2)) eS13) ?_
      refine r_aload_n C (k := 1) rfl rfl dX6_remember_43 ?_
      refine r_aload_n C (k := 1) rfl rfl dX6_remember_44 ?_
      refine og_8_2 C (hW.ok k8) (congrFun (congrFun (show (S13, Ω.2).1 = S13 from rfl) 11) 7) wm1_217 dX6_remember_45 ?_
      refine r_bipush C (v := 8) rfl dX6_remember_48 ?_
      refine r_icmp_ge C (tgt := 62) rfl dX6_remember_50 (fun hc => ?_) (fun hc => ?_)
      · rw [if_pos hc] at hF
        refine r_aload_n C (k := 1) rfl rfl dX6_remember_62 ?_
        refine og_8_2 C (hW.ok k8) (congrFun (congrFun (show (S13, Ω.2).1 = S13 from rfl) 11) 7) wm1_217 dX6_remember_63 ?_
        obtain ⟨S14, eS14, hF⟩ := lt_e hF
        refine op_8_2 C hW.x (Or.inl k8) (hW.fr k8) (congrFun (congrFun (show (S13, Ω.2).1 = S13 from rfl) 11) 7) wm1_217 dX6_remember_66 (congrArg (fun z => (z, Ω.2)) eS14) ?_
        cases hF
        exact r_return C dX6_remember_69
      · rw [if_neg hc] at hF
        refine r_aload_n C (k := 1) rfl rfl dX6_remember_53 ?_
        refine og_8_2 C (hW.ok k8) (congrFun (congrFun (show (S13, Ω.2).1 = S13 from rfl) 11) 7) wm1_217 dX6_remember_54 ?_
        refine r_iconst C (v := 1) rfl dX6_remember_57 ?_
        refine r_iadd C dX6_remember_58 ?_
        refine r_goto C (tgt := 66) rfl dX6_remember_59 ?_
        obtain ⟨S15, eS15, hF⟩ := lt_e hF
        refine op_8_2 C hW.x (Or.inl k8) (hW.fr k8) (congrFun (congrFun (show (S13, Ω.2).1 = S13 from rfl) 11) 7) wm1_217 dX6_remember_66 (congrArg (fun z => (z, Ω.2)) eS15) ?_
        cases hF
        exact r_return C dX6_remember_69
  · rw [if_neg hc] at hF
    rw [dH_n hc]
    refine r_ifnullN C (tgt := 18) rfl dX6_remember_10 ?_
    refine r_lq (lo' := [(2, .null), (0, .ref (wAd w (8, 11, 7, 0))), (1, .ref (wAd w (0, y1, 0, 0)))]) rfl ?_
    refine r_aload_n C (k := 1) rfl rfl dX6_remember_18 ?_
    refine r_aload_n C (k := 1) rfl rfl dX6_remember_19 ?_
    refine og_8_1 C (hW.ok k8) (congrFun (congrFun (show (S, Ω.2).1 = S from rfl) 11) 7) wm1_216 dX6_remember_20 ?_
    refine r_iconst C (v := 1) rfl dX6_remember_23 ?_
    refine r_iadd C dX6_remember_24 ?_
    refine r_bipush C (v := 8) rfl dX6_remember_25 ?_
    refine r_icmp_ge C (tgt := 39) rfl dX6_remember_27 (fun hc => ?_) (fun hc => ?_)
    · rw [if_pos hc] at hF
      refine r_iconst C (v := 0) rfl dX6_remember_39 ?_
      obtain ⟨S2, eS2, hF⟩ := lt_e hF
      refine op_8_1 C hW.x (Or.inl k8) (hW.fr k8) (congrFun (congrFun (show (S, Ω.2).1 = S from rfl) 11) 7) wm1_216 dX6_remember_40 (congrArg (fun z => (z, Ω.2)) eS2) ?_
      refine r_aload_n C (k := 1) rfl rfl dX6_remember_43 ?_
      refine r_aload_n C (k := 1) rfl rfl dX6_remember_44 ?_
      refine og_8_2 C (hW.ok k8) (congrFun (congrFun (show (S2, Ω.2).1 = S2 from rfl) 11) 7) wm1_217 dX6_remember_45 ?_
      refine r_bipush C (v := 8) rfl dX6_remember_48 ?_
      refine r_icmp_ge C (tgt := 62) rfl dX6_remember_50 (fun hc => ?_) (fun hc => ?_)
      · rw [if_pos hc] at hF
        refine r_aload_n C (k := 1) rfl rfl dX6_remember_62 ?_
        refine og_8_2 C (hW.ok k8) (congrFun (congrFun (show (S2, Ω.2).1 = S2 from rfl) 11) 7) wm1_217 dX6_remember_63 ?_
        obtain ⟨S3, eS3, hF⟩ := lt_e hF
        refine op_8_2 C hW.x (Or.inl k8) (hW.fr k8) (congrFun (congrFun (show (S2, Ω.2).1 = S2 from rfl) 11) 7) wm1_217 dX6_remember_66 (congrArg (fun z => (z, Ω.2)) eS3) ?_
        cases hF
        exact r_return C dX6_remember_69
      · rw [if_neg hc] at hF
        refine r_aload_n C (k := 1) rfl rfl dX6_remember_53 ?_
        refine og_8_2 C (hW.ok k8) (congrFun (congrFun (show (S2, Ω.2).1 = S2 from rfl) 11) 7) wm1_217 dX6_remember_54 ?_
        refine r_iconst C (v := 1) rfl dX6_remember_57 ?_
        refine r_iadd C dX6_remember_58 ?_
        refine r_goto C (tgt := 66) rfl dX6_remember_59 ?_
        obtain ⟨S4, eS4, hF⟩ := lt_e hF
        refine op_8_2 C hW.x (Or.inl k8) (hW.fr k8) (congrFun (congrFun (show (S2, Ω.2).1 = S2 from rfl) 11) 7) wm1_217 dX6_remember_66 (congrArg (fun z => (z, Ω.2)) eS4) ?_
        cases hF
        exact r_return C dX6_remember_69
    · rw [if_neg hc] at hF
      refine r_aload_n C (k := 1) rfl rfl dX6_remember_30 ?_
      refine og_8_1 C (hW.ok k8) (congrFun (congrFun (show (S, Ω.2).1 = S from rfl) 11) 7) wm1_216 dX6_remember_31 ?_
      refine r_iconst C (v := 1) rfl dX6_remember_34 ?_
      refine r_iadd C dX6_remember_35 ?_
      refine r_goto C (tgt := 40) rfl dX6_remember_36 ?_
      obtain ⟨S5, eS5, hF⟩ := lt_e hF
      refine op_8_1 C hW.x (Or.inl k8) (hW.fr k8) (congrFun (congrFun (show (S, Ω.2).1 = S from rfl) 11) 7) wm1_216 dX6_remember_40 (congrArg (fun z => (z, Ω.2)) eS5) ?_
      refine r_aload_n C (k := 1) rfl rfl dX6_remember_43 ?_
      refine r_aload_n C (k := 1) rfl rfl dX6_remember_44 ?_
      refine og_8_2 C (hW.ok k8) (congrFun (congrFun (show (S5, Ω.2).1 = S5 from rfl) 11) 7) wm1_217 dX6_remember_45 ?_
      refine r_bipush C (v := 8) rfl dX6_remember_48 ?_
      refine r_icmp_ge C (tgt := 62) rfl dX6_remember_50 (fun hc => ?_) (fun hc => ?_)
      · rw [if_pos hc] at hF
        refine r_aload_n C (k := 1) rfl rfl dX6_remember_62 ?_
        refine og_8_2 C (hW.ok k8) (congrFun (congrFun (show (S5, Ω.2).1 = S5 from rfl) 11) 7) wm1_217 dX6_remember_63 ?_
        obtain ⟨S6, eS6, hF⟩ := lt_e hF
        refine op_8_2 C hW.x (Or.inl k8) (hW.fr k8) (congrFun (congrFun (show (S5, Ω.2).1 = S5 from rfl) 11) 7) wm1_217 dX6_remember_66 (congrArg (fun z => (z, Ω.2)) eS6) ?_
        cases hF
        exact r_return C dX6_remember_69
      · rw [if_neg hc] at hF
        refine r_aload_n C (k := 1) rfl rfl dX6_remember_53 ?_
        refine og_8_2 C (hW.ok k8) (congrFun (congrFun (show (S5, Ω.2).1 = S5 from rfl) 11) 7) wm1_217 dX6_remember_54 ?_
        refine r_iconst C (v := 1) rfl dX6_remember_57 ?_
        refine r_iadd C dX6_remember_58 ?_
        refine r_goto C (tgt := 66) rfl dX6_remember_59 ?_
        obtain ⟨S7, eS7, hF⟩ := lt_e hF
        refine op_8_2 C hW.x (Or.inl k8) (hW.fr k8) (congrFun (congrFun (show (S5, Ω.2).1 = S5 from rfl) 11) 7) wm1_217 dX6_remember_66 (congrArg (fun z => (z, Ω.2)) eS7) ?_
        cases hF
        exact r_return C dX6_remember_69
theorem dX6_takeBack_0 : decode cX6_takeBack 0 = .ok (.aload_n 0, 1) := by decide +kernel
theorem dX6_takeBack_1 : decode cX6_takeBack 1 = .ok (.aload_n 0, 1) := by decide +kernel
theorem dX6_takeBack_2 : decode cX6_takeBack 2 = .ok (.getfield 22, 3) := by decide +kernel
theorem dX6_takeBack_5 : decode cX6_takeBack 5 = .ok (.ifCond .le 12, 3) := by decide +kernel
theorem dX6_takeBack_8 : decode cX6_takeBack 8 = .ok (.aload_n 0, 1) := by decide +kernel
theorem dX6_takeBack_9 : decode cX6_takeBack 9 = .ok (.getfield 22, 3) := by decide +kernel
theorem dX6_takeBack_12 : decode cX6_takeBack 12 = .ok (.iconst 1, 1) := by decide +kernel
theorem dX6_takeBack_13 : decode cX6_takeBack 13 = .ok (.isub, 1) := by decide +kernel
theorem dX6_takeBack_14 : decode cX6_takeBack 14 = .ok (.goto 5, 3) := by decide +kernel
theorem dX6_takeBack_17 : decode cX6_takeBack 17 = .ok (.bipush 7, 2) := by decide +kernel
theorem dX6_takeBack_19 : decode cX6_takeBack 19 = .ok (.putfield 22, 3) := by decide +kernel
theorem dX6_takeBack_22 : decode cX6_takeBack 22 = .ok (.aload_n 0, 1) := by decide +kernel
theorem dX6_takeBack_23 : decode cX6_takeBack 23 = .ok (.dup, 1) := by decide +kernel
theorem dX6_takeBack_24 : decode cX6_takeBack 24 = .ok (.getfield 18, 3) := by decide +kernel
theorem dX6_takeBack_27 : decode cX6_takeBack 27 = .ok (.iconst 1, 1) := by decide +kernel
theorem dX6_takeBack_28 : decode cX6_takeBack 28 = .ok (.isub, 1) := by decide +kernel
theorem dX6_takeBack_29 : decode cX6_takeBack 29 = .ok (.putfield 18, 3) := by decide +kernel
theorem dX6_takeBack_32 : decode cX6_takeBack 32 = .ok (.aload_n 0, 1) := by decide +kernel
theorem dX6_takeBack_33 : decode cX6_takeBack 33 = .ok (.aload_n 0, 1) := by decide +kernel
theorem dX6_takeBack_34 : decode cX6_takeBack 34 = .ok (.getfield 22, 3) := by decide +kernel
theorem dX6_takeBack_37 : decode cX6_takeBack 37 = .ok (.invokevirtual 25, 3) := by decide +kernel
theorem dX6_takeBack_40 : decode cX6_takeBack 40 = .ok (.astore_n 2, 1) := by decide +kernel
theorem dX6_takeBack_41 : decode cX6_takeBack 41 = .ok (.aload_n 2, 1) := by decide +kernel
theorem dX6_takeBack_42 : decode cX6_takeBack 42 = .ok (.ifnull 8, 3) := by decide +kernel
theorem dX6_takeBack_45 : decode cX6_takeBack 45 = .ok (.aload_n 1, 1) := by decide +kernel
theorem dX6_takeBack_46 : decode cX6_takeBack 46 = .ok (.aload_n 2, 1) := by decide +kernel
theorem dX6_takeBack_47 : decode cX6_takeBack 47 = .ok (.invokevirtual 29, 3) := by decide +kernel
theorem dX6_takeBack_50 : decode cX6_takeBack 50 = .ok (.return_, 1) := by decide +kernel
def F_X6_takeBack (y1 : Nat) (S : Nat → Nat → HV) : Option (Nat → Nat → HV) := (if ((S 11 7).1 1) ≤ 0 then (lt (up S 11 (up (S 11) 7 (sS (S 11 7) 1 7))) fun S1 => (lt (up S1 11 (up (S1 11) 7 (sS (S1 11 7) 2 (((S1 11 7).1 2) - 1)))) fun S2 => (if vpb ((S2 11 7).1 1) 8 = true then (lt (3 + (((S2 11 7).1 1)).toNatClampNeg) fun yx3 => (lt (F_X5_copyFrom y1 yx3 S2) fun S5 => some S5)) else some S2))) else (lt (up S 11 (up (S 11) 7 (sS (S 11 7) 1 (((S 11 7).1 1) - 1)))) fun S6 => (lt (up S6 11 (up (S6 11) 7 (sS (S6 11 7) 2 (((S6 11 7).1 2) - 1)))) fun S7 => (if vpb ((S7 11 7).1 1) 8 = true then (lt (3 + (((S7 11 7).1 1)).toNatClampNeg) fun yx8 => (lt (F_X5_copyFrom y1 yx8 S7) fun S10 => some S10)) else some S7))))
theorem c_X6_takeBack {w : WP} (hW : gW w) {Ω : OM}  {S : Nat → Nat → HV} (e : Ω.1 = S) (y1 : Nat) (hy1 : y1 ≤ 10) {S' : Nat → Nat → HV} (hF : F_X6_takeBack y1 S = some S') {Ω' : OM} (e2 : (S', Ω.2) = Ω') : gM w 5 yX6_takeBack cX6_takeBack 3 none [.ref (wAd w (8, 11, 7, 0)), .ref (wAd w (0, y1, 0, 0))] (cA w Ω) none (cA w Ω') := by
  refine gM_of "HedgeMessages$History" rfl (by decide) (kR rfl) fun X C => ?_
  unfold F_X6_takeBack at hF
  subst e2
  show gV w X _ _ 0 [(0, .ref (wAd w (8, 11, 7, 0))), (1, .ref (wAd w (0, y1, 0, 0)))] []
  refine r_ct (ct' := cA w (S, Ω.2)) (by rw [← e]) ?_
  refine r_aload_n C (k := 0) rfl rfl dX6_takeBack_0 ?_
  refine r_aload_n C (k := 0) rfl rfl dX6_takeBack_1 ?_
  refine og_8_1 C (hW.ok k8) (congrFun (congrFun (show (S, Ω.2).1 = S from rfl) 11) 7) wm1_216 dX6_takeBack_2 ?_
  refine r_if_le C (tgt := 17) rfl dX6_takeBack_5 (fun hc => ?_) (fun hc => ?_)
  · rw [if_pos hc] at hF
    refine r_bipush C (v := 7) rfl dX6_takeBack_17 ?_
    obtain ⟨S1, eS1, hF⟩ := lt_e hF
    refine op_8_1 C hW.x (Or.inl k8) (hW.fr k8) (congrFun (congrFun (show (S, Ω.2).1 = S from rfl) 11) 7) wm1_216 dX6_takeBack_19 (congrArg (fun z => (z, Ω.2)) eS1) ?_
    refine r_aload_n C (k := 0) rfl rfl dX6_takeBack_22 ?_
    refine r_dup C rfl dX6_takeBack_23 ?_
    refine og_8_2 C (hW.ok k8) (congrFun (congrFun (show (S1, Ω.2).1 = S1 from rfl) 11) 7) wm1_217 dX6_takeBack_24 ?_
    refine r_iconst C (v := 1) rfl dX6_takeBack_27 ?_
    refine r_isub C dX6_takeBack_28 ?_
    obtain ⟨S2, eS2, hF⟩ := lt_e hF
    refine op_8_2 C hW.x (Or.inl k8) (hW.fr k8) (congrFun (congrFun (show (S1, Ω.2).1 = S1 from rfl) 11) 7) wm1_217 dX6_takeBack_29 (congrArg (fun z => (z, Ω.2)) eS2) ?_
    refine r_aload_n C (k := 0) rfl rfl dX6_takeBack_32 ?_
    refine r_aload_n C (k := 0) rfl rfl dX6_takeBack_33 ?_
    refine og_8_1 C (hW.ok k8) (congrFun (congrFun (show (S2, Ω.2).1 = S2 from rfl) 11) 7) wm1_216 dX6_takeBack_34 ?_
    refine r_callV C (d' := 0) [.int ((S2 11 7).1 1)] (c_X6_stateAt hW ((S2 11 7).1 1)) myX6_stateAt wm4_141 ⟨_, _, _, _, (hW.ok k8), rfl, rfl, rfl, rfl⟩ rfl (kR rfl) (by decide) (kR rfl) rfl dX6_takeBack_37 ?_
    refine r_astoreq_n C (lo' := [(2, va_rf (dHist w ((S2 11 7).1 1))), (0, .ref (wAd w (8, 11, 7, 0))), (1, .ref (wAd w (0, y1, 0, 0)))]) rfl (by decide) rfl dX6_takeBack_40 ?_
    refine r_aloadq_n C (k := 0) rfl rfl dX6_takeBack_41 ?_
    by_cases hc : vpb ((S2 11 7).1 1) 8 = true
    · rw [if_pos hc] at hF
      obtain ⟨yx3, eyx3, hF⟩ := lt_e hF
      have hyx3 : yx3 ≤ 10 := by rw [← eyx3]; exact dH_le hc
      rw [dH_s hc, eyx3]
      refine r_ifnull C dX6_takeBack_42 ?_
      refine r_lq (lo' := [(2, .ref (wAd w (0, yx3, 0, 0))), (0, .ref (wAd w (8, 11, 7, 0))), (1, .ref (wAd w (0, y1, 0, 0)))]) rfl ?_
      refine r_aload_n C (k := 2) rfl rfl dX6_takeBack_45 ?_
      refine r_aload_n C (k := 0) rfl rfl dX6_takeBack_46 ?_
      obtain ⟨S5, hS5, hF⟩ := lt_e hF
      refine r_callV C (d' := 4) [.ref (wAd w (0, yx3, 0, 0))] (c_X5_copyFrom hW hy1 hyx3 (show (S2, Ω.2).1 = S2 from rfl) hS5 rfl) myX5_copyFrom wm4_145 ⟨_, _, _, _, (hW.ok (k0 hy1)), rfl, rfl, rfl, rfl⟩ rfl (kR rfl) (by decide) (kR rfl) rfl dX6_takeBack_47 ?_
      cases hF
      exact r_return C dX6_takeBack_50
    · rw [if_neg hc] at hF
      rw [dH_n hc]
      refine r_ifnullN C (tgt := 50) rfl dX6_takeBack_42 ?_
      refine r_lq (lo' := [(2, .null), (0, .ref (wAd w (8, 11, 7, 0))), (1, .ref (wAd w (0, y1, 0, 0)))]) rfl ?_
      cases hF
      exact r_return C dX6_takeBack_50
  · rw [if_neg hc] at hF
    refine r_aload_n C (k := 0) rfl rfl dX6_takeBack_8 ?_
    refine og_8_1 C (hW.ok k8) (congrFun (congrFun (show (S, Ω.2).1 = S from rfl) 11) 7) wm1_216 dX6_takeBack_9 ?_
    refine r_iconst C (v := 1) rfl dX6_takeBack_12 ?_
    refine r_isub C dX6_takeBack_13 ?_
    refine r_goto C (tgt := 19) rfl dX6_takeBack_14 ?_
    obtain ⟨S6, eS6, hF⟩ := lt_e hF
    refine op_8_1 C hW.x (Or.inl k8) (hW.fr k8) (congrFun (congrFun (show (S, Ω.2).1 = S from rfl) 11) 7) wm1_216 dX6_takeBack_19 (congrArg (fun z => (z, Ω.2)) eS6) ?_
    refine r_aload_n C (k := 0) rfl rfl dX6_takeBack_22 ?_
    refine r_dup C rfl dX6_takeBack_23 ?_
    refine og_8_2 C (hW.ok k8) (congrFun (congrFun (show (S6, Ω.2).1 = S6 from rfl) 11) 7) wm1_217 dX6_takeBack_24 ?_
    refine r_iconst C (v := 1) rfl dX6_takeBack_27 ?_
    refine r_isub C dX6_takeBack_28 ?_
    obtain ⟨S7, eS7, hF⟩ := lt_e hF
    refine op_8_2 C hW.x (Or.inl k8) (hW.fr k8) (congrFun (congrFun (show (S6, Ω.2).1 = S6 from rfl) 11) 7) wm1_217 dX6_takeBack_29 (congrArg (fun z => (z, Ω.2)) eS7) ?_
    refine r_aload_n C (k := 0) rfl rfl dX6_takeBack_32 ?_
    refine r_aload_n C (k := 0) rfl rfl dX6_takeBack_33 ?_
    refine og_8_1 C (hW.ok k8) (congrFun (congrFun (show (S7, Ω.2).1 = S7 from rfl) 11) 7) wm1_216 dX6_takeBack_34 ?_
    refine r_callV C (d' := 0) [.int ((S7 11 7).1 1)] (c_X6_stateAt hW ((S7 11 7).1 1)) myX6_stateAt wm4_141 ⟨_, _, _, _, (hW.ok k8), rfl, rfl, rfl, rfl⟩ rfl (kR rfl) (by decide) (kR rfl) rfl dX6_takeBack_37 ?_
    refine r_astoreq_n C (lo' := [(2, va_rf (dHist w ((S7 11 7).1 1))), (0, .ref (wAd w (8, 11, 7, 0))), (1, .ref (wAd w (0, y1, 0, 0)))]) rfl (by decide) rfl dX6_takeBack_40 ?_
    refine r_aloadq_n C (k := 0) rfl rfl dX6_takeBack_41 ?_
    by_cases hc : vpb ((S7 11 7).1 1) 8 = true
    · rw [if_pos hc] at hF
      obtain ⟨yx8, eyx8, hF⟩ := lt_e hF
      have hyx8 : yx8 ≤ 10 := by rw [← eyx8]; exact dH_le hc
      rw [dH_s hc, eyx8]
      refine r_ifnull C dX6_takeBack_42 ?_
      refine r_lq (lo' := [(2, .ref (wAd w (0, yx8, 0, 0))), (0, .ref (wAd w (8, 11, 7, 0))), (1, .ref (wAd w (0, y1, 0, 0)))]) rfl ?_
      refine r_aload_n C (k := 2) rfl rfl dX6_takeBack_45 ?_
      refine r_aload_n C (k := 0) rfl rfl dX6_takeBack_46 ?_
      obtain ⟨S10, hS10, hF⟩ := lt_e hF
      refine r_callV C (d' := 4) [.ref (wAd w (0, yx8, 0, 0))] (c_X5_copyFrom hW hy1 hyx8 (show (S7, Ω.2).1 = S7 from rfl) hS10 rfl) myX5_copyFrom wm4_145 ⟨_, _, _, _, (hW.ok (k0 hy1)), rfl, rfl, rfl, rfl⟩ rfl (kR rfl) (by decide) (kR rfl) rfl dX6_takeBack_47 ?_
      cases hF
      exact r_return C dX6_takeBack_50
    · rw [if_neg hc] at hF
      rw [dH_n hc]
      refine r_ifnullN C (tgt := 50) rfl dX6_takeBack_42 ?_
      refine r_lq (lo' := [(2, .null), (0, .ref (wAd w (8, 11, 7, 0))), (1, .ref (wAd w (0, y1, 0, 0)))]) rfl ?_
      cases hF
      exact r_return C dX6_takeBack_50
theorem dX10_performOnSlot_0 : decode cX10_performOnSlot 0 = .ok (.aload_n 0, 1) := by decide +kernel
theorem dX10_performOnSlot_1 : decode cX10_performOnSlot 1 = .ok (.getfield 10, 3) := by decide +kernel
theorem dX10_performOnSlot_4 : decode cX10_performOnSlot 4 = .ok (.iload_n 2, 1) := by decide +kernel
theorem dX10_performOnSlot_5 : decode cX10_performOnSlot 5 = .ok (.invokevirtual 388, 3) := by decide +kernel
theorem dX10_performOnSlot_8 : decode cX10_performOnSlot 8 = .ok (.ifCond .ne 5, 3) := by decide +kernel
theorem dX10_performOnSlot_11 : decode cX10_performOnSlot 11 = .ok (.iconst 0, 1) := by decide +kernel
theorem dX10_performOnSlot_12 : decode cX10_performOnSlot 12 = .ok (.ireturn, 1) := by decide +kernel
theorem dX10_performOnSlot_13 : decode cX10_performOnSlot 13 = .ok (.aload_n 1, 1) := by decide +kernel
theorem dX10_performOnSlot_14 : decode cX10_performOnSlot 14 = .ok (.getstatic 428, 3) := by decide +kernel
theorem dX10_performOnSlot_17 : decode cX10_performOnSlot 17 = .ok (.if_acmp .ne 26, 3) := by decide +kernel
theorem dX10_performOnSlot_20 : decode cX10_performOnSlot 20 = .ok (.aload_n 0, 1) := by decide +kernel
theorem dX10_performOnSlot_21 : decode cX10_performOnSlot 21 = .ok (.getfield 10, 3) := by decide +kernel
theorem dX10_performOnSlot_24 : decode cX10_performOnSlot 24 = .ok (.iload_n 2, 1) := by decide +kernel
theorem dX10_performOnSlot_25 : decode cX10_performOnSlot 25 = .ok (.invokevirtual 303, 3) := by decide +kernel
theorem dX10_performOnSlot_28 : decode cX10_performOnSlot 28 = .ok (.ifCond .eq 15, 3) := by decide +kernel
theorem dX10_performOnSlot_31 : decode cX10_performOnSlot 31 = .ok (.aload_n 0, 1) := by decide +kernel
theorem dX10_performOnSlot_32 : decode cX10_performOnSlot 32 = .ok (.getfield 10, 3) := by decide +kernel
theorem dX10_performOnSlot_35 : decode cX10_performOnSlot 35 = .ok (.iload_n 2, 1) := by decide +kernel
theorem dX10_performOnSlot_36 : decode cX10_performOnSlot 36 = .ok (.iload_n 3, 1) := by decide +kernel
theorem dX10_performOnSlot_37 : decode cX10_performOnSlot 37 = .ok (.invokevirtual 308, 3) := by decide +kernel
theorem dX10_performOnSlot_40 : decode cX10_performOnSlot 40 = .ok (.goto 94, 3) := by decide +kernel
theorem dX10_performOnSlot_43 : decode cX10_performOnSlot 43 = .ok (.aload_n 1, 1) := by decide +kernel
theorem dX10_performOnSlot_44 : decode cX10_performOnSlot 44 = .ok (.getstatic 432, 3) := by decide +kernel
theorem dX10_performOnSlot_47 : decode cX10_performOnSlot 47 = .ok (.if_acmp .ne 25, 3) := by decide +kernel
theorem dX10_performOnSlot_50 : decode cX10_performOnSlot 50 = .ok (.aload_n 0, 1) := by decide +kernel
theorem dX10_performOnSlot_51 : decode cX10_performOnSlot 51 = .ok (.getfield 10, 3) := by decide +kernel
theorem dX10_performOnSlot_54 : decode cX10_performOnSlot 54 = .ok (.iload_n 2, 1) := by decide +kernel
theorem dX10_performOnSlot_55 : decode cX10_performOnSlot 55 = .ok (.invokevirtual 311, 3) := by decide +kernel
theorem dX10_performOnSlot_58 : decode cX10_performOnSlot 58 = .ok (.ifCond .eq 14, 3) := by decide +kernel
theorem dX10_performOnSlot_61 : decode cX10_performOnSlot 61 = .ok (.aload_n 0, 1) := by decide +kernel
theorem dX10_performOnSlot_62 : decode cX10_performOnSlot 62 = .ok (.getfield 10, 3) := by decide +kernel
theorem dX10_performOnSlot_65 : decode cX10_performOnSlot 65 = .ok (.iload_n 2, 1) := by decide +kernel
theorem dX10_performOnSlot_66 : decode cX10_performOnSlot 66 = .ok (.invokevirtual 316, 3) := by decide +kernel
theorem dX10_performOnSlot_69 : decode cX10_performOnSlot 69 = .ok (.goto 65, 3) := by decide +kernel
theorem dX10_performOnSlot_72 : decode cX10_performOnSlot 72 = .ok (.aload_n 1, 1) := by decide +kernel
theorem dX10_performOnSlot_73 : decode cX10_performOnSlot 73 = .ok (.getstatic 435, 3) := by decide +kernel
theorem dX10_performOnSlot_76 : decode cX10_performOnSlot 76 = .ok (.if_acmp .ne 26, 3) := by decide +kernel
theorem dX10_performOnSlot_79 : decode cX10_performOnSlot 79 = .ok (.aload_n 0, 1) := by decide +kernel
theorem dX10_performOnSlot_80 : decode cX10_performOnSlot 80 = .ok (.getfield 10, 3) := by decide +kernel
theorem dX10_performOnSlot_83 : decode cX10_performOnSlot 83 = .ok (.iload_n 2, 1) := by decide +kernel
theorem dX10_performOnSlot_84 : decode cX10_performOnSlot 84 = .ok (.invokevirtual 321, 3) := by decide +kernel
theorem dX10_performOnSlot_87 : decode cX10_performOnSlot 87 = .ok (.ifCond .eq 15, 3) := by decide +kernel
theorem dX10_performOnSlot_90 : decode cX10_performOnSlot 90 = .ok (.aload_n 0, 1) := by decide +kernel
theorem dX10_performOnSlot_91 : decode cX10_performOnSlot 91 = .ok (.getfield 10, 3) := by decide +kernel
theorem dX10_performOnSlot_94 : decode cX10_performOnSlot 94 = .ok (.iload_n 2, 1) := by decide +kernel
theorem dX10_performOnSlot_95 : decode cX10_performOnSlot 95 = .ok (.iload_n 3, 1) := by decide +kernel
theorem dX10_performOnSlot_96 : decode cX10_performOnSlot 96 = .ok (.invokevirtual 326, 3) := by decide +kernel
theorem dX10_performOnSlot_99 : decode cX10_performOnSlot 99 = .ok (.goto 35, 3) := by decide +kernel
theorem dX10_performOnSlot_102 : decode cX10_performOnSlot 102 = .ok (.aload_n 1, 1) := by decide +kernel
theorem dX10_performOnSlot_103 : decode cX10_performOnSlot 103 = .ok (.getstatic 438, 3) := by decide +kernel
theorem dX10_performOnSlot_106 : decode cX10_performOnSlot 106 = .ok (.if_acmp .ne 26, 3) := by decide +kernel
theorem dX10_performOnSlot_109 : decode cX10_performOnSlot 109 = .ok (.aload_n 0, 1) := by decide +kernel
theorem dX10_performOnSlot_110 : decode cX10_performOnSlot 110 = .ok (.getfield 10, 3) := by decide +kernel
theorem dX10_performOnSlot_113 : decode cX10_performOnSlot 113 = .ok (.iload_n 2, 1) := by decide +kernel
theorem dX10_performOnSlot_114 : decode cX10_performOnSlot 114 = .ok (.invokevirtual 331, 3) := by decide +kernel
theorem dX10_performOnSlot_117 : decode cX10_performOnSlot 117 = .ok (.ifCond .eq 15, 3) := by decide +kernel
theorem dX10_performOnSlot_120 : decode cX10_performOnSlot 120 = .ok (.aload_n 0, 1) := by decide +kernel
theorem dX10_performOnSlot_121 : decode cX10_performOnSlot 121 = .ok (.getfield 10, 3) := by decide +kernel
theorem dX10_performOnSlot_124 : decode cX10_performOnSlot 124 = .ok (.iload_n 2, 1) := by decide +kernel
theorem dX10_performOnSlot_125 : decode cX10_performOnSlot 125 = .ok (.iload_n 3, 1) := by decide +kernel
theorem dX10_performOnSlot_126 : decode cX10_performOnSlot 126 = .ok (.invokevirtual 60, 3) := by decide +kernel
theorem dX10_performOnSlot_129 : decode cX10_performOnSlot 129 = .ok (.goto 5, 3) := by decide +kernel
theorem dX10_performOnSlot_132 : decode cX10_performOnSlot 132 = .ok (.iconst 0, 1) := by decide +kernel
theorem dX10_performOnSlot_133 : decode cX10_performOnSlot 133 = .ok (.ireturn, 1) := by decide +kernel
theorem dX10_performOnSlot_134 : decode cX10_performOnSlot 134 = .ok (.iconst 1, 1) := by decide +kernel
theorem dX10_performOnSlot_135 : decode cX10_performOnSlot 135 = .ok (.ireturn, 1) := by decide +kernel
def F_X10_performOnSlot (N : Nat) (kf : Nat) (a2 : Int32) (a3 : Int32) (S : Nat → Nat → HV) : Option (Bool × (Nat → Nat → HV)) := (if (F_X5_hasSlot a2 (S 0)) = true then (if kf = 0 then (if (F_X5_mayPlant a2 (S 0)) = true then (lt (F_X5_plantByHand a2 a3 (S 0)) fun g52 => (lt (up S 0 g52) fun S53 => some (true, S53))) else (if kf = 1 then (if (F_X5_mayRemove a2 (S 0)) = true then (lt (F_X5_removeByHand a2 (S 0)) fun g49 => (lt (up S 0 g49) fun S50 => some (true, S50))) else (if kf = 2 then (if (F_X5_mayTrim a2 (S 0)) = true then (lt (F_X5_trimByHand a2 a3 (S 0)) fun g46 => (lt (up S 0 g46) fun S47 => some (true, S47))) else (if kf = 3 then (ob1 (F_X5_mayNest N a2 (S 0)) fun v41 => (if v41 = true then (lt (F_X5_placeNest a2 a3 (S 0)) fun g43 => (lt (up S 0 g43) fun S44 => some (true, S44))) else some (false, S))) else some (false, S))) else (if kf = 3 then (ob1 (F_X5_mayNest N a2 (S 0)) fun v37 => (if v37 = true then (lt (F_X5_placeNest a2 a3 (S 0)) fun g39 => (lt (up S 0 g39) fun S40 => some (true, S40))) else some (false, S))) else some (false, S)))) else (if kf = 2 then (if (F_X5_mayTrim a2 (S 0)) = true then (lt (F_X5_trimByHand a2 a3 (S 0)) fun g35 => (lt (up S 0 g35) fun S36 => some (true, S36))) else (if kf = 3 then (ob1 (F_X5_mayNest N a2 (S 0)) fun v30 => (if v30 = true then (lt (F_X5_placeNest a2 a3 (S 0)) fun g32 => (lt (up S 0 g32) fun S33 => some (true, S33))) else some (false, S))) else some (false, S))) else (if kf = 3 then (ob1 (F_X5_mayNest N a2 (S 0)) fun v26 => (if v26 = true then (lt (F_X5_placeNest a2 a3 (S 0)) fun g28 => (lt (up S 0 g28) fun S29 => some (true, S29))) else some (false, S))) else some (false, S))))) else (if kf = 1 then (if (F_X5_mayRemove a2 (S 0)) = true then (lt (F_X5_removeByHand a2 (S 0)) fun g24 => (lt (up S 0 g24) fun S25 => some (true, S25))) else (if kf = 2 then (if (F_X5_mayTrim a2 (S 0)) = true then (lt (F_X5_trimByHand a2 a3 (S 0)) fun g21 => (lt (up S 0 g21) fun S22 => some (true, S22))) else (if kf = 3 then (ob1 (F_X5_mayNest N a2 (S 0)) fun v16 => (if v16 = true then (lt (F_X5_placeNest a2 a3 (S 0)) fun g18 => (lt (up S 0 g18) fun S19 => some (true, S19))) else some (false, S))) else some (false, S))) else (if kf = 3 then (ob1 (F_X5_mayNest N a2 (S 0)) fun v12 => (if v12 = true then (lt (F_X5_placeNest a2 a3 (S 0)) fun g14 => (lt (up S 0 g14) fun S15 => some (true, S15))) else some (false, S))) else some (false, S)))) else (if kf = 2 then (if (F_X5_mayTrim a2 (S 0)) = true then (lt (F_X5_trimByHand a2 a3 (S 0)) fun g10 => (lt (up S 0 g10) fun S11 => some (true, S11))) else (if kf = 3 then (ob1 (F_X5_mayNest N a2 (S 0)) fun v5 => (if v5 = true then (lt (F_X5_placeNest a2 a3 (S 0)) fun g7 => (lt (up S 0 g7) fun S8 => some (true, S8))) else some (false, S))) else some (false, S))) else (if kf = 3 then (ob1 (F_X5_mayNest N a2 (S 0)) fun v1 => (if v1 = true then (lt (F_X5_placeNest a2 a3 (S 0)) fun g3 => (lt (up S 0 g3) fun S4 => some (true, S4))) else some (false, S))) else some (false, S))))) else some (false, S))
theorem c_X10_performOnSlot {w : WP} (hW : gW w) (hS : gS w) {Ω : OM}  {S : Nat → Nat → HV} (e : Ω.1 = S) (N : Nat) (kf : Nat) (hkf : kf < 8) (a2 : Int32) (a3 : Int32) {v : Bool} {S' : Nat → Nat → HV} (hF : F_X10_performOnSlot N kf a2 a3 S = some (v, S')) {Ω' : OM} (e2 : (S', Ω.2) = Ω') : gM w 4 yX10_performOnSlot cX10_performOnSlot 4 (some .boolean) [.ref (wAd w (7, 11, 6, 0)), .ref (wAd w (13, kf, 0, 0)), .int a2, .int a3] (cA w Ω) (some (.int (b2i v))) (cA w Ω') := by
  refine gM_of "HedgeMessages" rfl (by decide) (kR rfl) fun X C => ?_
  unfold F_X10_performOnSlot at hF
  subst e2
  show gV w X _ _ 0 [(0, .ref (wAd w (7, 11, 6, 0))), (1, .ref (wAd w (13, kf, 0, 0))), (2, .int a2), (3, .int a3)] []
  refine r_ct (ct' := cA w (S, Ω.2)) (by rw [← e]) ?_
  refine r_aload_n C (k := 0) rfl rfl dX10_performOnSlot_0 ?_
  refine og_7_0 C (hW.ok k7) wm2_168 dX10_performOnSlot_1 ?_
  refine r_iload_n C (k := 2) rfl rfl dX10_performOnSlot_4 ?_
  refine r_callV C (d' := 0) [.int a2] (c_X5_hasSlot hW (by decide) (congrFun (show (S, Ω.2).1 = S from rfl) 0) a2 rfl) myX5_hasSlot wm4_166 ⟨_, _, _, _, (hW.ok (k0 (by decide))), rfl, rfl, rfl, rfl⟩ rfl (kR rfl) (by decide) (kR rfl) rfl dX10_performOnSlot_5 ?_
  refine r_if_ne C (tgt := 13) rfl dX10_performOnSlot_8 (fun hc => ?_) (fun hc => ?_)
  · rw [if_pos (b2i_t hc)] at hF
    refine r_aload_n C (k := 1) rfl rfl dX10_performOnSlot_13 ?_
    refine r_gets C ((hS.e C).imp fun _ _ _ h => h.2.2.2.2.2.1 0 (by decide)) wm4_170 dX10_performOnSlot_14 ?_
    refine r_acmp_ne C (tgt := 43) rfl dX10_performOnSlot_17 (fun hc => ?_) (fun hc => ?_)
    · have hc : ¬ kf = 0 := fun z => hc (by rw [z])
      rw [if_neg hc] at hF
      refine r_aload_n C (k := 1) rfl rfl dX10_performOnSlot_43 ?_
      refine r_gets C ((hS.e C).imp fun _ _ _ h => h.2.2.2.2.2.1 1 (by decide)) wm4_186 dX10_performOnSlot_44 ?_
      refine r_acmp_ne C (tgt := 72) rfl dX10_performOnSlot_47 (fun hc => ?_) (fun hc => ?_)
      · have hc : ¬ kf = 1 := fun z => hc (by rw [z])
        rw [if_neg hc] at hF
        refine r_aload_n C (k := 1) rfl rfl dX10_performOnSlot_72 ?_
        refine r_gets C ((hS.e C).imp fun _ _ _ h => h.2.2.2.2.2.1 2 (by decide)) wm4_204 dX10_performOnSlot_73 ?_
        refine r_acmp_ne C (tgt := 102) rfl dX10_performOnSlot_76 (fun hc => ?_) (fun hc => ?_)
        · have hc : ¬ kf = 2 := fun z => hc (by rw [z])
          rw [if_neg hc] at hF
          refine r_aload_n C (k := 1) rfl rfl dX10_performOnSlot_102 ?_
          refine r_gets C ((hS.e C).imp fun _ _ _ h => h.2.2.2.2.2.1 3 (by decide)) wm4_218 dX10_performOnSlot_103 ?_
          refine r_acmp_ne C (tgt := 132) rfl dX10_performOnSlot_106 (fun hc => ?_) (fun hc => ?_)
          · have hc : ¬ kf = 3 := fun z => hc (by rw [z])
            rw [if_neg hc] at hF
            refine r_iconst C (v := 0) rfl dX10_performOnSlot_132 ?_
            cases hF
            exact r_zreturn C false rfl dX10_performOnSlot_133
          · have hc : kf = 3 := gX_inj (hS.e C) hkf (show 3 < 8 by decide) hc
            rw [if_pos hc] at hF
            refine r_aload_n C (k := 0) rfl rfl dX10_performOnSlot_109 ?_
            refine og_7_0 C (hW.ok k7) wm2_168 dX10_performOnSlot_110 ?_
            refine r_iload_n C (k := 2) rfl rfl dX10_performOnSlot_113 ?_
            obtain ⟨v1, hv1, hF⟩ := ob1_e hF
            refine r_callV C (d' := 2) [.int a2] (c_X5_mayNest hW (by decide) (congrFun (show (S, Ω.2).1 = S from rfl) 0) N a2 hv1) myX5_mayNest wm4_220 ⟨_, _, _, _, (hW.ok (k0 (by decide))), rfl, rfl, rfl, rfl⟩ rfl (kR rfl) (by decide) (kR rfl) rfl dX10_performOnSlot_114 ?_
            refine r_if_eq C (tgt := 132) rfl dX10_performOnSlot_117 (fun hc => ?_) (fun hc => ?_)
            · rw [if_neg (b2i_f hc)] at hF
              refine r_iconst C (v := 0) rfl dX10_performOnSlot_132 ?_
              cases hF
              exact r_zreturn C false rfl dX10_performOnSlot_133
            · rw [if_pos (b2i_t hc)] at hF
              refine r_aload_n C (k := 0) rfl rfl dX10_performOnSlot_120 ?_
              refine og_7_0 C (hW.ok k7) wm2_168 dX10_performOnSlot_121 ?_
              refine r_iload_n C (k := 2) rfl rfl dX10_performOnSlot_124 ?_
              refine r_iload_n C (k := 3) rfl rfl dX10_performOnSlot_125 ?_
              obtain ⟨g3, hg3, hF⟩ := lt_e hF
              obtain ⟨S4, eS4, hF⟩ := lt_e hF
              refine r_callV C (d' := 1) [.int a2, .int a3] (c_X5_placeNest hW (by decide) (congrFun (show (S, Ω.2).1 = S from rfl) 0) a2 a3 hg3 (congrArg (fun z => (z, Ω.2)) eS4)) myX5_placeNest wm2_89 ⟨_, _, _, _, (hW.ok (k0 (by decide))), rfl, rfl, rfl, rfl⟩ rfl (kR rfl) (by decide) (kR rfl) rfl dX10_performOnSlot_126 ?_
              refine r_goto C (tgt := 134) rfl dX10_performOnSlot_129 ?_
              refine r_iconst C (v := 1) rfl dX10_performOnSlot_134 ?_
              cases hF
              exact r_zreturn C true rfl dX10_performOnSlot_135
        · have hc : kf = 2 := gX_inj (hS.e C) hkf (show 2 < 8 by decide) hc
          rw [if_pos hc] at hF
          refine r_aload_n C (k := 0) rfl rfl dX10_performOnSlot_79 ?_
          refine og_7_0 C (hW.ok k7) wm2_168 dX10_performOnSlot_80 ?_
          refine r_iload_n C (k := 2) rfl rfl dX10_performOnSlot_83 ?_
          refine r_callV C (d' := 3) [.int a2] (c_X5_mayTrim hW (by decide) (congrFun (show (S, Ω.2).1 = S from rfl) 0) a2 rfl) myX5_mayTrim wm4_206 ⟨_, _, _, _, (hW.ok (k0 (by decide))), rfl, rfl, rfl, rfl⟩ rfl (kR rfl) (by decide) (kR rfl) rfl dX10_performOnSlot_84 ?_
          refine r_if_eq C (tgt := 102) rfl dX10_performOnSlot_87 (fun hc => ?_) (fun hc => ?_)
          · rw [if_neg (b2i_f hc)] at hF
            refine r_aload_n C (k := 1) rfl rfl dX10_performOnSlot_102 ?_
            refine r_gets C ((hS.e C).imp fun _ _ _ h => h.2.2.2.2.2.1 3 (by decide)) wm4_218 dX10_performOnSlot_103 ?_
            refine r_acmp_ne C (tgt := 132) rfl dX10_performOnSlot_106 (fun hc => ?_) (fun hc => ?_)
            · have hc : ¬ kf = 3 := fun z => hc (by rw [z])
              rw [if_neg hc] at hF
              refine r_iconst C (v := 0) rfl dX10_performOnSlot_132 ?_
              cases hF
              exact r_zreturn C false rfl dX10_performOnSlot_133
            · have hc : kf = 3 := gX_inj (hS.e C) hkf (show 3 < 8 by decide) hc
              rw [if_pos hc] at hF
              refine r_aload_n C (k := 0) rfl rfl dX10_performOnSlot_109 ?_
              refine og_7_0 C (hW.ok k7) wm2_168 dX10_performOnSlot_110 ?_
              refine r_iload_n C (k := 2) rfl rfl dX10_performOnSlot_113 ?_
              obtain ⟨v5, hv5, hF⟩ := ob1_e hF
              refine r_callV C (d' := 2) [.int a2] (c_X5_mayNest hW (by decide) (congrFun (show (S, Ω.2).1 = S from rfl) 0) N a2 hv5) myX5_mayNest wm4_220 ⟨_, _, _, _, (hW.ok (k0 (by decide))), rfl, rfl, rfl, rfl⟩ rfl (kR rfl) (by decide) (kR rfl) rfl dX10_performOnSlot_114 ?_
              refine r_if_eq C (tgt := 132) rfl dX10_performOnSlot_117 (fun hc => ?_) (fun hc => ?_)
              · rw [if_neg (b2i_f hc)] at hF
                refine r_iconst C (v := 0) rfl dX10_performOnSlot_132 ?_
                cases hF
                exact r_zreturn C false rfl dX10_performOnSlot_133
              · rw [if_pos (b2i_t hc)] at hF
                refine r_aload_n C (k := 0) rfl rfl dX10_performOnSlot_120 ?_
                refine og_7_0 C (hW.ok k7) wm2_168 dX10_performOnSlot_121 ?_
                refine r_iload_n C (k := 2) rfl rfl dX10_performOnSlot_124 ?_
                refine r_iload_n C (k := 3) rfl rfl dX10_performOnSlot_125 ?_
                obtain ⟨g7, hg7, hF⟩ := lt_e hF
                obtain ⟨S8, eS8, hF⟩ := lt_e hF
                refine r_callV C (d' := 1) [.int a2, .int a3] (c_X5_placeNest hW (by decide) (congrFun (show (S, Ω.2).1 = S from rfl) 0) a2 a3 hg7 (congrArg (fun z => (z, Ω.2)) eS8)) myX5_placeNest wm2_89 ⟨_, _, _, _, (hW.ok (k0 (by decide))), rfl, rfl, rfl, rfl⟩ rfl (kR rfl) (by decide) (kR rfl) rfl dX10_performOnSlot_126 ?_
                refine r_goto C (tgt := 134) rfl dX10_performOnSlot_129 ?_
                refine r_iconst C (v := 1) rfl dX10_performOnSlot_134 ?_
                cases hF
                exact r_zreturn C true rfl dX10_performOnSlot_135
          · rw [if_pos (b2i_t hc)] at hF
            refine r_aload_n C (k := 0) rfl rfl dX10_performOnSlot_90 ?_
            refine og_7_0 C (hW.ok k7) wm2_168 dX10_performOnSlot_91 ?_
            refine r_iload_n C (k := 2) rfl rfl dX10_performOnSlot_94 ?_
            refine r_iload_n C (k := 3) rfl rfl dX10_performOnSlot_95 ?_
            obtain ⟨g10, hg10, hF⟩ := lt_e hF
            obtain ⟨S11, eS11, hF⟩ := lt_e hF
            refine r_callV C (d' := 1) [.int a2, .int a3] (c_X5_trimByHand hW (by decide) (congrFun (show (S, Ω.2).1 = S from rfl) 0) a2 a3 hg10 (congrArg (fun z => (z, Ω.2)) eS11)) myX5_trimByHand wm4_214 ⟨_, _, _, _, (hW.ok (k0 (by decide))), rfl, rfl, rfl, rfl⟩ rfl (kR rfl) (by decide) (kR rfl) rfl dX10_performOnSlot_96 ?_
            refine r_goto C (tgt := 134) rfl dX10_performOnSlot_99 ?_
            refine r_iconst C (v := 1) rfl dX10_performOnSlot_134 ?_
            cases hF
            exact r_zreturn C true rfl dX10_performOnSlot_135
      · have hc : kf = 1 := gX_inj (hS.e C) hkf (show 1 < 8 by decide) hc
        rw [if_pos hc] at hF
        refine r_aload_n C (k := 0) rfl rfl dX10_performOnSlot_50 ?_
        refine og_7_0 C (hW.ok k7) wm2_168 dX10_performOnSlot_51 ?_
        refine r_iload_n C (k := 2) rfl rfl dX10_performOnSlot_54 ?_
        refine r_callV C (d' := 3) [.int a2] (c_X5_mayRemove hW (by decide) (congrFun (show (S, Ω.2).1 = S from rfl) 0) a2 rfl) myX5_mayRemove wm4_188 ⟨_, _, _, _, (hW.ok (k0 (by decide))), rfl, rfl, rfl, rfl⟩ rfl (kR rfl) (by decide) (kR rfl) rfl dX10_performOnSlot_55 ?_
        refine r_if_eq C (tgt := 72) rfl dX10_performOnSlot_58 (fun hc => ?_) (fun hc => ?_)
        · rw [if_neg (b2i_f hc)] at hF
          refine r_aload_n C (k := 1) rfl rfl dX10_performOnSlot_72 ?_
          refine r_gets C ((hS.e C).imp fun _ _ _ h => h.2.2.2.2.2.1 2 (by decide)) wm4_204 dX10_performOnSlot_73 ?_
          refine r_acmp_ne C (tgt := 102) rfl dX10_performOnSlot_76 (fun hc => ?_) (fun hc => ?_)
          · have hc : ¬ kf = 2 := fun z => hc (by rw [z])
            rw [if_neg hc] at hF
            refine r_aload_n C (k := 1) rfl rfl dX10_performOnSlot_102 ?_
            refine r_gets C ((hS.e C).imp fun _ _ _ h => h.2.2.2.2.2.1 3 (by decide)) wm4_218 dX10_performOnSlot_103 ?_
            refine r_acmp_ne C (tgt := 132) rfl dX10_performOnSlot_106 (fun hc => ?_) (fun hc => ?_)
            · have hc : ¬ kf = 3 := fun z => hc (by rw [z])
              rw [if_neg hc] at hF
              refine r_iconst C (v := 0) rfl dX10_performOnSlot_132 ?_
              cases hF
              exact r_zreturn C false rfl dX10_performOnSlot_133
            · have hc : kf = 3 := gX_inj (hS.e C) hkf (show 3 < 8 by decide) hc
              rw [if_pos hc] at hF
              refine r_aload_n C (k := 0) rfl rfl dX10_performOnSlot_109 ?_
              refine og_7_0 C (hW.ok k7) wm2_168 dX10_performOnSlot_110 ?_
              refine r_iload_n C (k := 2) rfl rfl dX10_performOnSlot_113 ?_
              obtain ⟨v12, hv12, hF⟩ := ob1_e hF
              refine r_callV C (d' := 2) [.int a2] (c_X5_mayNest hW (by decide) (congrFun (show (S, Ω.2).1 = S from rfl) 0) N a2 hv12) myX5_mayNest wm4_220 ⟨_, _, _, _, (hW.ok (k0 (by decide))), rfl, rfl, rfl, rfl⟩ rfl (kR rfl) (by decide) (kR rfl) rfl dX10_performOnSlot_114 ?_
              refine r_if_eq C (tgt := 132) rfl dX10_performOnSlot_117 (fun hc => ?_) (fun hc => ?_)
              · rw [if_neg (b2i_f hc)] at hF
                refine r_iconst C (v := 0) rfl dX10_performOnSlot_132 ?_
                cases hF
                exact r_zreturn C false rfl dX10_performOnSlot_133
              · rw [if_pos (b2i_t hc)] at hF
                refine r_aload_n C (k := 0) rfl rfl dX10_performOnSlot_120 ?_
                refine og_7_0 C (hW.ok k7) wm2_168 dX10_performOnSlot_121 ?_
                refine r_iload_n C (k := 2) rfl rfl dX10_performOnSlot_124 ?_
                refine r_iload_n C (k := 3) rfl rfl dX10_performOnSlot_125 ?_
                obtain ⟨g14, hg14, hF⟩ := lt_e hF
                obtain ⟨S15, eS15, hF⟩ := lt_e hF
                refine r_callV C (d' := 1) [.int a2, .int a3] (c_X5_placeNest hW (by decide) (congrFun (show (S, Ω.2).1 = S from rfl) 0) a2 a3 hg14 (congrArg (fun z => (z, Ω.2)) eS15)) myX5_placeNest wm2_89 ⟨_, _, _, _, (hW.ok (k0 (by decide))), rfl, rfl, rfl, rfl⟩ rfl (kR rfl) (by decide) (kR rfl) rfl dX10_performOnSlot_126 ?_
                refine r_goto C (tgt := 134) rfl dX10_performOnSlot_129 ?_
                refine r_iconst C (v := 1) rfl dX10_performOnSlot_134 ?_
                cases hF
                exact r_zreturn C true rfl dX10_performOnSlot_135
          · have hc : kf = 2 := gX_inj (hS.e C) hkf (show 2 < 8 by decide) hc
            rw [if_pos hc] at hF
            refine r_aload_n C (k := 0) rfl rfl dX10_performOnSlot_79 ?_
            refine og_7_0 C (hW.ok k7) wm2_168 dX10_performOnSlot_80 ?_
            refine r_iload_n C (k := 2) rfl rfl dX10_performOnSlot_83 ?_
            refine r_callV C (d' := 3) [.int a2] (c_X5_mayTrim hW (by decide) (congrFun (show (S, Ω.2).1 = S from rfl) 0) a2 rfl) myX5_mayTrim wm4_206 ⟨_, _, _, _, (hW.ok (k0 (by decide))), rfl, rfl, rfl, rfl⟩ rfl (kR rfl) (by decide) (kR rfl) rfl dX10_performOnSlot_84 ?_
            refine r_if_eq C (tgt := 102) rfl dX10_performOnSlot_87 (fun hc => ?_) (fun hc => ?_)
            · rw [if_neg (b2i_f hc)] at hF
              refine r_aload_n C (k := 1) rfl rfl dX10_performOnSlot_102 ?_
              refine r_gets C ((hS.e C).imp fun _ _ _ h => h.2.2.2.2.2.1 3 (by decide)) wm4_218 dX10_performOnSlot_103 ?_
              refine r_acmp_ne C (tgt := 132) rfl dX10_performOnSlot_106 (fun hc => ?_) (fun hc => ?_)
              · have hc : ¬ kf = 3 := fun z => hc (by rw [z])
                rw [if_neg hc] at hF
                refine r_iconst C (v := 0) rfl dX10_performOnSlot_132 ?_
                cases hF
                exact r_zreturn C false rfl dX10_performOnSlot_133
              · have hc : kf = 3 := gX_inj (hS.e C) hkf (show 3 < 8 by decide) hc
                rw [if_pos hc] at hF
                refine r_aload_n C (k := 0) rfl rfl dX10_performOnSlot_109 ?_
                refine og_7_0 C (hW.ok k7) wm2_168 dX10_performOnSlot_110 ?_
                refine r_iload_n C (k := 2) rfl rfl dX10_performOnSlot_113 ?_
                obtain ⟨v16, hv16, hF⟩ := ob1_e hF
                refine r_callV C (d' := 2) [.int a2] (c_X5_mayNest hW (by decide) (congrFun (show (S, Ω.2).1 = S from rfl) 0) N a2 hv16) myX5_mayNest wm4_220 ⟨_, _, _, _, (hW.ok (k0 (by decide))), rfl, rfl, rfl, rfl⟩ rfl (kR rfl) (by decide) (kR rfl) rfl dX10_performOnSlot_114 ?_
                refine r_if_eq C (tgt := 132) rfl dX10_performOnSlot_117 (fun hc => ?_) (fun hc => ?_)
                · rw [if_neg (b2i_f hc)] at hF
                  refine r_iconst C (v := 0) rfl dX10_performOnSlot_132 ?_
                  cases hF
                  exact r_zreturn C false rfl dX10_performOnSlot_133
                · rw [if_pos (b2i_t hc)] at hF
                  refine r_aload_n C (k := 0) rfl rfl dX10_performOnSlot_120 ?_
                  refine og_7_0 C (hW.ok k7) wm2_168 dX10_performOnSlot_121 ?_
                  refine r_iload_n C (k := 2) rfl rfl dX10_performOnSlot_124 ?_
                  refine r_iload_n C (k := 3) rfl rfl dX10_performOnSlot_125 ?_
                  obtain ⟨g18, hg18, hF⟩ := lt_e hF
                  obtain ⟨S19, eS19, hF⟩ := lt_e hF
                  refine r_callV C (d' := 1) [.int a2, .int a3] (c_X5_placeNest hW (by decide) (congrFun (show (S, Ω.2).1 = S from rfl) 0) a2 a3 hg18 (congrArg (fun z => (z, Ω.2)) eS19)) myX5_placeNest wm2_89 ⟨_, _, _, _, (hW.ok (k0 (by decide))), rfl, rfl, rfl, rfl⟩ rfl (kR rfl) (by decide) (kR rfl) rfl dX10_performOnSlot_126 ?_
                  refine r_goto C (tgt := 134) rfl dX10_performOnSlot_129 ?_
                  refine r_iconst C (v := 1) rfl dX10_performOnSlot_134 ?_
                  cases hF
                  exact r_zreturn C true rfl dX10_performOnSlot_135
            · rw [if_pos (b2i_t hc)] at hF
              refine r_aload_n C (k := 0) rfl rfl dX10_performOnSlot_90 ?_
              refine og_7_0 C (hW.ok k7) wm2_168 dX10_performOnSlot_91 ?_
              refine r_iload_n C (k := 2) rfl rfl dX10_performOnSlot_94 ?_
              refine r_iload_n C (k := 3) rfl rfl dX10_performOnSlot_95 ?_
              obtain ⟨g21, hg21, hF⟩ := lt_e hF
              obtain ⟨S22, eS22, hF⟩ := lt_e hF
              refine r_callV C (d' := 1) [.int a2, .int a3] (c_X5_trimByHand hW (by decide) (congrFun (show (S, Ω.2).1 = S from rfl) 0) a2 a3 hg21 (congrArg (fun z => (z, Ω.2)) eS22)) myX5_trimByHand wm4_214 ⟨_, _, _, _, (hW.ok (k0 (by decide))), rfl, rfl, rfl, rfl⟩ rfl (kR rfl) (by decide) (kR rfl) rfl dX10_performOnSlot_96 ?_
              refine r_goto C (tgt := 134) rfl dX10_performOnSlot_99 ?_
              refine r_iconst C (v := 1) rfl dX10_performOnSlot_134 ?_
              cases hF
              exact r_zreturn C true rfl dX10_performOnSlot_135
        · rw [if_pos (b2i_t hc)] at hF
          refine r_aload_n C (k := 0) rfl rfl dX10_performOnSlot_61 ?_
          refine og_7_0 C (hW.ok k7) wm2_168 dX10_performOnSlot_62 ?_
          refine r_iload_n C (k := 2) rfl rfl dX10_performOnSlot_65 ?_
          obtain ⟨g24, hg24, hF⟩ := lt_e hF
          obtain ⟨S25, eS25, hF⟩ := lt_e hF
          refine r_callV C (d' := 1) [.int a2] (c_X5_removeByHand hW (by decide) (congrFun (show (S, Ω.2).1 = S from rfl) 0) a2 hg24 (congrArg (fun z => (z, Ω.2)) eS25)) myX5_removeByHand wm4_200 ⟨_, _, _, _, (hW.ok (k0 (by decide))), rfl, rfl, rfl, rfl⟩ rfl (kR rfl) (by decide) (kR rfl) rfl dX10_performOnSlot_66 ?_
          refine r_goto C (tgt := 134) rfl dX10_performOnSlot_69 ?_
          refine r_iconst C (v := 1) rfl dX10_performOnSlot_134 ?_
          cases hF
          exact r_zreturn C true rfl dX10_performOnSlot_135
    · have hc : kf = 0 := gX_inj (hS.e C) hkf (show 0 < 8 by decide) hc
      rw [if_pos hc] at hF
      refine r_aload_n C (k := 0) rfl rfl dX10_performOnSlot_20 ?_
      refine og_7_0 C (hW.ok k7) wm2_168 dX10_performOnSlot_21 ?_
      refine r_iload_n C (k := 2) rfl rfl dX10_performOnSlot_24 ?_
      refine r_callV C (d' := 3) [.int a2] (c_X5_mayPlant hW (by decide) (congrFun (show (S, Ω.2).1 = S from rfl) 0) a2 rfl) myX5_mayPlant wm4_172 ⟨_, _, _, _, (hW.ok (k0 (by decide))), rfl, rfl, rfl, rfl⟩ rfl (kR rfl) (by decide) (kR rfl) rfl dX10_performOnSlot_25 ?_
      refine r_if_eq C (tgt := 43) rfl dX10_performOnSlot_28 (fun hc => ?_) (fun hc => ?_)
      · rw [if_neg (b2i_f hc)] at hF
        refine r_aload_n C (k := 1) rfl rfl dX10_performOnSlot_43 ?_
        refine r_gets C ((hS.e C).imp fun _ _ _ h => h.2.2.2.2.2.1 1 (by decide)) wm4_186 dX10_performOnSlot_44 ?_
        refine r_acmp_ne C (tgt := 72) rfl dX10_performOnSlot_47 (fun hc => ?_) (fun hc => ?_)
        · have hc : ¬ kf = 1 := fun z => hc (by rw [z])
          rw [if_neg hc] at hF
          refine r_aload_n C (k := 1) rfl rfl dX10_performOnSlot_72 ?_
          refine r_gets C ((hS.e C).imp fun _ _ _ h => h.2.2.2.2.2.1 2 (by decide)) wm4_204 dX10_performOnSlot_73 ?_
          refine r_acmp_ne C (tgt := 102) rfl dX10_performOnSlot_76 (fun hc => ?_) (fun hc => ?_)
          · have hc : ¬ kf = 2 := fun z => hc (by rw [z])
            rw [if_neg hc] at hF
            refine r_aload_n C (k := 1) rfl rfl dX10_performOnSlot_102 ?_
            refine r_gets C ((hS.e C).imp fun _ _ _ h => h.2.2.2.2.2.1 3 (by decide)) wm4_218 dX10_performOnSlot_103 ?_
            refine r_acmp_ne C (tgt := 132) rfl dX10_performOnSlot_106 (fun hc => ?_) (fun hc => ?_)
            · have hc : ¬ kf = 3 := fun z => hc (by rw [z])
              rw [if_neg hc] at hF
              refine r_iconst C (v := 0) rfl dX10_performOnSlot_132 ?_
              cases hF
              exact r_zreturn C false rfl dX10_performOnSlot_133
            · have hc : kf = 3 := gX_inj (hS.e C) hkf (show 3 < 8 by decide) hc
              rw [if_pos hc] at hF
              refine r_aload_n C (k := 0) rfl rfl dX10_performOnSlot_109 ?_
              refine og_7_0 C (hW.ok k7) wm2_168 dX10_performOnSlot_110 ?_
              refine r_iload_n C (k := 2) rfl rfl dX10_performOnSlot_113 ?_
              obtain ⟨v26, hv26, hF⟩ := ob1_e hF
              refine r_callV C (d' := 2) [.int a2] (c_X5_mayNest hW (by decide) (congrFun (show (S, Ω.2).1 = S from rfl) 0) N a2 hv26) myX5_mayNest wm4_220 ⟨_, _, _, _, (hW.ok (k0 (by decide))), rfl, rfl, rfl, rfl⟩ rfl (kR rfl) (by decide) (kR rfl) rfl dX10_performOnSlot_114 ?_
              refine r_if_eq C (tgt := 132) rfl dX10_performOnSlot_117 (fun hc => ?_) (fun hc => ?_)
              · rw [if_neg (b2i_f hc)] at hF
                refine r_iconst C (v := 0) rfl dX10_performOnSlot_132 ?_
                cases hF
                exact r_zreturn C false rfl dX10_performOnSlot_133
              · rw [if_pos (b2i_t hc)] at hF
                refine r_aload_n C (k := 0) rfl rfl dX10_performOnSlot_120 ?_
                refine og_7_0 C (hW.ok k7) wm2_168 dX10_performOnSlot_121 ?_
                refine r_iload_n C (k := 2) rfl rfl dX10_performOnSlot_124 ?_
                refine r_iload_n C (k := 3) rfl rfl dX10_performOnSlot_125 ?_
                obtain ⟨g28, hg28, hF⟩ := lt_e hF
                obtain ⟨S29, eS29, hF⟩ := lt_e hF
                refine r_callV C (d' := 1) [.int a2, .int a3] (c_X5_placeNest hW (by decide) (congrFun (show (S, Ω.2).1 = S from rfl) 0) a2 a3 hg28 (congrArg (fun z => (z, Ω.2)) eS29)) myX5_placeNest wm2_89 ⟨_, _, _, _, (hW.ok (k0 (by decide))), rfl, rfl, rfl, rfl⟩ rfl (kR rfl) (by decide) (kR rfl) rfl dX10_performOnSlot_126 ?_
                refine r_goto C (tgt := 134) rfl dX10_performOnSlot_129 ?_
                refine r_iconst C (v := 1) rfl dX10_performOnSlot_134 ?_
                cases hF
                exact r_zreturn C true rfl dX10_performOnSlot_135
          · have hc : kf = 2 := gX_inj (hS.e C) hkf (show 2 < 8 by decide) hc
            rw [if_pos hc] at hF
            refine r_aload_n C (k := 0) rfl rfl dX10_performOnSlot_79 ?_
            refine og_7_0 C (hW.ok k7) wm2_168 dX10_performOnSlot_80 ?_
            refine r_iload_n C (k := 2) rfl rfl dX10_performOnSlot_83 ?_
            refine r_callV C (d' := 3) [.int a2] (c_X5_mayTrim hW (by decide) (congrFun (show (S, Ω.2).1 = S from rfl) 0) a2 rfl) myX5_mayTrim wm4_206 ⟨_, _, _, _, (hW.ok (k0 (by decide))), rfl, rfl, rfl, rfl⟩ rfl (kR rfl) (by decide) (kR rfl) rfl dX10_performOnSlot_84 ?_
            refine r_if_eq C (tgt := 102) rfl dX10_performOnSlot_87 (fun hc => ?_) (fun hc => ?_)
            · rw [if_neg (b2i_f hc)] at hF
              refine r_aload_n C (k := 1) rfl rfl dX10_performOnSlot_102 ?_
              refine r_gets C ((hS.e C).imp fun _ _ _ h => h.2.2.2.2.2.1 3 (by decide)) wm4_218 dX10_performOnSlot_103 ?_
              refine r_acmp_ne C (tgt := 132) rfl dX10_performOnSlot_106 (fun hc => ?_) (fun hc => ?_)
              · have hc : ¬ kf = 3 := fun z => hc (by rw [z])
                rw [if_neg hc] at hF
                refine r_iconst C (v := 0) rfl dX10_performOnSlot_132 ?_
                cases hF
                exact r_zreturn C false rfl dX10_performOnSlot_133
              · have hc : kf = 3 := gX_inj (hS.e C) hkf (show 3 < 8 by decide) hc
                rw [if_pos hc] at hF
                refine r_aload_n C (k := 0) rfl rfl dX10_performOnSlot_109 ?_
                refine og_7_0 C (hW.ok k7) wm2_168 dX10_performOnSlot_110 ?_
                refine r_iload_n C (k := 2) rfl rfl dX10_performOnSlot_113 ?_
                obtain ⟨v30, hv30, hF⟩ := ob1_e hF
                refine r_callV C (d' := 2) [.int a2] (c_X5_mayNest hW (by decide) (congrFun (show (S, Ω.2).1 = S from rfl) 0) N a2 hv30) myX5_mayNest wm4_220 ⟨_, _, _, _, (hW.ok (k0 (by decide))), rfl, rfl, rfl, rfl⟩ rfl (kR rfl) (by decide) (kR rfl) rfl dX10_performOnSlot_114 ?_
                refine r_if_eq C (tgt := 132) rfl dX10_performOnSlot_117 (fun hc => ?_) (fun hc => ?_)
                · rw [if_neg (b2i_f hc)] at hF
                  refine r_iconst C (v := 0) rfl dX10_performOnSlot_132 ?_
                  cases hF
                  exact r_zreturn C false rfl dX10_performOnSlot_133
                · rw [if_pos (b2i_t hc)] at hF
                  refine r_aload_n C (k := 0) rfl rfl dX10_performOnSlot_120 ?_
                  refine og_7_0 C (hW.ok k7) wm2_168 dX10_performOnSlot_121 ?_
                  refine r_iload_n C (k := 2) rfl rfl dX10_performOnSlot_124 ?_
                  refine r_iload_n C (k := 3) rfl rfl dX10_performOnSlot_125 ?_
                  obtain ⟨g32, hg32, hF⟩ := lt_e hF
                  obtain ⟨S33, eS33, hF⟩ := lt_e hF
                  refine r_callV C (d' := 1) [.int a2, .int a3] (c_X5_placeNest hW (by decide) (congrFun (show (S, Ω.2).1 = S from rfl) 0) a2 a3 hg32 (congrArg (fun z => (z, Ω.2)) eS33)) myX5_placeNest wm2_89 ⟨_, _, _, _, (hW.ok (k0 (by decide))), rfl, rfl, rfl, rfl⟩ rfl (kR rfl) (by decide) (kR rfl) rfl dX10_performOnSlot_126 ?_
                  refine r_goto C (tgt := 134) rfl dX10_performOnSlot_129 ?_
                  refine r_iconst C (v := 1) rfl dX10_performOnSlot_134 ?_
                  cases hF
                  exact r_zreturn C true rfl dX10_performOnSlot_135
            · rw [if_pos (b2i_t hc)] at hF
              refine r_aload_n C (k := 0) rfl rfl dX10_performOnSlot_90 ?_
              refine og_7_0 C (hW.ok k7) wm2_168 dX10_performOnSlot_91 ?_
              refine r_iload_n C (k := 2) rfl rfl dX10_performOnSlot_94 ?_
              refine r_iload_n C (k := 3) rfl rfl dX10_performOnSlot_95 ?_
              obtain ⟨g35, hg35, hF⟩ := lt_e hF
              obtain ⟨S36, eS36, hF⟩ := lt_e hF
              refine r_callV C (d' := 1) [.int a2, .int a3] (c_X5_trimByHand hW (by decide) (congrFun (show (S, Ω.2).1 = S from rfl) 0) a2 a3 hg35 (congrArg (fun z => (z, Ω.2)) eS36)) myX5_trimByHand wm4_214 ⟨_, _, _, _, (hW.ok (k0 (by decide))), rfl, rfl, rfl, rfl⟩ rfl (kR rfl) (by decide) (kR rfl) rfl dX10_performOnSlot_96 ?_
              refine r_goto C (tgt := 134) rfl dX10_performOnSlot_99 ?_
              refine r_iconst C (v := 1) rfl dX10_performOnSlot_134 ?_
              cases hF
              exact r_zreturn C true rfl dX10_performOnSlot_135
        · have hc : kf = 1 := gX_inj (hS.e C) hkf (show 1 < 8 by decide) hc
          rw [if_pos hc] at hF
          refine r_aload_n C (k := 0) rfl rfl dX10_performOnSlot_50 ?_
          refine og_7_0 C (hW.ok k7) wm2_168 dX10_performOnSlot_51 ?_
          refine r_iload_n C (k := 2) rfl rfl dX10_performOnSlot_54 ?_
          refine r_callV C (d' := 3) [.int a2] (c_X5_mayRemove hW (by decide) (congrFun (show (S, Ω.2).1 = S from rfl) 0) a2 rfl) myX5_mayRemove wm4_188 ⟨_, _, _, _, (hW.ok (k0 (by decide))), rfl, rfl, rfl, rfl⟩ rfl (kR rfl) (by decide) (kR rfl) rfl dX10_performOnSlot_55 ?_
          refine r_if_eq C (tgt := 72) rfl dX10_performOnSlot_58 (fun hc => ?_) (fun hc => ?_)
          · rw [if_neg (b2i_f hc)] at hF
            refine r_aload_n C (k := 1) rfl rfl dX10_performOnSlot_72 ?_
            refine r_gets C ((hS.e C).imp fun _ _ _ h => h.2.2.2.2.2.1 2 (by decide)) wm4_204 dX10_performOnSlot_73 ?_
            refine r_acmp_ne C (tgt := 102) rfl dX10_performOnSlot_76 (fun hc => ?_) (fun hc => ?_)
            · have hc : ¬ kf = 2 := fun z => hc (by rw [z])
              rw [if_neg hc] at hF
              refine r_aload_n C (k := 1) rfl rfl dX10_performOnSlot_102 ?_
              refine r_gets C ((hS.e C).imp fun _ _ _ h => h.2.2.2.2.2.1 3 (by decide)) wm4_218 dX10_performOnSlot_103 ?_
              refine r_acmp_ne C (tgt := 132) rfl dX10_performOnSlot_106 (fun hc => ?_) (fun hc => ?_)
              · have hc : ¬ kf = 3 := fun z => hc (by rw [z])
                rw [if_neg hc] at hF
                refine r_iconst C (v := 0) rfl dX10_performOnSlot_132 ?_
                cases hF
                exact r_zreturn C false rfl dX10_performOnSlot_133
              · have hc : kf = 3 := gX_inj (hS.e C) hkf (show 3 < 8 by decide) hc
                rw [if_pos hc] at hF
                refine r_aload_n C (k := 0) rfl rfl dX10_performOnSlot_109 ?_
                refine og_7_0 C (hW.ok k7) wm2_168 dX10_performOnSlot_110 ?_
                refine r_iload_n C (k := 2) rfl rfl dX10_performOnSlot_113 ?_
                obtain ⟨v37, hv37, hF⟩ := ob1_e hF
                refine r_callV C (d' := 2) [.int a2] (c_X5_mayNest hW (by decide) (congrFun (show (S, Ω.2).1 = S from rfl) 0) N a2 hv37) myX5_mayNest wm4_220 ⟨_, _, _, _, (hW.ok (k0 (by decide))), rfl, rfl, rfl, rfl⟩ rfl (kR rfl) (by decide) (kR rfl) rfl dX10_performOnSlot_114 ?_
                refine r_if_eq C (tgt := 132) rfl dX10_performOnSlot_117 (fun hc => ?_) (fun hc => ?_)
                · rw [if_neg (b2i_f hc)] at hF
                  refine r_iconst C (v := 0) rfl dX10_performOnSlot_132 ?_
                  cases hF
                  exact r_zreturn C false rfl dX10_performOnSlot_133
                · rw [if_pos (b2i_t hc)] at hF
                  refine r_aload_n C (k := 0) rfl rfl dX10_performOnSlot_120 ?_
                  refine og_7_0 C (hW.ok k7) wm2_168 dX10_performOnSlot_121 ?_
                  refine r_iload_n C (k := 2) rfl rfl dX10_performOnSlot_124 ?_
                  refine r_iload_n C (k := 3) rfl rfl dX10_performOnSlot_125 ?_
                  obtain ⟨g39, hg39, hF⟩ := lt_e hF
                  obtain ⟨S40, eS40, hF⟩ := lt_e hF
                  refine r_callV C (d' := 1) [.int a2, .int a3] (c_X5_placeNest hW (by decide) (congrFun (show (S, Ω.2).1 = S from rfl) 0) a2 a3 hg39 (congrArg (fun z => (z, Ω.2)) eS40)) myX5_placeNest wm2_89 ⟨_, _, _, _, (hW.ok (k0 (by decide))), rfl, rfl, rfl, rfl⟩ rfl (kR rfl) (by decide) (kR rfl) rfl dX10_performOnSlot_126 ?_
                  refine r_goto C (tgt := 134) rfl dX10_performOnSlot_129 ?_
                  refine r_iconst C (v := 1) rfl dX10_performOnSlot_134 ?_
                  cases hF
                  exact r_zreturn C true rfl dX10_performOnSlot_135
            · have hc : kf = 2 := gX_inj (hS.e C) hkf (show 2 < 8 by decide) hc
              rw [if_pos hc] at hF
              refine r_aload_n C (k := 0) rfl rfl dX10_performOnSlot_79 ?_
              refine og_7_0 C (hW.ok k7) wm2_168 dX10_performOnSlot_80 ?_
              refine r_iload_n C (k := 2) rfl rfl dX10_performOnSlot_83 ?_
              refine r_callV C (d' := 3) [.int a2] (c_X5_mayTrim hW (by decide) (congrFun (show (S, Ω.2).1 = S from rfl) 0) a2 rfl) myX5_mayTrim wm4_206 ⟨_, _, _, _, (hW.ok (k0 (by decide))), rfl, rfl, rfl, rfl⟩ rfl (kR rfl) (by decide) (kR rfl) rfl dX10_performOnSlot_84 ?_
              refine r_if_eq C (tgt := 102) rfl dX10_performOnSlot_87 (fun hc => ?_) (fun hc => ?_)
              · rw [if_neg (b2i_f hc)] at hF
                refine r_aload_n C (k := 1) rfl rfl dX10_performOnSlot_102 ?_
                refine r_gets C ((hS.e C).imp fun _ _ _ h => h.2.2.2.2.2.1 3 (by decide)) wm4_218 dX10_performOnSlot_103 ?_
                refine r_acmp_ne C (tgt := 132) rfl dX10_performOnSlot_106 (fun hc => ?_) (fun hc => ?_)
                · have hc : ¬ kf = 3 := fun z => hc (by rw [z])
                  rw [if_neg hc] at hF
                  refine r_iconst C (v := 0) rfl dX10_performOnSlot_132 ?_
                  cases hF
                  exact r_zreturn C false rfl dX10_performOnSlot_133
                · have hc : kf = 3 := gX_inj (hS.e C) hkf (show 3 < 8 by decide) hc
                  rw [if_pos hc] at hF
                  refine r_aload_n C (k := 0) rfl rfl dX10_performOnSlot_109 ?_
                  refine og_7_0 C (hW.ok k7) wm2_168 dX10_performOnSlot_110 ?_
                  refine r_iload_n C (k := 2) rfl rfl dX10_performOnSlot_113 ?_
                  obtain ⟨v41, hv41, hF⟩ := ob1_e hF
                  refine r_callV C (d' := 2) [.int a2] (c_X5_mayNest hW (by decide) (congrFun (show (S, Ω.2).1 = S from rfl) 0) N a2 hv41) myX5_mayNest wm4_220 ⟨_, _, _, _, (hW.ok (k0 (by decide))), rfl, rfl, rfl, rfl⟩ rfl (kR rfl) (by decide) (kR rfl) rfl dX10_performOnSlot_114 ?_
                  refine r_if_eq C (tgt := 132) rfl dX10_performOnSlot_117 (fun hc => ?_) (fun hc => ?_)
                  · rw [if_neg (b2i_f hc)] at hF
                    refine r_iconst C (v := 0) rfl dX10_performOnSlot_132 ?_
                    cases hF
                    exact r_zreturn C false rfl dX10_performOnSlot_133
                  · rw [if_pos (b2i_t hc)] at hF
                    refine r_aload_n C (k := 0) rfl rfl dX10_performOnSlot_120 ?_
                    refine og_7_0 C (hW.ok k7) wm2_168 dX10_performOnSlot_121 ?_
                    refine r_iload_n C (k := 2) rfl rfl dX10_performOnSlot_124 ?_
                    refine r_iload_n C (k := 3) rfl rfl dX10_performOnSlot_125 ?_
                    obtain ⟨g43, hg43, hF⟩ := lt_e hF
                    obtain ⟨S44, eS44, hF⟩ := lt_e hF
                    refine r_callV C (d' := 1) [.int a2, .int a3] (c_X5_placeNest hW (by decide) (congrFun (show (S, Ω.2).1 = S from rfl) 0) a2 a3 hg43 (congrArg (fun z => (z, Ω.2)) eS44)) myX5_placeNest wm2_89 ⟨_, _, _, _, (hW.ok (k0 (by decide))), rfl, rfl, rfl, rfl⟩ rfl (kR rfl) (by decide) (kR rfl) rfl dX10_performOnSlot_126 ?_
                    refine r_goto C (tgt := 134) rfl dX10_performOnSlot_129 ?_
                    refine r_iconst C (v := 1) rfl dX10_performOnSlot_134 ?_
                    cases hF
                    exact r_zreturn C true rfl dX10_performOnSlot_135
              · rw [if_pos (b2i_t hc)] at hF
                refine r_aload_n C (k := 0) rfl rfl dX10_performOnSlot_90 ?_
                refine og_7_0 C (hW.ok k7) wm2_168 dX10_performOnSlot_91 ?_
                refine r_iload_n C (k := 2) rfl rfl dX10_performOnSlot_94 ?_
                refine r_iload_n C (k := 3) rfl rfl dX10_performOnSlot_95 ?_
                obtain ⟨g46, hg46, hF⟩ := lt_e hF
                obtain ⟨S47, eS47, hF⟩ := lt_e hF
                refine r_callV C (d' := 1) [.int a2, .int a3] (c_X5_trimByHand hW (by decide) (congrFun (show (S, Ω.2).1 = S from rfl) 0) a2 a3 hg46 (congrArg (fun z => (z, Ω.2)) eS47)) myX5_trimByHand wm4_214 ⟨_, _, _, _, (hW.ok (k0 (by decide))), rfl, rfl, rfl, rfl⟩ rfl (kR rfl) (by decide) (kR rfl) rfl dX10_performOnSlot_96 ?_
                refine r_goto C (tgt := 134) rfl dX10_performOnSlot_99 ?_
                refine r_iconst C (v := 1) rfl dX10_performOnSlot_134 ?_
                cases hF
                exact r_zreturn C true rfl dX10_performOnSlot_135
          · rw [if_pos (b2i_t hc)] at hF
            refine r_aload_n C (k := 0) rfl rfl dX10_performOnSlot_61 ?_
            refine og_7_0 C (hW.ok k7) wm2_168 dX10_performOnSlot_62 ?_
            refine r_iload_n C (k := 2) rfl rfl dX10_performOnSlot_65 ?_
            obtain ⟨g49, hg49, hF⟩ := lt_e hF
            obtain ⟨S50, eS50, hF⟩ := lt_e hF
            refine r_callV C (d' := 1) [.int a2] (c_X5_removeByHand hW (by decide) (congrFun (show (S, Ω.2).1 = S from rfl) 0) a2 hg49 (congrArg (fun z => (z, Ω.2)) eS50)) myX5_removeByHand wm4_200 ⟨_, _, _, _, (hW.ok (k0 (by decide))), rfl, rfl, rfl, rfl⟩ rfl (kR rfl) (by decide) (kR rfl) rfl dX10_performOnSlot_66 ?_
            refine r_goto C (tgt := 134) rfl dX10_performOnSlot_69 ?_
            refine r_iconst C (v := 1) rfl dX10_performOnSlot_134 ?_
            cases hF
            exact r_zreturn C true rfl dX10_performOnSlot_135
      · rw [if_pos (b2i_t hc)] at hF
        refine r_aload_n C (k := 0) rfl rfl dX10_performOnSlot_31 ?_
        refine og_7_0 C (hW.ok k7) wm2_168 dX10_performOnSlot_32 ?_
        refine r_iload_n C (k := 2) rfl rfl dX10_performOnSlot_35 ?_
        refine r_iload_n C (k := 3) rfl rfl dX10_performOnSlot_36 ?_
        obtain ⟨g52, hg52, hF⟩ := lt_e hF
        obtain ⟨S53, eS53, hF⟩ := lt_e hF
        refine r_callV C (d' := 2) [.int a2, .int a3] (c_X5_plantByHand hW (by decide) (congrFun (show (S, Ω.2).1 = S from rfl) 0) a2 a3 hg52 (congrArg (fun z => (z, Ω.2)) eS53)) myX5_plantByHand wm4_180 ⟨_, _, _, _, (hW.ok (k0 (by decide))), rfl, rfl, rfl, rfl⟩ rfl (kR rfl) (by decide) (kR rfl) rfl dX10_performOnSlot_37 ?_
        refine r_goto C (tgt := 134) rfl dX10_performOnSlot_40 ?_
        refine r_iconst C (v := 1) rfl dX10_performOnSlot_134 ?_
        cases hF
        exact r_zreturn C true rfl dX10_performOnSlot_135
  · rw [if_neg (b2i_f hc)] at hF
    refine r_iconst C (v := 0) rfl dX10_performOnSlot_11 ?_
    cases hF
    exact r_zreturn C false rfl dX10_performOnSlot_12
theorem dX10_perform_0 : decode cX10_perform 0 = .ok (.aload_n 0, 1) := by decide +kernel
theorem dX10_perform_1 : decode cX10_perform 1 = .ok (.getfield 39, 3) := by decide +kernel
theorem dX10_perform_4 : decode cX10_perform 4 = .ok (.iload_n 1, 1) := by decide +kernel
theorem dX10_perform_5 : decode cX10_perform 5 = .ok (.invokevirtual 400, 3) := by decide +kernel
theorem dX10_perform_8 : decode cX10_perform 8 = .ok (.astore_n 2, 1) := by decide +kernel
theorem dX10_perform_9 : decode cX10_perform 9 = .ok (.aload_n 2, 1) := by decide +kernel
theorem dX10_perform_10 : decode cX10_perform 10 = .ok (.ifnonnull 5, 3) := by decide +kernel
theorem dX10_perform_13 : decode cX10_perform 13 = .ok (.iconst 0, 1) := by decide +kernel
theorem dX10_perform_14 : decode cX10_perform 14 = .ok (.ireturn, 1) := by decide +kernel
theorem dX10_perform_15 : decode cX10_perform 15 = .ok (.aload_n 0, 1) := by decide +kernel
theorem dX10_perform_16 : decode cX10_perform 16 = .ok (.getfield 39, 3) := by decide +kernel
theorem dX10_perform_19 : decode cX10_perform 19 = .ok (.getfield 404, 3) := by decide +kernel
theorem dX10_perform_22 : decode cX10_perform 22 = .ok (.iload_n 1, 1) := by decide +kernel
theorem dX10_perform_23 : decode cX10_perform 23 = .ok (.invokevirtual 157, 3) := by decide +kernel
theorem dX10_perform_26 : decode cX10_perform 26 = .ok (.istore_n 3, 1) := by decide +kernel
theorem dX10_perform_27 : decode cX10_perform 27 = .ok (.aload_n 0, 1) := by decide +kernel
theorem dX10_perform_28 : decode cX10_perform 28 = .ok (.getfield 39, 3) := by decide +kernel
theorem dX10_perform_31 : decode cX10_perform 31 = .ok (.getfield 407, 3) := by decide +kernel
theorem dX10_perform_34 : decode cX10_perform 34 = .ok (.iload_n 1, 1) := by decide +kernel
theorem dX10_perform_35 : decode cX10_perform 35 = .ok (.invokevirtual 157, 3) := by decide +kernel
theorem dX10_perform_38 : decode cX10_perform 38 = .ok (.istore 4, 2) := by decide +kernel
theorem dX10_perform_40 : decode cX10_perform 40 = .ok (.getstatic 410, 3) := by decide +kernel
theorem dX10_perform_43 : decode cX10_perform 43 = .ok (.aload_n 2, 1) := by decide +kernel
theorem dX10_perform_44 : decode cX10_perform 44 = .ok (.invokevirtual 416, 3) := by decide +kernel
theorem dX10_perform_47 : decode cX10_perform 47 = .ok (.iaload, 1) := by decide +kernel
theorem dX10_perform_48 : decode cX10_perform 48 = .ok (.tableswitch 164 1 8 #[48, 48, 48, 48, 57, 100, 130, 140], 48) := by decide +kernel
theorem dX10_perform_96 : decode cX10_perform 96 = .ok (.aload_n 0, 1) := by decide +kernel
theorem dX10_perform_97 : decode cX10_perform 97 = .ok (.aload_n 2, 1) := by decide +kernel
theorem dX10_perform_98 : decode cX10_perform 98 = .ok (.iload_n 3, 1) := by decide +kernel
theorem dX10_perform_99 : decode cX10_perform 99 = .ok (.iload 4, 2) := by decide +kernel
theorem dX10_perform_101 : decode cX10_perform 101 = .ok (.invokevirtual 421, 3) := by decide +kernel
theorem dX10_perform_104 : decode cX10_perform 104 = .ok (.ireturn, 1) := by decide +kernel
theorem dX10_perform_105 : decode cX10_perform 105 = .ok (.aload_n 0, 1) := by decide +kernel
theorem dX10_perform_106 : decode cX10_perform 106 = .ok (.getfield 10, 3) := by decide +kernel
theorem dX10_perform_109 : decode cX10_perform 109 = .ok (.iload_n 3, 1) := by decide +kernel
theorem dX10_perform_110 : decode cX10_perform 110 = .ok (.invokevirtual 341, 3) := by decide +kernel
theorem dX10_perform_113 : decode cX10_perform 113 = .ok (.ifCond .ne 5, 3) := by decide +kernel
theorem dX10_perform_116 : decode cX10_perform 116 = .ok (.iconst 0, 1) := by decide +kernel
theorem dX10_perform_117 : decode cX10_perform 117 = .ok (.ireturn, 1) := by decide +kernel
theorem dX10_perform_118 : decode cX10_perform 118 = .ok (.aload_n 0, 1) := by decide +kernel
theorem dX10_perform_119 : decode cX10_perform 119 = .ok (.getfield 10, 3) := by decide +kernel
theorem dX10_perform_122 : decode cX10_perform 122 = .ok (.iload_n 3, 1) := by decide +kernel
theorem dX10_perform_123 : decode cX10_perform 123 = .ok (.aload_n 0, 1) := by decide +kernel
theorem dX10_perform_124 : decode cX10_perform 124 = .ok (.getfield 32, 3) := by decide +kernel
theorem dX10_perform_127 : decode cX10_perform 127 = .ok (.getfield 346, 3) := by decide +kernel
theorem dX10_perform_130 : decode cX10_perform 130 = .ok (.iload 4, 2) := by decide +kernel
theorem dX10_perform_132 : decode cX10_perform 132 = .ok (.aload_n 0, 1) := by decide +kernel
theorem dX10_perform_133 : decode cX10_perform 133 = .ok (.getfield 39, 3) := by decide +kernel
theorem dX10_perform_136 : decode cX10_perform 136 = .ok (.getfield 425, 3) := by decide +kernel
theorem dX10_perform_139 : decode cX10_perform 139 = .ok (.iload_n 1, 1) := by decide +kernel
theorem dX10_perform_140 : decode cX10_perform 140 = .ok (.invokevirtual 157, 3) := by decide +kernel
theorem dX10_perform_143 : decode cX10_perform 143 = .ok (.invokevirtual 349, 3) := by decide +kernel
theorem dX10_perform_146 : decode cX10_perform 146 = .ok (.iconst 1, 1) := by decide +kernel
theorem dX10_perform_147 : decode cX10_perform 147 = .ok (.ireturn, 1) := by decide +kernel
theorem dX10_perform_148 : decode cX10_perform 148 = .ok (.aload_n 0, 1) := by decide +kernel
theorem dX10_perform_149 : decode cX10_perform 149 = .ok (.getfield 10, 3) := by decide +kernel
theorem dX10_perform_152 : decode cX10_perform 152 = .ok (.iload_n 3, 1) := by decide +kernel
theorem dX10_perform_153 : decode cX10_perform 153 = .ok (.iload 4, 2) := by decide +kernel
theorem dX10_perform_155 : decode cX10_perform 155 = .ok (.invokevirtual 353, 3) := by decide +kernel
theorem dX10_perform_158 : decode cX10_perform 158 = .ok (.ifCond .ne 5, 3) := by decide +kernel
theorem dX10_perform_161 : decode cX10_perform 161 = .ok (.iconst 0, 1) := by decide +kernel
theorem dX10_perform_162 : decode cX10_perform 162 = .ok (.ireturn, 1) := by decide +kernel
theorem dX10_perform_163 : decode cX10_perform 163 = .ok (.aload_n 0, 1) := by decide +kernel
theorem dX10_perform_164 : decode cX10_perform 164 = .ok (.getfield 10, 3) := by decide +kernel
theorem dX10_perform_167 : decode cX10_perform 167 = .ok (.iload_n 3, 1) := by decide +kernel
theorem dX10_perform_168 : decode cX10_perform 168 = .ok (.invokevirtual 182, 3) := by decide +kernel
theorem dX10_perform_171 : decode cX10_perform 171 = .ok (.iload 4, 2) := by decide +kernel
theorem dX10_perform_173 : decode cX10_perform 173 = .ok (.invokevirtual 362, 3) := by decide +kernel
theorem dX10_perform_176 : decode cX10_perform 176 = .ok (.iconst 1, 1) := by decide +kernel
theorem dX10_perform_177 : decode cX10_perform 177 = .ok (.ireturn, 1) := by decide +kernel
theorem dX10_perform_178 : decode cX10_perform 178 = .ok (.aload_n 0, 1) := by decide +kernel
theorem dX10_perform_179 : decode cX10_perform 179 = .ok (.getfield 10, 3) := by decide +kernel
theorem dX10_perform_182 : decode cX10_perform 182 = .ok (.iload_n 3, 1) := by decide +kernel
theorem dX10_perform_183 : decode cX10_perform 183 = .ok (.putfield 139, 3) := by decide +kernel
theorem dX10_perform_186 : decode cX10_perform 186 = .ok (.iconst 1, 1) := by decide +kernel
theorem dX10_perform_187 : decode cX10_perform 187 = .ok (.ireturn, 1) := by decide +kernel
theorem dX10_perform_188 : decode cX10_perform 188 = .ok (.iconst 0, 1) := by decide +kernel
theorem dX10_perform_189 : decode cX10_perform 189 = .ok (.istore 5, 2) := by decide +kernel
theorem dX10_perform_191 : decode cX10_perform 191 = .ok (.iload 5, 2) := by decide +kernel
theorem dX10_perform_193 : decode cX10_perform 193 = .ok (.iload_n 3, 1) := by decide +kernel
theorem dX10_perform_194 : decode cX10_perform 194 = .ok (.if_icmp .ge 16, 3) := by decide +kernel
theorem dX10_perform_197 : decode cX10_perform 197 = .ok (.aload_n 0, 1) := by decide +kernel
theorem dX10_perform_198 : decode cX10_perform 198 = .ok (.getfield 10, 3) := by decide +kernel
theorem dX10_perform_201 : decode cX10_perform 201 = .ok (.invokevirtual 244, 3) := by decide +kernel
theorem dX10_perform_204 : decode cX10_perform 204 = .ok (.iinc 5 1, 3) := by decide +kernel
theorem dX10_perform_207 : decode cX10_perform 207 = .ok (.goto (-16), 3) := by decide +kernel
theorem dX10_perform_210 : decode cX10_perform 210 = .ok (.iconst 1, 1) := by decide +kernel
theorem dX10_perform_211 : decode cX10_perform 211 = .ok (.ireturn, 1) := by decide +kernel
theorem dX10_perform_212 : decode cX10_perform 212 = .ok (.iconst 0, 1) := by decide +kernel
theorem dX10_perform_213 : decode cX10_perform 213 = .ok (.ireturn, 1) := by decide +kernel
def st_X10_perform_191 (N : Nat) (l3 : Int32) (l5 : Int32) (S : Nat → Nat → HV) : Option ((Int32 × (Nat → Nat → HV)) ⊕ (Bool × (Nat → Nat → HV))) := (if l3 ≤ l5 then some (.inr (true, S)) else (ob1 (F_X5_endOneDay N (S 0)) fun g19 => (lt (up S 0 g19) fun S20 => some (.inl ((l5 + 1), S20)))))
def F_X10_perform (N : Nat) (a1 : Int32) (S : Nat → Nat → HV) : Option (Bool × (Nat → Nat → HV)) := (if (rget 30 ((S 11 5).2 0) a1) = 0 then some (false, S) else (if vpb ((rget 30 ((S 11 5).2 0) a1) - 1) 8 = true then (lt ((rget 30 ((S 11 5).2 0) a1) - 1).toNatClampNeg fun kx1 => (if (nI (kx1 + 1)) = 1 then (ob (F_X10_performOnSlot N kx1 (rget 30 ((S 11 5).2 1) a1) (rget 30 ((S 11 5).2 2) a1) S) fun v3 S4 => some (v3, S4)) else (if (nI (kx1 + 1)) = 2 then (ob (F_X10_performOnSlot N kx1 (rget 30 ((S 11 5).2 1) a1) (rget 30 ((S 11 5).2 2) a1) S) fun v5 S6 => some (v5, S6)) else (if (nI (kx1 + 1)) = 3 then (ob (F_X10_performOnSlot N kx1 (rget 30 ((S 11 5).2 1) a1) (rget 30 ((S 11 5).2 2) a1) S) fun v7 S8 => some (v7, S8)) else (if (nI (kx1 + 1)) = 4 then (ob (F_X10_performOnSlot N kx1 (rget 30 ((S 11 5).2 1) a1) (rget 30 ((S 11 5).2 2) a1) S) fun v9 S10 => some (v9, S10)) else (if (nI (kx1 + 1)) = 5 then (if (F_X5_mayQueue (rget 30 ((S 11 5).2 1) a1) (S 0)) = true then (lt (F_X5_receive (rget 30 ((S 11 5).2 1) a1) ((S 11 4).2 0) 800 (rget 30 ((S 11 5).2 2) a1) (rget 30 ((S 11 5).2 3) a1) (S 0)) fun g12 => (lt (up S 0 g12) fun S13 => some (true, S13))) else some (false, S)) else (if (nI (kx1 + 1)) = 6 then (if (F_X5_mayCancel (rget 30 ((S 11 5).2 1) a1) (rget 30 ((S 11 5).2 2) a1) (S 0)) = true then (lt (F_X4_cancel (rget 30 ((S 11 5).2 2) a1) (S 0 (gsel (rget 30 ((S 11 5).2 1) a1)))) fun g15 => (lt (up S 0 (up (S 0) (gsel (rget 30 ((S 11 5).2 1) a1)) g15)) fun S16 => some (true, S16))) else some (false, S)) else (if (nI (kx1 + 1)) = 7 then (lt (up S 0 (up (S 0) 0 (sS (S 0 0) 1 (rget 30 ((S 11 5).2 1) a1)))) fun S17 => some (true, S17)) else (if (nI (kx1 + 1)) = 8 then (lpN N (fun z => st_X10_perform_191 N (rget 30 ((S 11 5).2 1) a1) z.1 z.2) (0, S)) else some (false, S)))))))))) else none))
theorem lp_X10_perform_191 {w : WP} (hW : gW w) (hS : gS w) {Ω : OM}   (l3 : Int32) {N : Nat} {X : CX} (C : gC w X cX10_perform "HedgeMessages" (some .boolean) 6 6) {v : Bool} {S' : Nat → Nat → HV}  : ∀ (n : Nat) (l5 : Int32) (S : Nat → Nat → HV), lpN n (fun z : Int32 × (Nat → Nat → HV) => st_X10_perform_191 N l3 z.1 z.2) (l5, S) = some (v, S') → gV w X (some (.int (b2i v)), cA w (S', Ω.2)) (cA w (S, Ω.2)) 191 [(0, .ref (wAd w (7, 11, 6, 0))), (3, .int l3), (5, .int l5)] [] := by
  intro n
  induction n with
  | zero => intro l5 S hL; exact lpN_0 hL
  | succ n ih =>
    intro l5 S hL
    obtain ⟨q9, hF, hL⟩ := lpN_e hL
    change st_X10_perform_191 N l3 l5 S = some q9 at hF
    unfold st_X10_perform_191 at hF
    refine r_iload C (k := 2) rfl dX10_perform_191 ?_
    refine r_iload_n C (k := 1) rfl rfl dX10_perform_193 ?_
    refine r_icmp_ge C (tgt := 210) rfl dX10_perform_194 (fun hc => ?_) (fun hc => ?_)
    · rw [if_pos hc] at hF
      refine r_iconst C (v := 1) rfl dX10_perform_210 ?_
      cases hF
      change some _ = some _ at hL
      cases hL
      exact r_zreturn C true rfl dX10_perform_211
    · rw [if_neg hc] at hF
      refine r_aload_n C (k := 0) rfl rfl dX10_perform_197 ?_
      refine og_7_0 C (hW.ok k7) wm2_168 dX10_perform_198 ?_
      obtain ⟨g19, hg19, hF⟩ := ob1_e hF
      obtain ⟨S20, eS20, hF⟩ := lt_e hF
      refine r_callV C (d' := 5) [] (c_X5_endOneDay hW (by decide) (congrFun (show (S, Ω.2).1 = S from rfl) 0) N hg19 (congrArg (fun z => (z, Ω.2)) eS20)) myX5_endOneDay wm5_3 ⟨_, _, _, _, (hW.ok (k0 (by decide))), rfl, rfl, rfl, rfl⟩ rfl (kR rfl) (by decide) (kR rfl) rfl dX10_perform_201 ?_
      refine r_iinc C (k := 2) (v := (l5 + 1)) (lo' := [(5, .int (l5 + 1)), (0, .ref (wAd w (7, 11, 6, 0))), (3, .int l3)]) rfl rfl (by decide) rfl dX10_perform_204 ?_
      refine r_goto C (tgt := 191) rfl dX10_perform_207 ?_
      cases hF
      change lpN n _ _ = some _ at hL
      refine r_lo [1, 2, 0] (lo' := [(0, .ref (wAd w (7, 11, 6, 0))), (3, .int l3), (5, .int (l5 + 1))]) rfl ?_
      exact ih (l5 + 1) S20 hL
theorem c_X10_perform {w : WP} (hW : gW w) (hS : gS w) {Ω : OM}  {S : Nat → Nat → HV} (e : Ω.1 = S) (N : Nat) (a1 : Int32) {v : Bool} {S' : Nat → Nat → HV} (hF : F_X10_perform N a1 S = some (v, S')) {Ω' : OM} (e2 : (S', Ω.2) = Ω') : gM w 6 yX10_perform cX10_perform 6 (some .boolean) [.ref (wAd w (7, 11, 6, 0)), .int a1] (cA w Ω) (some (.int (b2i v))) (cA w Ω') := by
  refine gM_of "HedgeMessages" rfl (by decide) (kR rfl) fun X C => ?_
  unfold F_X10_perform at hF
  subst e2
  show gV w X _ _ 0 [(0, .ref (wAd w (7, 11, 6, 0))), (1, .int a1)] []
  refine r_ct (ct' := cA w (S, Ω.2)) (by rw [← e]) ?_
  refine r_aload_n C (k := 0) rfl rfl dX10_perform_0 ?_
  refine og_7_6 C (hW.ok k7) wm2_174 dX10_perform_1 ?_
  refine r_iload_n C (k := 1) rfl rfl dX10_perform_4 ?_
  refine r_callV C (d' := 0) [.int a1] (c_X2_formOf hW (congrFun (congrFun (show (S, Ω.2).1 = S from rfl) 11) 5) a1) myX2_formOf wm4_150 ⟨_, _, _, _, (hW.ok k6), rfl, rfl, rfl, rfl⟩ rfl (kR rfl) (by decide) (kR rfl) rfl dX10_perform_5 ?_
  refine r_astoreq_n C (lo' := [(2, va_rf (dForm w (rget 30 ((S 11 5).2 0) a1))), (0, .ref (wAd w (7, 11, 6, 0))), (1, .int a1)]) rfl (by decide) rfl dX10_perform_8 ?_
  refine r_aloadq_n C (k := 0) rfl rfl dX10_perform_9 ?_
  by_cases hc : (rget 30 ((S 11 5).2 0) a1) = 0
  · rw [if_pos hc] at hF
    rw [dF_0 hc]
    refine r_ifnonnullN C dX10_perform_10 ?_
    refine r_lq (lo' := [(2, .null), (0, .ref (wAd w (7, 11, 6, 0))), (1, .int a1)]) rfl ?_
    refine r_iconst C (v := 0) rfl dX10_perform_13 ?_
    cases hF
    exact r_zreturn C false rfl dX10_perform_14
  · rw [if_neg hc] at hF
    obtain ⟨b2, hF⟩ := gd_e hF
    obtain ⟨kx1, ekx1, hF⟩ := lt_e hF
    have hkx1 : kx1 < 8 := by rw [← ekx1]; exact clN (vpb_in b2)
    rw [dF_s hc, ekx1]
    refine r_ifnonnull C (tgt := 15) rfl dX10_perform_10 ?_
    refine r_lq (lo' := [(2, .ref (wAd w (13, kx1, 0, 0))), (0, .ref (wAd w (7, 11, 6, 0))), (1, .int a1)]) rfl ?_
    refine r_aload_n C (k := 1) rfl rfl dX10_perform_15 ?_
    refine og_7_6 C (hW.ok k7) wm2_174 dX10_perform_16 ?_
    refine ogN_6_1 C (hW.ok k6) wm2_45 dX10_perform_19 ?_
    refine r_iload_n C (k := 2) rfl rfl dX10_perform_22 ?_
    refine r_callV C (d' := 0) [.int a1] (c_rget (hW.ok (i := (3, 11, 5, 1)) (q5 (kR rfl) (kR rfl))) (hW.ok (i := (4, 11, 5, 1)) (q5 (kR rfl) (kR rfl))) (show rlen 5 1 = 30 from rfl) (by decide) (congrArg (fun z => z.2 1) (congrFun (congrFun (show (S, Ω.2).1 = S from rfl) 11) 5)) rfl) myX8_get wm3_150 ⟨_, _, _, _, (hW.ok (i := (3, 11, 5, 1)) (q5 (kR rfl) (kR rfl))), rfl, rfl, rfl, rfl⟩ rfl (kR rfl) (by decide) (kR rfl) rfl dX10_perform_23 ?_
    refine r_istore_n C (lo' := [(3, .int (rget 30 ((S 11 5).2 1) a1)), (2, .ref (wAd w (13, kx1, 0, 0))), (0, .ref (wAd w (7, 11, 6, 0))), (1, .int a1)]) rfl (by decide) rfl dX10_perform_26 ?_
    refine r_aload_n C (k := 2) rfl rfl dX10_perform_27 ?_
    refine og_7_6 C (hW.ok k7) wm2_174 dX10_perform_28 ?_
    refine ogN_6_2 C (hW.ok k6) wm2_47 dX10_perform_31 ?_
    refine r_iload_n C (k := 3) rfl rfl dX10_perform_34 ?_
    refine r_callV C (d' := 0) [.int a1] (c_rget (hW.ok (i := (3, 11, 5, 2)) (q5 (kR rfl) (kR rfl))) (hW.ok (i := (4, 11, 5, 2)) (q5 (kR rfl) (kR rfl))) (show rlen 5 2 = 30 from rfl) (by decide) (congrArg (fun z => z.2 2) (congrFun (congrFun (show (S, Ω.2).1 = S from rfl) 11) 5)) rfl) myX8_get wm3_150 ⟨_, _, _, _, (hW.ok (i := (3, 11, 5, 2)) (q5 (kR rfl) (kR rfl))), rfl, rfl, rfl, rfl⟩ rfl (kR rfl) (by decide) (kR rfl) rfl dX10_perform_35 ?_
    refine r_istore C (lo' := [(4, .int (rget 30 ((S 11 5).2 2) a1)), (3, .int (rget 30 ((S 11 5).2 1) a1)), (2, .ref (wAd w (13, kx1, 0, 0))), (0, .ref (wAd w (7, 11, 6, 0))), (1, .int a1)]) (by decide) rfl dX10_perform_38 ?_
    refine r_gets C ((hS.e C).imp fun _ _ _ h => h.2.2.1) wm4_154 dX10_perform_40 ?_
    refine r_aload_n C (k := 2) rfl rfl dX10_perform_43 ?_
    refine r_callO C hS (kR rfl) hkx1 wm4_156 (kR rfl) dX10_perform_44 ?_
    refine r_ti C ((hS.e C).imp fun _ _ _ h => h.2.2.2.1) (vp_in_nI hkx1 (by decide)) (v := .int (nI (kx1 + 1))) (by rw [nI_clamp (Nat.lt_trans hkx1 (by decide))]) dX10_perform_47 ?_
    by_cases z0 : (nI (kx1 + 1)) = 1
    · rw [if_pos z0] at hF
      refine r_tabIn C (v := 1) (tgt := 96) z0 dX10_perform_48 (by decide) (by decide) rfl rfl ?_
      refine r_aload_n C (k := 3) rfl rfl dX10_perform_96 ?_
      refine r_aload_n C (k := 2) rfl rfl dX10_perform_97 ?_
      refine r_iload_n C (k := 1) rfl rfl dX10_perform_98 ?_
      refine r_iload C (k := 0) rfl dX10_perform_99 ?_
      obtain ⟨v3, S4, hS4, hF⟩ := ob_e hF
      refine r_callV C (d' := 4) [.ref (wAd w (13, kx1, 0, 0)), .int (rget 30 ((S 11 5).2 1) a1), .int (rget 30 ((S 11 5).2 2) a1)] (c_X10_performOnSlot hW hS (show (S, Ω.2).1 = S from rfl) N kx1 hkx1 (rget 30 ((S 11 5).2 1) a1) (rget 30 ((S 11 5).2 2) a1) hS4 rfl) myX10_performOnSlot wm4_162 ⟨_, _, _, _, (hW.ok k7), rfl, rfl, rfl, rfl⟩ rfl (kR rfl) (by decide) (kR rfl) rfl dX10_perform_101 ?_
      cases hF
      exact r_zreturn C _ rfl dX10_perform_104
    rw [if_neg z0] at hF
    by_cases z1 : (nI (kx1 + 1)) = 2
    · rw [if_pos z1] at hF
      refine r_tabIn C (v := 2) (tgt := 96) z1 dX10_perform_48 (by decide) (by decide) rfl rfl ?_
      refine r_aload_n C (k := 3) rfl rfl dX10_perform_96 ?_
      refine r_aload_n C (k := 2) rfl rfl dX10_perform_97 ?_
      refine r_iload_n C (k := 1) rfl rfl dX10_perform_98 ?_
      refine r_iload C (k := 0) rfl dX10_perform_99 ?_
      obtain ⟨v5, S6, hS6, hF⟩ := ob_e hF
      refine r_callV C (d' := 4) [.ref (wAd w (13, kx1, 0, 0)), .int (rget 30 ((S 11 5).2 1) a1), .int (rget 30 ((S 11 5).2 2) a1)] (c_X10_performOnSlot hW hS (show (S, Ω.2).1 = S from rfl) N kx1 hkx1 (rget 30 ((S 11 5).2 1) a1) (rget 30 ((S 11 5).2 2) a1) hS6 rfl) myX10_performOnSlot wm4_162 ⟨_, _, _, _, (hW.ok k7), rfl, rfl, rfl, rfl⟩ rfl (kR rfl) (by decide) (kR rfl) rfl dX10_perform_101 ?_
      cases hF
      exact r_zreturn C _ rfl dX10_perform_104
    rw [if_neg z1] at hF
    by_cases z2 : (nI (kx1 + 1)) = 3
    · rw [if_pos z2] at hF
      refine r_tabIn C (v := 3) (tgt := 96) z2 dX10_perform_48 (by decide) (by decide) rfl rfl ?_
      refine r_aload_n C (k := 3) rfl rfl dX10_perform_96 ?_
      refine r_aload_n C (k := 2) rfl rfl dX10_perform_97 ?_
      refine r_iload_n C (k := 1) rfl rfl dX10_perform_98 ?_
      refine r_iload C (k := 0) rfl dX10_perform_99 ?_
      obtain ⟨v7, S8, hS8, hF⟩ := ob_e hF
      refine r_callV C (d' := 4) [.ref (wAd w (13, kx1, 0, 0)), .int (rget 30 ((S 11 5).2 1) a1), .int (rget 30 ((S 11 5).2 2) a1)] (c_X10_performOnSlot hW hS (show (S, Ω.2).1 = S from rfl) N kx1 hkx1 (rget 30 ((S 11 5).2 1) a1) (rget 30 ((S 11 5).2 2) a1) hS8 rfl) myX10_performOnSlot wm4_162 ⟨_, _, _, _, (hW.ok k7), rfl, rfl, rfl, rfl⟩ rfl (kR rfl) (by decide) (kR rfl) rfl dX10_perform_101 ?_
      cases hF
      exact r_zreturn C _ rfl dX10_perform_104
    rw [if_neg z2] at hF
    by_cases z3 : (nI (kx1 + 1)) = 4
    · rw [if_pos z3] at hF
      refine r_tabIn C (v := 4) (tgt := 96) z3 dX10_perform_48 (by decide) (by decide) rfl rfl ?_
      refine r_aload_n C (k := 3) rfl rfl dX10_perform_96 ?_
      refine r_aload_n C (k := 2) rfl rfl dX10_perform_97 ?_
      refine r_iload_n C (k := 1) rfl rfl dX10_perform_98 ?_
      refine r_iload C (k := 0) rfl dX10_perform_99 ?_
      obtain ⟨v9, S10, hS10, hF⟩ := ob_e hF
      refine r_callV C (d' := 4) [.ref (wAd w (13, kx1, 0, 0)), .int (rget 30 ((S 11 5).2 1) a1), .int (rget 30 ((S 11 5).2 2) a1)] (c_X10_performOnSlot hW hS (show (S, Ω.2).1 = S from rfl) N kx1 hkx1 (rget 30 ((S 11 5).2 1) a1) (rget 30 ((S 11 5).2 2) a1) hS10 rfl) myX10_performOnSlot wm4_162 ⟨_, _, _, _, (hW.ok k7), rfl, rfl, rfl, rfl⟩ rfl (kR rfl) (by decide) (kR rfl) rfl dX10_perform_101 ?_
      cases hF
      exact r_zreturn C _ rfl dX10_perform_104
    rw [if_neg z3] at hF
    by_cases z4 : (nI (kx1 + 1)) = 5
    · rw [if_pos z4] at hF
      refine r_tabIn C (v := 5) (tgt := 105) z4 dX10_perform_48 (by decide) (by decide) rfl rfl ?_
      refine r_aload_n C (k := 3) rfl rfl dX10_perform_105 ?_
      refine og_7_0 C (hW.ok k7) wm2_168 dX10_perform_106 ?_
      refine r_iload_n C (k := 1) rfl rfl dX10_perform_109 ?_
      refine r_callV C (d' := 1) [.int (rget 30 ((S 11 5).2 1) a1)] (c_X5_mayQueue hW (by decide) (congrFun (show (S, Ω.2).1 = S from rfl) 0) (rget 30 ((S 11 5).2 1) a1) rfl) myX5_mayQueue wm4_224 ⟨_, _, _, _, (hW.ok (k0 (by decide))), rfl, rfl, rfl, rfl⟩ rfl (kR rfl) (by decide) (kR rfl) rfl dX10_perform_110 ?_
      refine r_if_ne C (tgt := 118) rfl dX10_perform_113 (fun hc => ?_) (fun hc => ?_)
      · rw [if_pos (b2i_t hc)] at hF
        refine r_aload_n C (k := 3) rfl rfl dX10_perform_118 ?_
        refine og_7_0 C (hW.ok k7) wm2_168 dX10_perform_119 ?_
        refine r_iload_n C (k := 1) rfl rfl dX10_perform_122 ?_
        refine r_aload_n C (k := 3) rfl rfl dX10_perform_123 ?_
        refine og_7_5 C (hW.ok k7) wm2_173 dX10_perform_124 ?_
        refine ogN_5_0 C (hW.ok k5) wm1_236 dX10_perform_127 ?_
        refine r_iload C (k := 0) rfl dX10_perform_130 ?_
        refine r_aload_n C (k := 3) rfl rfl dX10_perform_132 ?_
        refine og_7_6 C (hW.ok k7) wm2_174 dX10_perform_133 ?_
        refine ogN_6_3 C (hW.ok k6) wm2_49 dX10_perform_136 ?_
        refine r_iload_n C (k := 4) rfl rfl dX10_perform_139 ?_
        refine r_callV C (d' := 0) [.int a1] (c_rget (hW.ok (i := (3, 11, 5, 3)) (q5 (kR rfl) (kR rfl))) (hW.ok (i := (4, 11, 5, 3)) (q5 (kR rfl) (kR rfl))) (show rlen 5 3 = 30 from rfl) (by decide) (congrArg (fun z => z.2 3) (congrFun (congrFun (show (S, Ω.2).1 = S from rfl) 11) 5)) rfl) myX8_get wm3_150 ⟨_, _, _, _, (hW.ok (i := (3, 11, 5, 3)) (q5 (kR rfl) (kR rfl))), rfl, rfl, rfl, rfl⟩ rfl (kR rfl) (by decide) (kR rfl) rfl dX10_perform_140 ?_
        obtain ⟨g12, hg12, hF⟩ := lt_e hF
        obtain ⟨S13, eS13, hF⟩ := lt_e hF
        refine r_callV C (d' := 3) [.int (rget 30 ((S 11 5).2 1) a1), .ref (wAd w (3, 11, 4, 0)), .int (rget 30 ((S 11 5).2 2) a1), .int (rget 30 ((S 11 5).2 3) a1)] (c_X5_receive hW (by decide) (congrFun (show (S, Ω.2).1 = S from rfl) 0) (rget 30 ((S 11 5).2 1) a1) (hW.ok (i := (3, 11, 4, 0)) q4) (hW.ok (i := (4, 11, 4, 0)) q4) (show rlen 4 0 = 800 from rfl) (by decide) (congrArg (fun z => z.2 0) (congrFun (congrFun (show (S, Ω.2).1 = S from rfl) 11) 4)) (rget 30 ((S 11 5).2 2) a1) (rget 30 ((S 11 5).2 3) a1) hg12 (congrArg (fun z => (z, Ω.2)) eS13)) myX5_receive wm4_225 ⟨_, _, _, _, (hW.ok (k0 (by decide))), rfl, rfl, rfl, rfl⟩ rfl (kR rfl) (by decide) (kR rfl) rfl dX10_perform_143 ?_
        refine r_iconst C (v := 1) rfl dX10_perform_146 ?_
        cases hF
        exact r_zreturn C true rfl dX10_perform_147
      · rw [if_neg (b2i_f hc)] at hF
        refine r_iconst C (v := 0) rfl dX10_perform_116 ?_
        cases hF
        exact r_zreturn C false rfl dX10_perform_117
    rw [if_neg z4] at hF
    by_cases z5 : (nI (kx1 + 1)) = 6
    · rw [if_pos z5] at hF
      refine r_tabIn C (v := 6) (tgt := 148) z5 dX10_perform_48 (by decide) (by decide) rfl rfl ?_
      refine r_aload_n C (k := 3) rfl rfl dX10_perform_148 ?_
      refine og_7_0 C (hW.ok k7) wm2_168 dX10_perform_149 ?_
      refine r_iload_n C (k := 1) rfl rfl dX10_perform_152 ?_
      refine r_iload C (k := 0) rfl dX10_perform_153 ?_
      refine r_callV C (d' := 1) [.int (rget 30 ((S 11 5).2 1) a1), .int (rget 30 ((S 11 5).2 2) a1)] (c_X5_mayCancel hW (by decide) (congrFun (show (S, Ω.2).1 = S from rfl) 0) (rget 30 ((S 11 5).2 1) a1) (rget 30 ((S 11 5).2 2) a1) rfl) myX5_mayCancel wm4_226 ⟨_, _, _, _, (hW.ok (k0 (by decide))), rfl, rfl, rfl, rfl⟩ rfl (kR rfl) (by decide) (kR rfl) rfl dX10_perform_155 ?_
      refine r_if_ne C (tgt := 163) rfl dX10_perform_158 (fun hc => ?_) (fun hc => ?_)
      · rw [if_pos (b2i_t hc)] at hF
        refine r_aload_n C (k := 3) rfl rfl dX10_perform_163 ?_
        refine og_7_0 C (hW.ok k7) wm2_168 dX10_perform_164 ?_
        refine r_iload_n C (k := 1) rfl rfl dX10_perform_167 ?_
        refine r_callV C (d' := 0) [.int (rget 30 ((S 11 5).2 1) a1)] (c_X5_gardener hW (by decide) (rget 30 ((S 11 5).2 1) a1)) myX5_gardener wm4_234 ⟨_, _, _, _, (hW.ok (k0 (by decide))), rfl, rfl, rfl, rfl⟩ rfl (kR rfl) (by decide) (kR rfl) rfl dX10_perform_168 ?_
        refine r_iload C (k := 0) rfl dX10_perform_171 ?_
        obtain ⟨g15, hg15, hF⟩ := lt_e hF
        obtain ⟨S16, eS16, hF⟩ := lt_e hF
        refine r_callV C (d' := 3) [.int (rget 30 ((S 11 5).2 2) a1)] (c_X4_cancel hW (by decide) gsel_12 (congrFun (congrFun (show (S, Ω.2).1 = S from rfl) 0) (gsel (rget 30 ((S 11 5).2 1) a1))) (rget 30 ((S 11 5).2 2) a1) hg15 (congrArg (fun z => (z, Ω.2)) eS16)) myX4_cancel wm4_235 ⟨_, _, _, _, (hW.ok (k1 (by decide) gsel_12)), rfl, rfl, rfl, rfl⟩ rfl (kR rfl) (by decide) (kR rfl) rfl dX10_perform_173 ?_
        refine r_iconst C (v := 1) rfl dX10_perform_176 ?_
        cases hF
        exact r_zreturn C true rfl dX10_perform_177
      · rw [if_neg (b2i_f hc)] at hF
        refine r_iconst C (v := 0) rfl dX10_perform_161 ?_
        cases hF
        exact r_zreturn C false rfl dX10_perform_162
    rw [if_neg z5] at hF
    by_cases z6 : (nI (kx1 + 1)) = 7
    · rw [if_pos z6] at hF
      refine r_tabIn C (v := 7) (tgt := 178) z6 dX10_perform_48 (by decide) (by decide) rfl rfl ?_
      refine r_aload_n C (k := 3) rfl rfl dX10_perform_178 ?_
      refine og_7_0 C (hW.ok k7) wm2_168 dX10_perform_179 ?_
      refine r_iload_n C (k := 1) rfl rfl dX10_perform_182 ?_
      obtain ⟨S17, eS17, hF⟩ := lt_e hF
      refine opN_0_1 C hW.x (Or.inl (k0 (by decide))) (hW.fr (k0 (by decide))) (congrFun (congrFun (show (S, Ω.2).1 = S from rfl) 0) 0) wm1_136 dX10_perform_183 (congrArg (fun z => (z, Ω.2)) eS17) ?_
      refine r_iconst C (v := 1) rfl dX10_perform_186 ?_
      cases hF
      exact r_zreturn C true rfl dX10_perform_187
    rw [if_neg z6] at hF
    by_cases z7 : (nI (kx1 + 1)) = 8
    · rw [if_pos z7] at hF
      refine r_tabIn C (v := 8) (tgt := 188) z7 dX10_perform_48 (by decide) (by decide) rfl rfl ?_
      refine r_iconst C (v := 0) rfl dX10_perform_188 ?_
      refine r_istore C (lo' := [(5, .int 0), (4, .int (rget 30 ((S 11 5).2 2) a1)), (3, .int (rget 30 ((S 11 5).2 1) a1)), (2, .ref (wAd w (13, kx1, 0, 0))), (0, .ref (wAd w (7, 11, 6, 0))), (1, .int a1)]) (by decide) rfl dX10_perform_189 ?_
      refine r_lo [4, 2, 0] (lo' := [(0, .ref (wAd w (7, 11, 6, 0))), (3, .int (rget 30 ((S 11 5).2 1) a1)), (5, .int 0)]) rfl ?_
      exact lp_X10_perform_191 hW hS (rget 30 ((S 11 5).2 1) a1) C N 0 S hF
    rw [if_neg z7] at hF
    refine r_tabOut C (tgt := 212) dX10_perform_48 (by have t0 := ne_ti (k := 1) (by decide) z0; have t1 := ne_ti (k := 2) (by decide) z1; have t2 := ne_ti (k := 3) (by decide) z2; have t3 := ne_ti (k := 4) (by decide) z3; have t4 := ne_ti (k := 5) (by decide) z4; have t5 := ne_ti (k := 6) (by decide) z5; have t6 := ne_ti (k := 7) (by decide) z6; have t7 := ne_ti (k := 8) (by decide) z7; omega) rfl ?_
    refine r_iconst C (v := 0) rfl dX10_perform_212 ?_
    cases hF
    exact r_zreturn C false rfl dX10_perform_213
