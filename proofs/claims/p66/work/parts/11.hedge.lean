/-! ===== 11.hedge: printed by wip/p66/gen.py ===== -/
theorem dX5_gardener_0 : decode cX5_gardener 0 = .ok (.iload_n 1, 1) := by decide +kernel
theorem dX5_gardener_1 : decode cX5_gardener 1 = .ok (.ifCond .ne 10, 3) := by decide +kernel
theorem dX5_gardener_4 : decode cX5_gardener 4 = .ok (.aload_n 0, 1) := by decide +kernel
theorem dX5_gardener_5 : decode cX5_gardener 5 = .ok (.getfield 35, 3) := by decide +kernel
theorem dX5_gardener_8 : decode cX5_gardener 8 = .ok (.goto 7, 3) := by decide +kernel
theorem dX5_gardener_11 : decode cX5_gardener 11 = .ok (.aload_n 0, 1) := by decide +kernel
theorem dX5_gardener_12 : decode cX5_gardener 12 = .ok (.getfield 39, 3) := by decide +kernel
theorem dX5_gardener_15 : decode cX5_gardener 15 = .ok (.areturn, 1) := by decide +kernel
theorem c_X5_gardener {w : WP} (hW : gW w) {Ω : OM} {j : Nat} (hj : j ≤ 10) (a1 : Int32) : gM w 0 yX5_gardener cX5_gardener 2 (some (.object "HedgeMessages$Gardener")) [.ref (wAd w (0, j, 0, 0)), .int a1] (cA w Ω) (some (.ref (wAd w (1, j, gsel a1, 0)))) (cA w Ω) := by
  refine gM_of "HedgeMessages$Hedge" rfl (by decide) (kR rfl) fun X C => ?_
  show gV w X _ _ 0 [(0, .ref (wAd w (0, j, 0, 0))), (1, .int a1)] []
  refine r_iload_n C (k := 1) rfl rfl dX5_gardener_0 ?_
  refine r_if_ne C (tgt := 11) rfl dX5_gardener_1 (fun h => ?_) (fun h => ?_)
  · have hg : gsel a1 = 2 := if_neg h
    rw [hg]
    refine r_aload_n C (k := 0) rfl rfl dX5_gardener_11 ?_
    refine og_0_14 C (hW.ok (k0 hj)) wm1_158 dX5_gardener_12 ?_
    exact r_areturn C (Or.inl ⟨_, rfl⟩) dX5_gardener_15
  · have hg : gsel a1 = 1 := if_pos h
    rw [hg]
    refine r_aload_n C (k := 0) rfl rfl dX5_gardener_4 ?_
    refine og_0_13 C (hW.ok (k0 hj)) wm1_156 dX5_gardener_5 ?_
    refine r_goto C (tgt := 15) rfl dX5_gardener_8 ?_
    exact r_areturn C (Or.inl ⟨_, rfl⟩) dX5_gardener_15
theorem dX5_layOut_0 : decode cX5_layOut 0 = .ok (.aload_n 0, 1) := by decide +kernel
theorem dX5_layOut_1 : decode cX5_layOut 1 = .ok (.iload_n 1, 1) := by decide +kernel
theorem dX5_layOut_2 : decode cX5_layOut 2 = .ok (.putfield 49, 3) := by decide +kernel
theorem dX5_layOut_5 : decode cX5_layOut 5 = .ok (.aload_n 0, 1) := by decide +kernel
theorem dX5_layOut_6 : decode cX5_layOut 6 = .ok (.iload_n 2, 1) := by decide +kernel
theorem dX5_layOut_7 : decode cX5_layOut 7 = .ok (.putfield 53, 3) := by decide +kernel
theorem dX5_layOut_10 : decode cX5_layOut 10 = .ok (.aload_n 0, 1) := by decide +kernel
theorem dX5_layOut_11 : decode cX5_layOut 11 = .ok (.iload_n 3, 1) := by decide +kernel
theorem dX5_layOut_12 : decode cX5_layOut 12 = .ok (.putfield 56, 3) := by decide +kernel
theorem dX5_layOut_15 : decode cX5_layOut 15 = .ok (.aload_n 0, 1) := by decide +kernel
theorem dX5_layOut_16 : decode cX5_layOut 16 = .ok (.iload 4, 2) := by decide +kernel
theorem dX5_layOut_18 : decode cX5_layOut 18 = .ok (.putfield 59, 3) := by decide +kernel
theorem dX5_layOut_21 : decode cX5_layOut 21 = .ok (.aload_n 0, 1) := by decide +kernel
theorem dX5_layOut_22 : decode cX5_layOut 22 = .ok (.iload 5, 2) := by decide +kernel
theorem dX5_layOut_24 : decode cX5_layOut 24 = .ok (.putfield 62, 3) := by decide +kernel
theorem dX5_layOut_27 : decode cX5_layOut 27 = .ok (.aload_n 0, 1) := by decide +kernel
theorem dX5_layOut_28 : decode cX5_layOut 28 = .ok (.iload 6, 2) := by decide +kernel
theorem dX5_layOut_30 : decode cX5_layOut 30 = .ok (.putfield 65, 3) := by decide +kernel
theorem dX5_layOut_33 : decode cX5_layOut 33 = .ok (.aload_n 0, 1) := by decide +kernel
theorem dX5_layOut_34 : decode cX5_layOut 34 = .ok (.iconst 0, 1) := by decide +kernel
theorem dX5_layOut_35 : decode cX5_layOut 35 = .ok (.putfield 68, 3) := by decide +kernel
theorem dX5_layOut_38 : decode cX5_layOut 38 = .ok (.aload_n 0, 1) := by decide +kernel
theorem dX5_layOut_39 : decode cX5_layOut 39 = .ok (.iload_n 2, 1) := by decide +kernel
theorem dX5_layOut_40 : decode cX5_layOut 40 = .ok (.putfield 71, 3) := by decide +kernel
theorem dX5_layOut_43 : decode cX5_layOut 43 = .ok (.aload_n 0, 1) := by decide +kernel
theorem dX5_layOut_44 : decode cX5_layOut 44 = .ok (.getfield 14, 3) := by decide +kernel
theorem dX5_layOut_47 : decode cX5_layOut 47 = .ok (.invokevirtual 93, 3) := by decide +kernel
theorem dX5_layOut_50 : decode cX5_layOut 50 = .ok (.aload_n 0, 1) := by decide +kernel
theorem dX5_layOut_51 : decode cX5_layOut 51 = .ok (.getfield 20, 3) := by decide +kernel
theorem dX5_layOut_54 : decode cX5_layOut 54 = .ok (.invokevirtual 93, 3) := by decide +kernel
theorem dX5_layOut_57 : decode cX5_layOut 57 = .ok (.aload_n 0, 1) := by decide +kernel
theorem dX5_layOut_58 : decode cX5_layOut 58 = .ok (.getfield 23, 3) := by decide +kernel
theorem dX5_layOut_61 : decode cX5_layOut 61 = .ok (.invokevirtual 93, 3) := by decide +kernel
theorem dX5_layOut_64 : decode cX5_layOut 64 = .ok (.aload_n 0, 1) := by decide +kernel
theorem dX5_layOut_65 : decode cX5_layOut 65 = .ok (.getfield 26, 3) := by decide +kernel
theorem dX5_layOut_68 : decode cX5_layOut 68 = .ok (.invokevirtual 93, 3) := by decide +kernel
theorem dX5_layOut_71 : decode cX5_layOut 71 = .ok (.aload_n 0, 1) := by decide +kernel
theorem dX5_layOut_72 : decode cX5_layOut 72 = .ok (.getfield 29, 3) := by decide +kernel
theorem dX5_layOut_75 : decode cX5_layOut 75 = .ok (.invokevirtual 93, 3) := by decide +kernel
theorem dX5_layOut_78 : decode cX5_layOut 78 = .ok (.aload_n 0, 1) := by decide +kernel
theorem dX5_layOut_79 : decode cX5_layOut 79 = .ok (.getfield 35, 3) := by decide +kernel
theorem dX5_layOut_82 : decode cX5_layOut 82 = .ok (.invokevirtual 96, 3) := by decide +kernel
theorem dX5_layOut_85 : decode cX5_layOut 85 = .ok (.aload_n 0, 1) := by decide +kernel
theorem dX5_layOut_86 : decode cX5_layOut 86 = .ok (.getfield 39, 3) := by decide +kernel
theorem dX5_layOut_89 : decode cX5_layOut 89 = .ok (.invokevirtual 96, 3) := by decide +kernel
theorem dX5_layOut_92 : decode cX5_layOut 92 = .ok (.aload_n 0, 1) := by decide +kernel
theorem dX5_layOut_93 : decode cX5_layOut 93 = .ok (.getfield 45, 3) := by decide +kernel
theorem dX5_layOut_96 : decode cX5_layOut 96 = .ok (.iconst 0, 1) := by decide +kernel
theorem dX5_layOut_97 : decode cX5_layOut 97 = .ok (.putfield 97, 3) := by decide +kernel
theorem dX5_layOut_100 : decode cX5_layOut 100 = .ok (.aload_n 0, 1) := by decide +kernel
theorem dX5_layOut_101 : decode cX5_layOut 101 = .ok (.iconst 0, 1) := by decide +kernel
theorem dX5_layOut_102 : decode cX5_layOut 102 = .ok (.putfield 84, 3) := by decide +kernel
theorem dX5_layOut_105 : decode cX5_layOut 105 = .ok (.aload_n 0, 1) := by decide +kernel
theorem dX5_layOut_106 : decode cX5_layOut 106 = .ok (.iconst 0, 1) := by decide +kernel
theorem dX5_layOut_107 : decode cX5_layOut 107 = .ok (.putfield 87, 3) := by decide +kernel
theorem dX5_layOut_110 : decode cX5_layOut 110 = .ok (.aload_n 0, 1) := by decide +kernel
theorem dX5_layOut_111 : decode cX5_layOut 111 = .ok (.iconst 0, 1) := by decide +kernel
theorem dX5_layOut_112 : decode cX5_layOut 112 = .ok (.putfield 90, 3) := by decide +kernel
theorem dX5_layOut_115 : decode cX5_layOut 115 = .ok (.return_, 1) := by decide +kernel
def F_X5_layOut (a1 : Int32) (a2 : Int32) (a3 : Int32) (a4 : Int32) (a5 : Int32) (a6 : Int32) (h : Nat → HV) : Nat → HV := (lt (up h 0 (sS (h 0) 0 a1)) fun h1 => (lt (up h1 0 (sS (h1 0) 1 a2)) fun h2 => (lt (up h2 0 (sS (h2 0) 2 a3)) fun h3 => (lt (up h3 0 (sS (h3 0) 3 a4)) fun h4 => (lt (up h4 0 (sS (h4 0) 4 a5)) fun h5 => (lt (up h5 0 (sS (h5 0) 5 a6)) fun h6 => (lt (up h6 0 (sS (h6 0) 6 0)) fun h7 => (lt (up h7 0 (sS (h7 0) 7 a2)) fun h8 => (lt (up h8 0 (sA (h8 0) 0 (rclr 40 ((h8 0).2 0)))) fun h10 => (lt (up h10 0 (sA (h10 0) 1 (rclr 40 ((h10 0).2 1)))) fun h12 => (lt (up h12 0 (sA (h12 0) 2 (rclr 40 ((h12 0).2 2)))) fun h14 => (lt (up h14 0 (sA (h14 0) 3 (rclr 40 ((h14 0).2 3)))) fun h16 => (lt (up h16 0 (sA (h16 0) 4 (rclr 40 ((h16 0).2 4)))) fun h18 => (lt (F_X4_clear (h18 1)) fun g20 => (lt (up h18 1 g20) fun h21 => (lt (F_X4_clear (h21 2)) fun g23 => (lt (up h21 2 g23) fun h24 => (lt (up h24 3 (sS (h24 3) 3 0)) fun h25 => (lt (up h25 0 (sS (h25 0) 16 0)) fun h26 => (lt (up h26 0 (sS (h26 0) 17 0)) fun h27 => (lt (up h27 0 (sS (h27 0) 18 0)) fun h28 => h28)))))))))))))))))))))
theorem c_X5_layOut {w : WP} (hW : gW w) {Ω : OM} {j : Nat} (hj : j ≤ 10) {h : Nat → HV} (e : Ω.1 j = h) (a1 : Int32) (a2 : Int32) (a3 : Int32) (a4 : Int32) (a5 : Int32) (a6 : Int32) {h' : Nat → HV} (hF : F_X5_layOut a1 a2 a3 a4 a5 a6 h = h') {Ω' : OM} (e2 : (sH Ω j h') = Ω') : gM w 2 yX5_layOut cX5_layOut 7 none [.ref (wAd w (0, j, 0, 0)), .int a1, .int a2, .int a3, .int a4, .int a5, .int a6] (cA w Ω) none (cA w Ω') := by
  refine gM_of "HedgeMessages$Hedge" rfl (by decide) (kR rfl) fun X C => ?_
  unfold F_X5_layOut at hF
  subst e2
  show gV w X _ _ 0 [(0, .ref (wAd w (0, j, 0, 0))), (1, .int a1), (2, .int a2), (3, .int a3), (4, .int a4), (5, .int a5), (6, .int a6)] []
  refine r_ct (ct' := cA w (sH Ω j h)) (congrArg (cA w) (sH_i e).symm) ?_
  refine r_aload_n C (k := 0) rfl rfl dX5_layOut_0 ?_
  refine r_iload_n C (k := 1) rfl rfl dX5_layOut_1 ?_
  obtain ⟨h1, eh1, hF⟩ := lt_e hF
  refine op_0_0 C hW.x (Or.inl (k0 hj)) (hW.fr (k0 hj)) (congrFun (sH_g (Ω := Ω) (j := j) (h := h)) 0) wm1_133 dX5_layOut_2 (sP_H.trans (congrArg (sH Ω j) eh1)) ?_
  refine r_aload_n C (k := 0) rfl rfl dX5_layOut_5 ?_
  refine r_iload_n C (k := 2) rfl rfl dX5_layOut_6 ?_
  obtain ⟨h2, eh2, hF⟩ := lt_e hF
  refine op_0_1 C hW.x (Or.inl (k0 hj)) (hW.fr (k0 hj)) (congrFun (sH_g (Ω := Ω) (j := j) (h := h1)) 0) wm1_136 dX5_layOut_7 (sP_H.trans (congrArg (sH Ω j) eh2)) ?_
  refine r_aload_n C (k := 0) rfl rfl dX5_layOut_10 ?_
  refine r_iload_n C (k := 3) rfl rfl dX5_layOut_11 ?_
  obtain ⟨h3, eh3, hF⟩ := lt_e hF
  refine op_0_2 C hW.x (Or.inl (k0 hj)) (hW.fr (k0 hj)) (congrFun (sH_g (Ω := Ω) (j := j) (h := h2)) 0) wm1_138 dX5_layOut_12 (sP_H.trans (congrArg (sH Ω j) eh3)) ?_
  refine r_aload_n C (k := 0) rfl rfl dX5_layOut_15 ?_
  refine r_iload C (k := 4) rfl dX5_layOut_16 ?_
  obtain ⟨h4, eh4, hF⟩ := lt_e hF
  refine op_0_3 C hW.x (Or.inl (k0 hj)) (hW.fr (k0 hj)) (congrFun (sH_g (Ω := Ω) (j := j) (h := h3)) 0) wm1_139 dX5_layOut_18 (sP_H.trans (congrArg (sH Ω j) eh4)) ?_
  refine r_aload_n C (k := 0) rfl rfl dX5_layOut_21 ?_
  refine r_iload C (k := 5) rfl dX5_layOut_22 ?_
  obtain ⟨h5, eh5, hF⟩ := lt_e hF
  refine op_0_4 C hW.x (Or.inl (k0 hj)) (hW.fr (k0 hj)) (congrFun (sH_g (Ω := Ω) (j := j) (h := h4)) 0) wm1_140 dX5_layOut_24 (sP_H.trans (congrArg (sH Ω j) eh5)) ?_
  refine r_aload_n C (k := 0) rfl rfl dX5_layOut_27 ?_
  refine r_iload C (k := 6) rfl dX5_layOut_28 ?_
  obtain ⟨h6, eh6, hF⟩ := lt_e hF
  refine op_0_5 C hW.x (Or.inl (k0 hj)) (hW.fr (k0 hj)) (congrFun (sH_g (Ω := Ω) (j := j) (h := h5)) 0) wm1_141 dX5_layOut_30 (sP_H.trans (congrArg (sH Ω j) eh6)) ?_
  refine r_aload_n C (k := 0) rfl rfl dX5_layOut_33 ?_
  refine r_iconst C (v := 0) rfl dX5_layOut_34 ?_
  obtain ⟨h7, eh7, hF⟩ := lt_e hF
  refine op_0_6 C hW.x (Or.inl (k0 hj)) (hW.fr (k0 hj)) (congrFun (sH_g (Ω := Ω) (j := j) (h := h6)) 0) wm1_142 dX5_layOut_35 (sP_H.trans (congrArg (sH Ω j) eh7)) ?_
  refine r_aload_n C (k := 0) rfl rfl dX5_layOut_38 ?_
  refine r_iload_n C (k := 2) rfl rfl dX5_layOut_39 ?_
  obtain ⟨h8, eh8, hF⟩ := lt_e hF
  refine op_0_7 C hW.x (Or.inl (k0 hj)) (hW.fr (k0 hj)) (congrFun (sH_g (Ω := Ω) (j := j) (h := h7)) 0) wm1_144 dX5_layOut_40 (sP_H.trans (congrArg (sH Ω j) eh8)) ?_
  refine r_aload_n C (k := 0) rfl rfl dX5_layOut_43 ?_
  refine og_0_8 C (hW.ok (k0 hj)) wm1_146 dX5_layOut_44 ?_
  obtain ⟨h10, eh10, hF⟩ := lt_e hF
  refine r_callV C (d' := 0) [] (c_rclr hW.x (Or.inl (show okC (4, j, 0, 0) from (q0 hj (kR rfl)))) (hW.ok (i := (3, j, 0, 0)) (q0 hj (kR rfl))) (hW.ok (i := (4, j, 0, 0)) (q0 hj (kR rfl))) (hW.fr (i := (4, j, 0, 0)) (q0 hj (kR rfl))) (show rlen 0 0 = 40 from rfl) (by decide) (congrFun (sH_g (Ω := Ω) (j := j) (h := h8)) 0) rfl (sP_H.trans (congrArg (sH Ω j) eh10))) myX8_clear wm2_60 ⟨_, _, _, _, (hW.ok (i := (3, j, 0, 0)) (q0 hj (kR rfl))), rfl, rfl, rfl, rfl⟩ rfl (kR rfl) (by decide) (kR rfl) rfl dX5_layOut_47 ?_
  refine r_aload_n C (k := 0) rfl rfl dX5_layOut_50 ?_
  refine og_0_9 C (hW.ok (k0 hj)) wm1_148 dX5_layOut_51 ?_
  obtain ⟨h12, eh12, hF⟩ := lt_e hF
  refine r_callV C (d' := 0) [] (c_rclr hW.x (Or.inl (show okC (4, j, 0, 1) from (q0 hj (kR rfl)))) (hW.ok (i := (3, j, 0, 1)) (q0 hj (kR rfl))) (hW.ok (i := (4, j, 0, 1)) (q0 hj (kR rfl))) (hW.fr (i := (4, j, 0, 1)) (q0 hj (kR rfl))) (show rlen 0 1 = 40 from rfl) (by decide) (congrFun (sH_g (Ω := Ω) (j := j) (h := h10)) 0) rfl (sP_H.trans (congrArg (sH Ω j) eh12))) myX8_clear wm2_60 ⟨_, _, _, _, (hW.ok (i := (3, j, 0, 1)) (q0 hj (kR rfl))), rfl, rfl, rfl, rfl⟩ rfl (kR rfl) (by decide) (kR rfl) rfl dX5_layOut_54 ?_
  refine r_aload_n C (k := 0) rfl rfl dX5_layOut_57 ?_
  refine og_0_10 C (hW.ok (k0 hj)) wm1_150 dX5_layOut_58 ?_
  obtain ⟨h14, eh14, hF⟩ := lt_e hF
  refine r_callV C (d' := 0) [] (c_rclr hW.x (Or.inl (show okC (4, j, 0, 2) from (q0 hj (kR rfl)))) (hW.ok (i := (3, j, 0, 2)) (q0 hj (kR rfl))) (hW.ok (i := (4, j, 0, 2)) (q0 hj (kR rfl))) (hW.fr (i := (4, j, 0, 2)) (q0 hj (kR rfl))) (show rlen 0 2 = 40 from rfl) (by decide) (congrFun (sH_g (Ω := Ω) (j := j) (h := h12)) 0) rfl (sP_H.trans (congrArg (sH Ω j) eh14))) myX8_clear wm2_60 ⟨_, _, _, _, (hW.ok (i := (3, j, 0, 2)) (q0 hj (kR rfl))), rfl, rfl, rfl, rfl⟩ rfl (kR rfl) (by decide) (kR rfl) rfl dX5_layOut_61 ?_
  refine r_aload_n C (k := 0) rfl rfl dX5_layOut_64 ?_
  refine og_0_11 C (hW.ok (k0 hj)) wm1_152 dX5_layOut_65 ?_
  obtain ⟨h16, eh16, hF⟩ := lt_e hF
  refine r_callV C (d' := 0) [] (c_rclr hW.x (Or.inl (show okC (4, j, 0, 3) from (q0 hj (kR rfl)))) (hW.ok (i := (3, j, 0, 3)) (q0 hj (kR rfl))) (hW.ok (i := (4, j, 0, 3)) (q0 hj (kR rfl))) (hW.fr (i := (4, j, 0, 3)) (q0 hj (kR rfl))) (show rlen 0 3 = 40 from rfl) (by decide) (congrFun (sH_g (Ω := Ω) (j := j) (h := h14)) 0) rfl (sP_H.trans (congrArg (sH Ω j) eh16))) myX8_clear wm2_60 ⟨_, _, _, _, (hW.ok (i := (3, j, 0, 3)) (q0 hj (kR rfl))), rfl, rfl, rfl, rfl⟩ rfl (kR rfl) (by decide) (kR rfl) rfl dX5_layOut_68 ?_
  refine r_aload_n C (k := 0) rfl rfl dX5_layOut_71 ?_
  refine og_0_12 C (hW.ok (k0 hj)) wm1_155 dX5_layOut_72 ?_
  obtain ⟨h18, eh18, hF⟩ := lt_e hF
  refine r_callV C (d' := 0) [] (c_rclr hW.x (Or.inl (show okC (4, j, 0, 4) from (q0 hj (kR rfl)))) (hW.ok (i := (3, j, 0, 4)) (q0 hj (kR rfl))) (hW.ok (i := (4, j, 0, 4)) (q0 hj (kR rfl))) (hW.fr (i := (4, j, 0, 4)) (q0 hj (kR rfl))) (show rlen 0 4 = 40 from rfl) (by decide) (congrFun (sH_g (Ω := Ω) (j := j) (h := h16)) 0) rfl (sP_H.trans (congrArg (sH Ω j) eh18))) myX8_clear wm2_60 ⟨_, _, _, _, (hW.ok (i := (3, j, 0, 4)) (q0 hj (kR rfl))), rfl, rfl, rfl, rfl⟩ rfl (kR rfl) (by decide) (kR rfl) rfl dX5_layOut_75 ?_
  refine r_aload_n C (k := 0) rfl rfl dX5_layOut_78 ?_
  refine og_0_13 C (hW.ok (k0 hj)) wm1_156 dX5_layOut_79 ?_
  obtain ⟨g20, hg20, hF⟩ := lt_e hF
  obtain ⟨h21, eh21, hF⟩ := lt_e hF
  refine r_callV C (d' := 1) [] (c_X4_clear hW hj (Or.inl rfl) (congrFun (sH_g (Ω := Ω) (j := j) (h := h18)) 1) hg20 (sP_H.trans (congrArg (sH Ω j) eh21))) myX4_clear wm2_64 ⟨_, _, _, _, (hW.ok (k1 hj (Or.inl rfl))), rfl, rfl, rfl, rfl⟩ rfl (kR rfl) (by decide) (kR rfl) rfl dX5_layOut_82 ?_
  refine r_aload_n C (k := 0) rfl rfl dX5_layOut_85 ?_
  refine og_0_14 C (hW.ok (k0 hj)) wm1_158 dX5_layOut_86 ?_
  obtain ⟨g23, hg23, hF⟩ := lt_e hF
  obtain ⟨h24, eh24, hF⟩ := lt_e hF
  refine r_callV C (d' := 1) [] (c_X4_clear hW hj (Or.inr rfl) (congrFun (sH_g (Ω := Ω) (j := j) (h := h21)) 2) hg23 (sP_H.trans (congrArg (sH Ω j) eh24))) myX4_clear wm2_64 ⟨_, _, _, _, (hW.ok (k1 hj (Or.inr rfl))), rfl, rfl, rfl, rfl⟩ rfl (kR rfl) (by decide) (kR rfl) rfl dX5_layOut_89 ?_
  refine r_aload_n C (k := 0) rfl rfl dX5_layOut_92 ?_
  refine og_0_15 C (hW.ok (k0 hj)) wm1_160 dX5_layOut_93 ?_
  refine r_iconst C (v := 0) rfl dX5_layOut_96 ?_
  obtain ⟨h25, eh25, hF⟩ := lt_e hF
  refine opN_2_3 C hW.x (Or.inl (k2 hj)) (hW.fr (k2 hj)) (congrFun (sH_g (Ω := Ω) (j := j) (h := h24)) 3) wm1_122 dX5_layOut_97 (sP_H.trans (congrArg (sH Ω j) eh25)) ?_
  refine r_aload_n C (k := 0) rfl rfl dX5_layOut_100 ?_
  refine r_iconst C (v := 0) rfl dX5_layOut_101 ?_
  obtain ⟨h26, eh26, hF⟩ := lt_e hF
  refine op_0_16 C hW.x (Or.inl (k0 hj)) (hW.fr (k0 hj)) (congrFun (sH_g (Ω := Ω) (j := j) (h := h25)) 0) wm1_162 dX5_layOut_102 (sP_H.trans (congrArg (sH Ω j) eh26)) ?_
  refine r_aload_n C (k := 0) rfl rfl dX5_layOut_105 ?_
  refine r_iconst C (v := 0) rfl dX5_layOut_106 ?_
  obtain ⟨h27, eh27, hF⟩ := lt_e hF
  refine op_0_17 C hW.x (Or.inl (k0 hj)) (hW.fr (k0 hj)) (congrFun (sH_g (Ω := Ω) (j := j) (h := h26)) 0) wm1_164 dX5_layOut_107 (sP_H.trans (congrArg (sH Ω j) eh27)) ?_
  refine r_aload_n C (k := 0) rfl rfl dX5_layOut_110 ?_
  refine r_iconst C (v := 0) rfl dX5_layOut_111 ?_
  obtain ⟨h28, eh28, hF⟩ := lt_e hF
  refine op_0_18 C hW.x (Or.inl (k0 hj)) (hW.fr (k0 hj)) (congrFun (sH_g (Ω := Ω) (j := j) (h := h27)) 0) wm1_166 dX5_layOut_112 (sP_H.trans (congrArg (sH Ω j) eh28)) ?_
  cases hF
  exact r_return C dX5_layOut_115
theorem dX5_placeTwig_0 : decode cX5_placeTwig 0 = .ok (.aload_n 0, 1) := by decide +kernel
theorem dX5_placeTwig_1 : decode cX5_placeTwig 1 = .ok (.getfield 14, 3) := by decide +kernel
theorem dX5_placeTwig_4 : decode cX5_placeTwig 4 = .ok (.iload_n 1, 1) := by decide +kernel
theorem dX5_placeTwig_5 : decode cX5_placeTwig 5 = .ok (.iload_n 2, 1) := by decide +kernel
theorem dX5_placeTwig_6 : decode cX5_placeTwig 6 = .ok (.invokevirtual 100, 3) := by decide +kernel
theorem dX5_placeTwig_9 : decode cX5_placeTwig 9 = .ok (.aload_n 0, 1) := by decide +kernel
theorem dX5_placeTwig_10 : decode cX5_placeTwig 10 = .ok (.getfield 20, 3) := by decide +kernel
theorem dX5_placeTwig_13 : decode cX5_placeTwig 13 = .ok (.iload_n 1, 1) := by decide +kernel
theorem dX5_placeTwig_14 : decode cX5_placeTwig 14 = .ok (.iload_n 3, 1) := by decide +kernel
theorem dX5_placeTwig_15 : decode cX5_placeTwig 15 = .ok (.invokevirtual 100, 3) := by decide +kernel
theorem dX5_placeTwig_18 : decode cX5_placeTwig 18 = .ok (.aload_n 0, 1) := by decide +kernel
theorem dX5_placeTwig_19 : decode cX5_placeTwig 19 = .ok (.getfield 23, 3) := by decide +kernel
theorem dX5_placeTwig_22 : decode cX5_placeTwig 22 = .ok (.iload_n 1, 1) := by decide +kernel
theorem dX5_placeTwig_23 : decode cX5_placeTwig 23 = .ok (.iload 4, 2) := by decide +kernel
theorem dX5_placeTwig_25 : decode cX5_placeTwig 25 = .ok (.invokevirtual 100, 3) := by decide +kernel
theorem dX5_placeTwig_28 : decode cX5_placeTwig 28 = .ok (.aload_n 0, 1) := by decide +kernel
theorem dX5_placeTwig_29 : decode cX5_placeTwig 29 = .ok (.dup, 1) := by decide +kernel
theorem dX5_placeTwig_30 : decode cX5_placeTwig 30 = .ok (.getfield 84, 3) := by decide +kernel
theorem dX5_placeTwig_33 : decode cX5_placeTwig 33 = .ok (.iconst 1, 1) := by decide +kernel
theorem dX5_placeTwig_34 : decode cX5_placeTwig 34 = .ok (.iadd, 1) := by decide +kernel
theorem dX5_placeTwig_35 : decode cX5_placeTwig 35 = .ok (.putfield 84, 3) := by decide +kernel
theorem dX5_placeTwig_38 : decode cX5_placeTwig 38 = .ok (.return_, 1) := by decide +kernel
def F_X5_placeTwig (a1 : Int32) (a2 : Int32) (a3 : Int32) (a4 : Int32) (h : Nat → HV) : Nat → HV := (lt (up h 0 (sA (h 0) 0 (rset 40 ((h 0).2 0) a1 a2))) fun h2 => (lt (up h2 0 (sA (h2 0) 1 (rset 40 ((h2 0).2 1) a1 a3))) fun h4 => (lt (up h4 0 (sA (h4 0) 2 (rset 40 ((h4 0).2 2) a1 a4))) fun h6 => (lt (up h6 0 (sS (h6 0) 16 (((h6 0).1 16) + 1))) fun h7 => h7))))
theorem c_X5_placeTwig {w : WP} (hW : gW w) {Ω : OM} {j : Nat} (hj : j ≤ 10) {h : Nat → HV} (e : Ω.1 j = h) (a1 : Int32) (a2 : Int32) (a3 : Int32) (a4 : Int32) {h' : Nat → HV} (hF : F_X5_placeTwig a1 a2 a3 a4 h = h') {Ω' : OM} (e2 : (sH Ω j h') = Ω') : gM w 1 yX5_placeTwig cX5_placeTwig 5 none [.ref (wAd w (0, j, 0, 0)), .int a1, .int a2, .int a3, .int a4] (cA w Ω) none (cA w Ω') := by
  refine gM_of "HedgeMessages$Hedge" rfl (by decide) (kR rfl) fun X C => ?_
  unfold F_X5_placeTwig at hF
  subst e2
  show gV w X _ _ 0 [(0, .ref (wAd w (0, j, 0, 0))), (1, .int a1), (2, .int a2), (3, .int a3), (4, .int a4)] []
  refine r_ct (ct' := cA w (sH Ω j h)) (congrArg (cA w) (sH_i e).symm) ?_
  refine r_aload_n C (k := 0) rfl rfl dX5_placeTwig_0 ?_
  refine og_0_8 C (hW.ok (k0 hj)) wm1_146 dX5_placeTwig_1 ?_
  refine r_iload_n C (k := 1) rfl rfl dX5_placeTwig_4 ?_
  refine r_iload_n C (k := 2) rfl rfl dX5_placeTwig_5 ?_
  obtain ⟨h2, eh2, hF⟩ := lt_e hF
  refine r_callV C (d' := 0) [.int a1, .int a2] (c_rset hW.x (Or.inl (show okC (4, j, 0, 0) from (q0 hj (kR rfl)))) (hW.ok (i := (3, j, 0, 0)) (q0 hj (kR rfl))) (hW.ok (i := (4, j, 0, 0)) (q0 hj (kR rfl))) (hW.fr (i := (4, j, 0, 0)) (q0 hj (kR rfl))) (show rlen 0 0 = 40 from rfl) (by decide) (congrFun (sH_g (Ω := Ω) (j := j) (h := h)) 0) rfl (sP_H.trans (congrArg (sH Ω j) eh2))) myX8_set wm2_76 ⟨_, _, _, _, (hW.ok (i := (3, j, 0, 0)) (q0 hj (kR rfl))), rfl, rfl, rfl, rfl⟩ rfl (kR rfl) (by decide) (kR rfl) rfl dX5_placeTwig_6 ?_
  refine r_aload_n C (k := 0) rfl rfl dX5_placeTwig_9 ?_
  refine og_0_9 C (hW.ok (k0 hj)) wm1_148 dX5_placeTwig_10 ?_
  refine r_iload_n C (k := 1) rfl rfl dX5_placeTwig_13 ?_
  refine r_iload_n C (k := 3) rfl rfl dX5_placeTwig_14 ?_
  obtain ⟨h4, eh4, hF⟩ := lt_e hF
  refine r_callV C (d' := 0) [.int a1, .int a3] (c_rset hW.x (Or.inl (show okC (4, j, 0, 1) from (q0 hj (kR rfl)))) (hW.ok (i := (3, j, 0, 1)) (q0 hj (kR rfl))) (hW.ok (i := (4, j, 0, 1)) (q0 hj (kR rfl))) (hW.fr (i := (4, j, 0, 1)) (q0 hj (kR rfl))) (show rlen 0 1 = 40 from rfl) (by decide) (congrFun (sH_g (Ω := Ω) (j := j) (h := h2)) 0) rfl (sP_H.trans (congrArg (sH Ω j) eh4))) myX8_set wm2_76 ⟨_, _, _, _, (hW.ok (i := (3, j, 0, 1)) (q0 hj (kR rfl))), rfl, rfl, rfl, rfl⟩ rfl (kR rfl) (by decide) (kR rfl) rfl dX5_placeTwig_15 ?_
  refine r_aload_n C (k := 0) rfl rfl dX5_placeTwig_18 ?_
  refine og_0_10 C (hW.ok (k0 hj)) wm1_150 dX5_placeTwig_19 ?_
  refine r_iload_n C (k := 1) rfl rfl dX5_placeTwig_22 ?_
  refine r_iload C (k := 4) rfl dX5_placeTwig_23 ?_
  obtain ⟨h6, eh6, hF⟩ := lt_e hF
  refine r_callV C (d' := 0) [.int a1, .int a4] (c_rset hW.x (Or.inl (show okC (4, j, 0, 2) from (q0 hj (kR rfl)))) (hW.ok (i := (3, j, 0, 2)) (q0 hj (kR rfl))) (hW.ok (i := (4, j, 0, 2)) (q0 hj (kR rfl))) (hW.fr (i := (4, j, 0, 2)) (q0 hj (kR rfl))) (show rlen 0 2 = 40 from rfl) (by decide) (congrFun (sH_g (Ω := Ω) (j := j) (h := h4)) 0) rfl (sP_H.trans (congrArg (sH Ω j) eh6))) myX8_set wm2_76 ⟨_, _, _, _, (hW.ok (i := (3, j, 0, 2)) (q0 hj (kR rfl))), rfl, rfl, rfl, rfl⟩ rfl (kR rfl) (by decide) (kR rfl) rfl dX5_placeTwig_25 ?_
  refine r_aload_n C (k := 0) rfl rfl dX5_placeTwig_28 ?_
  refine r_dup C rfl dX5_placeTwig_29 ?_
  refine og_0_16 C (hW.ok (k0 hj)) (congrFun (sH_g (Ω := Ω) (j := j) (h := h6)) 0) wm1_162 dX5_placeTwig_30 ?_
  refine r_iconst C (v := 1) rfl dX5_placeTwig_33 ?_
  refine r_iadd C dX5_placeTwig_34 ?_
  obtain ⟨h7, eh7, hF⟩ := lt_e hF
  refine op_0_16 C hW.x (Or.inl (k0 hj)) (hW.fr (k0 hj)) (congrFun (sH_g (Ω := Ω) (j := j) (h := h6)) 0) wm1_162 dX5_placeTwig_35 (sP_H.trans (congrArg (sH Ω j) eh7)) ?_
  cases hF
  exact r_return C dX5_placeTwig_38
theorem dX5_placeNest_0 : decode cX5_placeNest 0 = .ok (.aload_n 0, 1) := by decide +kernel
theorem dX5_placeNest_1 : decode cX5_placeNest 1 = .ok (.getfield 26, 3) := by decide +kernel
theorem dX5_placeNest_4 : decode cX5_placeNest 4 = .ok (.iload_n 1, 1) := by decide +kernel
theorem dX5_placeNest_5 : decode cX5_placeNest 5 = .ok (.iload_n 2, 1) := by decide +kernel
theorem dX5_placeNest_6 : decode cX5_placeNest 6 = .ok (.invokevirtual 100, 3) := by decide +kernel
theorem dX5_placeNest_9 : decode cX5_placeNest 9 = .ok (.return_, 1) := by decide +kernel
def F_X5_placeNest (a1 : Int32) (a2 : Int32) (h : Nat → HV) : Nat → HV := (lt (up h 0 (sA (h 0) 3 (rset 40 ((h 0).2 3) a1 a2))) fun h2 => h2)
theorem c_X5_placeNest {w : WP} (hW : gW w) {Ω : OM} {j : Nat} (hj : j ≤ 10) {h : Nat → HV} (e : Ω.1 j = h) (a1 : Int32) (a2 : Int32) {h' : Nat → HV} (hF : F_X5_placeNest a1 a2 h = h') {Ω' : OM} (e2 : (sH Ω j h') = Ω') : gM w 1 yX5_placeNest cX5_placeNest 3 none [.ref (wAd w (0, j, 0, 0)), .int a1, .int a2] (cA w Ω) none (cA w Ω') := by
  refine gM_of "HedgeMessages$Hedge" rfl (by decide) (kR rfl) fun X C => ?_
  unfold F_X5_placeNest at hF
  subst e2
  show gV w X _ _ 0 [(0, .ref (wAd w (0, j, 0, 0))), (1, .int a1), (2, .int a2)] []
  refine r_ct (ct' := cA w (sH Ω j h)) (congrArg (cA w) (sH_i e).symm) ?_
  refine r_aload_n C (k := 0) rfl rfl dX5_placeNest_0 ?_
  refine og_0_11 C (hW.ok (k0 hj)) wm1_152 dX5_placeNest_1 ?_
  refine r_iload_n C (k := 1) rfl rfl dX5_placeNest_4 ?_
  refine r_iload_n C (k := 2) rfl rfl dX5_placeNest_5 ?_
  obtain ⟨h2, eh2, hF⟩ := lt_e hF
  refine r_callV C (d' := 0) [.int a1, .int a2] (c_rset hW.x (Or.inl (show okC (4, j, 0, 3) from (q0 hj (kR rfl)))) (hW.ok (i := (3, j, 0, 3)) (q0 hj (kR rfl))) (hW.ok (i := (4, j, 0, 3)) (q0 hj (kR rfl))) (hW.fr (i := (4, j, 0, 3)) (q0 hj (kR rfl))) (show rlen 0 3 = 40 from rfl) (by decide) (congrFun (sH_g (Ω := Ω) (j := j) (h := h)) 0) rfl (sP_H.trans (congrArg (sH Ω j) eh2))) myX8_set wm2_76 ⟨_, _, _, _, (hW.ok (i := (3, j, 0, 3)) (q0 hj (kR rfl))), rfl, rfl, rfl, rfl⟩ rfl (kR rfl) (by decide) (kR rfl) rfl dX5_placeNest_6 ?_
  cases hF
  exact r_return C dX5_placeNest_9
theorem dX5_receive_0 : decode cX5_receive 0 = .ok (.aload_n 0, 1) := by decide +kernel
theorem dX5_receive_1 : decode cX5_receive 1 = .ok (.iload_n 1, 1) := by decide +kernel
theorem dX5_receive_2 : decode cX5_receive 2 = .ok (.invokevirtual 104, 3) := by decide +kernel
theorem dX5_receive_5 : decode cX5_receive 5 = .ok (.astore 5, 2) := by decide +kernel
theorem dX5_receive_7 : decode cX5_receive 7 = .ok (.aload 5, 2) := by decide +kernel
theorem dX5_receive_9 : decode cX5_receive 9 = .ok (.aload_n 2, 1) := by decide +kernel
theorem dX5_receive_10 : decode cX5_receive 10 = .ok (.iload_n 3, 1) := by decide +kernel
theorem dX5_receive_11 : decode cX5_receive 11 = .ok (.iload 4, 2) := by decide +kernel
theorem dX5_receive_13 : decode cX5_receive 13 = .ok (.invokevirtual 108, 3) := by decide +kernel
theorem dX5_receive_16 : decode cX5_receive 16 = .ok (.aload 5, 2) := by decide +kernel
theorem dX5_receive_18 : decode cX5_receive 18 = .ok (.dup, 1) := by decide +kernel
theorem dX5_receive_19 : decode cX5_receive 19 = .ok (.getfield 112, 3) := by decide +kernel
theorem dX5_receive_22 : decode cX5_receive 22 = .ok (.iconst 1, 1) := by decide +kernel
theorem dX5_receive_23 : decode cX5_receive 23 = .ok (.iadd, 1) := by decide +kernel
theorem dX5_receive_24 : decode cX5_receive 24 = .ok (.putfield 112, 3) := by decide +kernel
theorem dX5_receive_27 : decode cX5_receive 27 = .ok (.return_, 1) := by decide +kernel
def F_X5_receive (a1 : Int32) (src : Nat → Int32) (n2 : Nat) (a3 : Int32) (a4 : Int32) (h : Nat → HV) : Nat → HV := (lt (F_X4_enqueue src n2 a3 a4 (h (gsel a1))) fun g2 => (lt (up h (gsel a1) g2) fun h3 => (lt (up h3 (gsel a1) (sS (h3 (gsel a1)) 6 (((h3 (gsel a1)).1 6) + 1))) fun h4 => h4)))
theorem c_X5_receive {w : WP} (hW : gW w) {Ω : OM} {j : Nat} (hj : j ≤ 10) {h : Nat → HV} (e : Ω.1 j = h) (a1 : Int32) {rj rp ra n2 : Nat} {src : Nat → Int32} (h32 : wOk w (3, rj, rp, ra)) (h42 : wOk w (4, rj, rp, ra)) (hn2 : rlen rp ra = n2) (hN2 : n2 < 2 ^ 31) (ef : (Ω.1 rj rp).2 ra = src) (a3 : Int32) (a4 : Int32) {h' : Nat → HV} (hF : F_X5_receive a1 src n2 a3 a4 h = h') {Ω' : OM} (e2 : (sH Ω j h') = Ω') : gM w 3 yX5_receive cX5_receive 6 none [.ref (wAd w (0, j, 0, 0)), .int a1, .ref (wAd w (3, rj, rp, ra)), .int a3, .int a4] (cA w Ω) none (cA w Ω') := by
  refine gM_of "HedgeMessages$Hedge" rfl (by decide) (kR rfl) fun X C => ?_
  unfold F_X5_receive at hF
  subst e2
  have ef0 : ((sH Ω j h).1 rj rp).2 ra = src := by rw [sH_i e]; exact ef
  show gV w X _ _ 0 [(0, .ref (wAd w (0, j, 0, 0))), (1, .int a1), (2, .ref (wAd w (3, rj, rp, ra))), (3, .int a3), (4, .int a4)] []
  refine r_ct (ct' := cA w (sH Ω j h)) (congrArg (cA w) (sH_i e).symm) ?_
  refine r_aload_n C (k := 0) rfl rfl dX5_receive_0 ?_
  refine r_iload_n C (k := 1) rfl rfl dX5_receive_1 ?_
  refine r_callV C (d' := 0) [.int a1] (c_X5_gardener hW hj a1) myX5_gardener wm2_141 ⟨_, _, _, _, (hW.ok (k0 hj)), rfl, rfl, rfl, rfl⟩ rfl (kR rfl) (by decide) (kR rfl) rfl dX5_receive_2 ?_
  refine r_astore C (lo' := [(5, .ref (wAd w (1, j, (gsel a1), 0))), (0, .ref (wAd w (0, j, 0, 0))), (1, .int a1), (2, .ref (wAd w (3, rj, rp, ra))), (3, .int a3), (4, .int a4)]) (by decide) rfl dX5_receive_5 ?_
  refine r_aload C (k := 0) rfl dX5_receive_7 ?_
  refine r_aload_n C (k := 3) rfl rfl dX5_receive_9 ?_
  refine r_iload_n C (k := 4) rfl rfl dX5_receive_10 ?_
  refine r_iload C (k := 5) rfl dX5_receive_11 ?_
  obtain ⟨g2, hg2, hF⟩ := lt_e hF
  obtain ⟨h3, eh3, hF⟩ := lt_e hF
  refine r_callV C (d' := 2) [.ref (wAd w (3, rj, rp, ra)), .int a3, .int a4] (c_X4_enqueue hW hj gsel_12 (congrFun (sH_g (Ω := Ω) (j := j) (h := h)) (gsel a1)) h32 h42 hn2 hN2 ef0 a3 a4 hg2 (sP_H.trans (congrArg (sH Ω j) eh3))) myX4_enqueue wm2_145 ⟨_, _, _, _, (hW.ok (k1 hj gsel_12)), rfl, rfl, rfl, rfl⟩ rfl (kR rfl) (by decide) (kR rfl) rfl dX5_receive_13 ?_
  refine r_aload C (k := 0) rfl dX5_receive_16 ?_
  refine r_dup C rfl dX5_receive_18 ?_
  refine ogN_1_6 C (hW.ok (k1 hj gsel_12)) (congrFun (sH_g (Ω := Ω) (j := j) (h := h3)) (gsel a1)) wm1_75 dX5_receive_19 ?_
  refine r_iconst C (v := 1) rfl dX5_receive_22 ?_
  refine r_iadd C dX5_receive_23 ?_
  obtain ⟨h4, eh4, hF⟩ := lt_e hF
  refine opN_1_6 C hW.x (Or.inl (k1 hj gsel_12)) (hW.fr (k1 hj gsel_12)) (congrFun (sH_g (Ω := Ω) (j := j) (h := h3)) (gsel a1)) wm1_75 dX5_receive_24 (sP_H.trans (congrArg (sH Ω j) eh4)) ?_
  cases hF
  exact r_return C dX5_receive_27
theorem dX5_hasSlot_0 : decode cX5_hasSlot 0 = .ok (.iload_n 1, 1) := by decide +kernel
theorem dX5_hasSlot_1 : decode cX5_hasSlot 1 = .ok (.ifCond .lt 15, 3) := by decide +kernel
theorem dX5_hasSlot_4 : decode cX5_hasSlot 4 = .ok (.iload_n 1, 1) := by decide +kernel
theorem dX5_hasSlot_5 : decode cX5_hasSlot 5 = .ok (.aload_n 0, 1) := by decide +kernel
theorem dX5_hasSlot_6 : decode cX5_hasSlot 6 = .ok (.getfield 49, 3) := by decide +kernel
theorem dX5_hasSlot_9 : decode cX5_hasSlot 9 = .ok (.if_icmp .ge 7, 3) := by decide +kernel
theorem dX5_hasSlot_12 : decode cX5_hasSlot 12 = .ok (.iconst 1, 1) := by decide +kernel
theorem dX5_hasSlot_13 : decode cX5_hasSlot 13 = .ok (.goto 4, 3) := by decide +kernel
theorem dX5_hasSlot_16 : decode cX5_hasSlot 16 = .ok (.iconst 0, 1) := by decide +kernel
theorem dX5_hasSlot_17 : decode cX5_hasSlot 17 = .ok (.ireturn, 1) := by decide +kernel
def F_X5_hasSlot (a1 : Int32) (h : Nat → HV) : Bool := (if a1 < 0 then false else (if ((h 0).1 0) ≤ a1 then false else true))
theorem c_X5_hasSlot {w : WP} (hW : gW w) {Ω : OM} {j : Nat} (hj : j ≤ 10) {h : Nat → HV} (e : Ω.1 j = h) (a1 : Int32) {v : Bool} (hF : F_X5_hasSlot a1 h = v) : gM w 0 yX5_hasSlot cX5_hasSlot 2 (some .boolean) [.ref (wAd w (0, j, 0, 0)), .int a1] (cA w Ω) (some (.int (b2i v))) (cA w Ω) := by
  refine gM_of "HedgeMessages$Hedge" rfl (by decide) (kR rfl) fun X C => ?_
  unfold F_X5_hasSlot at hF
  show gV w X _ _ 0 [(0, .ref (wAd w (0, j, 0, 0))), (1, .int a1)] []
  refine r_iload_n C (k := 1) rfl rfl dX5_hasSlot_0 ?_
  refine r_if_lt C (tgt := 16) rfl dX5_hasSlot_1 (fun hc => ?_) (fun hc => ?_)
  · rw [if_pos hc] at hF
    refine r_iconst C (v := 0) rfl dX5_hasSlot_16 ?_
    cases hF
    exact r_zreturn C false rfl dX5_hasSlot_17
  · rw [if_neg hc] at hF
    refine r_iload_n C (k := 1) rfl rfl dX5_hasSlot_4 ?_
    refine r_aload_n C (k := 0) rfl rfl dX5_hasSlot_5 ?_
    refine og_0_0 C (hW.ok (k0 hj)) (congrFun e 0) wm1_133 dX5_hasSlot_6 ?_
    refine r_icmp_ge C (tgt := 16) rfl dX5_hasSlot_9 (fun hc => ?_) (fun hc => ?_)
    · rw [if_pos hc] at hF
      refine r_iconst C (v := 0) rfl dX5_hasSlot_16 ?_
      cases hF
      exact r_zreturn C false rfl dX5_hasSlot_17
    · rw [if_neg hc] at hF
      refine r_iconst C (v := 1) rfl dX5_hasSlot_12 ?_
      refine r_goto C (tgt := 17) rfl dX5_hasSlot_13 ?_
      cases hF
      exact r_zreturn C true rfl dX5_hasSlot_17
theorem dX5_hasTwig_0 : decode cX5_hasTwig 0 = .ok (.aload_n 0, 1) := by decide +kernel
theorem dX5_hasTwig_1 : decode cX5_hasTwig 1 = .ok (.getfield 23, 3) := by decide +kernel
theorem dX5_hasTwig_4 : decode cX5_hasTwig 4 = .ok (.iload_n 1, 1) := by decide +kernel
theorem dX5_hasTwig_5 : decode cX5_hasTwig 5 = .ok (.invokevirtual 129, 3) := by decide +kernel
theorem dX5_hasTwig_8 : decode cX5_hasTwig 8 = .ok (.ifCond .le 7, 3) := by decide +kernel
theorem dX5_hasTwig_11 : decode cX5_hasTwig 11 = .ok (.iconst 1, 1) := by decide +kernel
theorem dX5_hasTwig_12 : decode cX5_hasTwig 12 = .ok (.goto 4, 3) := by decide +kernel
theorem dX5_hasTwig_15 : decode cX5_hasTwig 15 = .ok (.iconst 0, 1) := by decide +kernel
theorem dX5_hasTwig_16 : decode cX5_hasTwig 16 = .ok (.ireturn, 1) := by decide +kernel
def F_X5_hasTwig (a1 : Int32) (h : Nat → HV) : Bool := (if (rget 40 ((h 0).2 2) a1) ≤ 0 then false else true)
theorem c_X5_hasTwig {w : WP} (hW : gW w) {Ω : OM} {j : Nat} (hj : j ≤ 10) {h : Nat → HV} (e : Ω.1 j = h) (a1 : Int32) {v : Bool} (hF : F_X5_hasTwig a1 h = v) : gM w 1 yX5_hasTwig cX5_hasTwig 2 (some .boolean) [.ref (wAd w (0, j, 0, 0)), .int a1] (cA w Ω) (some (.int (b2i v))) (cA w Ω) := by
  refine gM_of "HedgeMessages$Hedge" rfl (by decide) (kR rfl) fun X C => ?_
  unfold F_X5_hasTwig at hF
  show gV w X _ _ 0 [(0, .ref (wAd w (0, j, 0, 0))), (1, .int a1)] []
  refine r_aload_n C (k := 0) rfl rfl dX5_hasTwig_0 ?_
  refine og_0_10 C (hW.ok (k0 hj)) wm1_150 dX5_hasTwig_1 ?_
  refine r_iload_n C (k := 1) rfl rfl dX5_hasTwig_4 ?_
  refine r_callV C (d' := 0) [.int a1] (c_rget (hW.ok (i := (3, j, 0, 2)) (q0 hj (kR rfl))) (hW.ok (i := (4, j, 0, 2)) (q0 hj (kR rfl))) (show rlen 0 2 = 40 from rfl) (by decide) (congrArg (fun z => z.2 2) (congrFun e 0)) rfl) myX8_get wm3_163 ⟨_, _, _, _, (hW.ok (i := (3, j, 0, 2)) (q0 hj (kR rfl))), rfl, rfl, rfl, rfl⟩ rfl (kR rfl) (by decide) (kR rfl) rfl dX5_hasTwig_5 ?_
  refine r_if_le C (tgt := 15) rfl dX5_hasTwig_8 (fun hc => ?_) (fun hc => ?_)
  · rw [if_pos hc] at hF
    refine r_iconst C (v := 0) rfl dX5_hasTwig_15 ?_
    cases hF
    exact r_zreturn C false rfl dX5_hasTwig_16
  · rw [if_neg hc] at hF
    refine r_iconst C (v := 1) rfl dX5_hasTwig_11 ?_
    refine r_goto C (tgt := 16) rfl dX5_hasTwig_12 ?_
    cases hF
    exact r_zreturn C true rfl dX5_hasTwig_16
theorem dX5_isBooked_0 : decode cX5_isBooked 0 = .ok (.aload_n 0, 1) := by decide +kernel
theorem dX5_isBooked_1 : decode cX5_isBooked 1 = .ok (.getfield 29, 3) := by decide +kernel
theorem dX5_isBooked_4 : decode cX5_isBooked 4 = .ok (.iload_n 1, 1) := by decide +kernel
theorem dX5_isBooked_5 : decode cX5_isBooked 5 = .ok (.invokevirtual 129, 3) := by decide +kernel
theorem dX5_isBooked_8 : decode cX5_isBooked 8 = .ok (.ifCond .le 7, 3) := by decide +kernel
theorem dX5_isBooked_11 : decode cX5_isBooked 11 = .ok (.iconst 1, 1) := by decide +kernel
theorem dX5_isBooked_12 : decode cX5_isBooked 12 = .ok (.goto 4, 3) := by decide +kernel
theorem dX5_isBooked_15 : decode cX5_isBooked 15 = .ok (.iconst 0, 1) := by decide +kernel
theorem dX5_isBooked_16 : decode cX5_isBooked 16 = .ok (.ireturn, 1) := by decide +kernel
def F_X5_isBooked (a1 : Int32) (h : Nat → HV) : Bool := (if (rget 40 ((h 0).2 4) a1) ≤ 0 then false else true)
theorem c_X5_isBooked {w : WP} (hW : gW w) {Ω : OM} {j : Nat} (hj : j ≤ 10) {h : Nat → HV} (e : Ω.1 j = h) (a1 : Int32) {v : Bool} (hF : F_X5_isBooked a1 h = v) : gM w 1 yX5_isBooked cX5_isBooked 2 (some .boolean) [.ref (wAd w (0, j, 0, 0)), .int a1] (cA w Ω) (some (.int (b2i v))) (cA w Ω) := by
  refine gM_of "HedgeMessages$Hedge" rfl (by decide) (kR rfl) fun X C => ?_
  unfold F_X5_isBooked at hF
  show gV w X _ _ 0 [(0, .ref (wAd w (0, j, 0, 0))), (1, .int a1)] []
  refine r_aload_n C (k := 0) rfl rfl dX5_isBooked_0 ?_
  refine og_0_12 C (hW.ok (k0 hj)) wm1_155 dX5_isBooked_1 ?_
  refine r_iload_n C (k := 1) rfl rfl dX5_isBooked_4 ?_
  refine r_callV C (d' := 0) [.int a1] (c_rget (hW.ok (i := (3, j, 0, 4)) (q0 hj (kR rfl))) (hW.ok (i := (4, j, 0, 4)) (q0 hj (kR rfl))) (show rlen 0 4 = 40 from rfl) (by decide) (congrArg (fun z => z.2 4) (congrFun e 0)) rfl) myX8_get wm3_163 ⟨_, _, _, _, (hW.ok (i := (3, j, 0, 4)) (q0 hj (kR rfl))), rfl, rfl, rfl, rfl⟩ rfl (kR rfl) (by decide) (kR rfl) rfl dX5_isBooked_5 ?_
  refine r_if_le C (tgt := 15) rfl dX5_isBooked_8 (fun hc => ?_) (fun hc => ?_)
  · rw [if_pos hc] at hF
    refine r_iconst C (v := 0) rfl dX5_isBooked_15 ?_
    cases hF
    exact r_zreturn C false rfl dX5_isBooked_16
  · rw [if_neg hc] at hF
    refine r_iconst C (v := 1) rfl dX5_isBooked_11 ?_
    refine r_goto C (tgt := 16) rfl dX5_isBooked_12 ?_
    cases hF
    exact r_zreturn C true rfl dX5_isBooked_16
theorem dX5_isGuarded_0 : decode cX5_isGuarded 0 = .ok (.aload_n 0, 1) := by decide +kernel
theorem dX5_isGuarded_1 : decode cX5_isGuarded 1 = .ok (.getfield 26, 3) := by decide +kernel
theorem dX5_isGuarded_4 : decode cX5_isGuarded 4 = .ok (.iload_n 1, 1) := by decide +kernel
theorem dX5_isGuarded_5 : decode cX5_isGuarded 5 = .ok (.iconst 1, 1) := by decide +kernel
theorem dX5_isGuarded_6 : decode cX5_isGuarded 6 = .ok (.isub, 1) := by decide +kernel
theorem dX5_isGuarded_7 : decode cX5_isGuarded 7 = .ok (.invokevirtual 129, 3) := by decide +kernel
theorem dX5_isGuarded_10 : decode cX5_isGuarded 10 = .ok (.ifCond .gt 27, 3) := by decide +kernel
theorem dX5_isGuarded_13 : decode cX5_isGuarded 13 = .ok (.aload_n 0, 1) := by decide +kernel
theorem dX5_isGuarded_14 : decode cX5_isGuarded 14 = .ok (.getfield 26, 3) := by decide +kernel
theorem dX5_isGuarded_17 : decode cX5_isGuarded 17 = .ok (.iload_n 1, 1) := by decide +kernel
theorem dX5_isGuarded_18 : decode cX5_isGuarded 18 = .ok (.invokevirtual 129, 3) := by decide +kernel
theorem dX5_isGuarded_21 : decode cX5_isGuarded 21 = .ok (.ifCond .gt 16, 3) := by decide +kernel
theorem dX5_isGuarded_24 : decode cX5_isGuarded 24 = .ok (.aload_n 0, 1) := by decide +kernel
theorem dX5_isGuarded_25 : decode cX5_isGuarded 25 = .ok (.getfield 26, 3) := by decide +kernel
theorem dX5_isGuarded_28 : decode cX5_isGuarded 28 = .ok (.iload_n 1, 1) := by decide +kernel
theorem dX5_isGuarded_29 : decode cX5_isGuarded 29 = .ok (.iconst 1, 1) := by decide +kernel
theorem dX5_isGuarded_30 : decode cX5_isGuarded 30 = .ok (.iadd, 1) := by decide +kernel
theorem dX5_isGuarded_31 : decode cX5_isGuarded 31 = .ok (.invokevirtual 129, 3) := by decide +kernel
theorem dX5_isGuarded_34 : decode cX5_isGuarded 34 = .ok (.ifCond .le 7, 3) := by decide +kernel
theorem dX5_isGuarded_37 : decode cX5_isGuarded 37 = .ok (.iconst 1, 1) := by decide +kernel
theorem dX5_isGuarded_38 : decode cX5_isGuarded 38 = .ok (.goto 4, 3) := by decide +kernel
theorem dX5_isGuarded_41 : decode cX5_isGuarded 41 = .ok (.iconst 0, 1) := by decide +kernel
theorem dX5_isGuarded_42 : decode cX5_isGuarded 42 = .ok (.ireturn, 1) := by decide +kernel
def F_X5_isGuarded (a1 : Int32) (h : Nat → HV) : Bool := (if 0 < (rget 40 ((h 0).2 3) (a1 - 1)) then true else (if 0 < (rget 40 ((h 0).2 3) a1) then true else (if (rget 40 ((h 0).2 3) (a1 + 1)) ≤ 0 then false else true)))
theorem c_X5_isGuarded {w : WP} (hW : gW w) {Ω : OM} {j : Nat} (hj : j ≤ 10) {h : Nat → HV} (e : Ω.1 j = h) (a1 : Int32) {v : Bool} (hF : F_X5_isGuarded a1 h = v) : gM w 1 yX5_isGuarded cX5_isGuarded 2 (some .boolean) [.ref (wAd w (0, j, 0, 0)), .int a1] (cA w Ω) (some (.int (b2i v))) (cA w Ω) := by
  refine gM_of "HedgeMessages$Hedge" rfl (by decide) (kR rfl) fun X C => ?_
  unfold F_X5_isGuarded at hF
  show gV w X _ _ 0 [(0, .ref (wAd w (0, j, 0, 0))), (1, .int a1)] []
  refine r_aload_n C (k := 0) rfl rfl dX5_isGuarded_0 ?_
  refine og_0_11 C (hW.ok (k0 hj)) wm1_152 dX5_isGuarded_1 ?_
  refine r_iload_n C (k := 1) rfl rfl dX5_isGuarded_4 ?_
  refine r_iconst C (v := 1) rfl dX5_isGuarded_5 ?_
  refine r_isub C dX5_isGuarded_6 ?_
  refine r_callV C (d' := 0) [.int (a1 - 1)] (c_rget (hW.ok (i := (3, j, 0, 3)) (q0 hj (kR rfl))) (hW.ok (i := (4, j, 0, 3)) (q0 hj (kR rfl))) (show rlen 0 3 = 40 from rfl) (by decide) (congrArg (fun z => z.2 3) (congrFun e 0)) rfl) myX8_get wm3_163 ⟨_, _, _, _, (hW.ok (i := (3, j, 0, 3)) (q0 hj (kR rfl))), rfl, rfl, rfl, rfl⟩ rfl (kR rfl) (by decide) (kR rfl) rfl dX5_isGuarded_7 ?_
  refine r_if_gt C (tgt := 37) rfl dX5_isGuarded_10 (fun hc => ?_) (fun hc => ?_)
  · rw [if_pos hc] at hF
    refine r_iconst C (v := 1) rfl dX5_isGuarded_37 ?_
    refine r_goto C (tgt := 42) rfl dX5_isGuarded_38 ?_
    cases hF
    exact r_zreturn C true rfl dX5_isGuarded_42
  · rw [if_neg hc] at hF
    refine r_aload_n C (k := 0) rfl rfl dX5_isGuarded_13 ?_
    refine og_0_11 C (hW.ok (k0 hj)) wm1_152 dX5_isGuarded_14 ?_
    refine r_iload_n C (k := 1) rfl rfl dX5_isGuarded_17 ?_
    refine r_callV C (d' := 0) [.int a1] (c_rget (hW.ok (i := (3, j, 0, 3)) (q0 hj (kR rfl))) (hW.ok (i := (4, j, 0, 3)) (q0 hj (kR rfl))) (show rlen 0 3 = 40 from rfl) (by decide) (congrArg (fun z => z.2 3) (congrFun e 0)) rfl) myX8_get wm3_163 ⟨_, _, _, _, (hW.ok (i := (3, j, 0, 3)) (q0 hj (kR rfl))), rfl, rfl, rfl, rfl⟩ rfl (kR rfl) (by decide) (kR rfl) rfl dX5_isGuarded_18 ?_
    refine r_if_gt C (tgt := 37) rfl dX5_isGuarded_21 (fun hc => ?_) (fun hc => ?_)
    · rw [if_pos hc] at hF
      refine r_iconst C (v := 1) rfl dX5_isGuarded_37 ?_
      refine r_goto C (tgt := 42) rfl dX5_isGuarded_38 ?_
      cases hF
      exact r_zreturn C true rfl dX5_isGuarded_42
    · rw [if_neg hc] at hF
      refine r_aload_n C (k := 0) rfl rfl dX5_isGuarded_24 ?_
      refine og_0_11 C (hW.ok (k0 hj)) wm1_152 dX5_isGuarded_25 ?_
      refine r_iload_n C (k := 1) rfl rfl dX5_isGuarded_28 ?_
      refine r_iconst C (v := 1) rfl dX5_isGuarded_29 ?_
      refine r_iadd C dX5_isGuarded_30 ?_
      refine r_callV C (d' := 0) [.int (a1 + 1)] (c_rget (hW.ok (i := (3, j, 0, 3)) (q0 hj (kR rfl))) (hW.ok (i := (4, j, 0, 3)) (q0 hj (kR rfl))) (show rlen 0 3 = 40 from rfl) (by decide) (congrArg (fun z => z.2 3) (congrFun e 0)) rfl) myX8_get wm3_163 ⟨_, _, _, _, (hW.ok (i := (3, j, 0, 3)) (q0 hj (kR rfl))), rfl, rfl, rfl, rfl⟩ rfl (kR rfl) (by decide) (kR rfl) rfl dX5_isGuarded_31 ?_
      refine r_if_le C (tgt := 41) rfl dX5_isGuarded_34 (fun hc => ?_) (fun hc => ?_)
      · rw [if_pos hc] at hF
        refine r_iconst C (v := 0) rfl dX5_isGuarded_41 ?_
        cases hF
        exact r_zreturn C false rfl dX5_isGuarded_42
      · rw [if_neg hc] at hF
        refine r_iconst C (v := 1) rfl dX5_isGuarded_37 ?_
        refine r_goto C (tgt := 42) rfl dX5_isGuarded_38 ?_
        cases hF
        exact r_zreturn C true rfl dX5_isGuarded_42
theorem dX5_active_0 : decode cX5_active 0 = .ok (.aload_n 0, 1) := by decide +kernel
theorem dX5_active_1 : decode cX5_active 1 = .ok (.getfield 68, 3) := by decide +kernel
theorem dX5_active_4 : decode cX5_active 4 = .ok (.iconst 1, 1) := by decide +kernel
theorem dX5_active_5 : decode cX5_active 5 = .ok (.iand, 1) := by decide +kernel
theorem dX5_active_6 : decode cX5_active 6 = .ok (.ireturn, 1) := by decide +kernel
def F_X5_active (h : Nat → HV) : Int32 := (((h 0).1 6) &&& 1)
theorem c_X5_active {w : WP} (hW : gW w) {Ω : OM} {j : Nat} (hj : j ≤ 10) {h : Nat → HV} (e : Ω.1 j = h)  {v : Int32} (hF : F_X5_active h = v) : gM w 0 yX5_active cX5_active 1 (some .int) [.ref (wAd w (0, j, 0, 0))] (cA w Ω) (some (.int v)) (cA w Ω) := by
  refine gM_of "HedgeMessages$Hedge" rfl (by decide) (kR rfl) fun X C => ?_
  unfold F_X5_active at hF
  show gV w X _ _ 0 [(0, .ref (wAd w (0, j, 0, 0)))] []
  refine r_aload_n C (k := 0) rfl rfl dX5_active_0 ?_
  refine og_0_6 C (hW.ok (k0 hj)) (congrFun e 0) wm1_142 dX5_active_1 ?_
  refine r_iconst C (v := 1) rfl dX5_active_4 ?_
  refine r_iand C dX5_active_5 ?_
  cases hF
  exact r_ireturn C dX5_active_6
theorem dX5_countTwigs_0 : decode cX5_countTwigs 0 = .ok (.iconst 0, 1) := by decide +kernel
theorem dX5_countTwigs_1 : decode cX5_countTwigs 1 = .ok (.istore_n 1, 1) := by decide +kernel
theorem dX5_countTwigs_2 : decode cX5_countTwigs 2 = .ok (.iconst 0, 1) := by decide +kernel
theorem dX5_countTwigs_3 : decode cX5_countTwigs 3 = .ok (.istore_n 2, 1) := by decide +kernel
theorem dX5_countTwigs_4 : decode cX5_countTwigs 4 = .ok (.iload_n 2, 1) := by decide +kernel
theorem dX5_countTwigs_5 : decode cX5_countTwigs 5 = .ok (.aload_n 0, 1) := by decide +kernel
theorem dX5_countTwigs_6 : decode cX5_countTwigs 6 = .ok (.getfield 49, 3) := by decide +kernel
theorem dX5_countTwigs_9 : decode cX5_countTwigs 9 = .ok (.if_icmp .ge 23, 3) := by decide +kernel
theorem dX5_countTwigs_12 : decode cX5_countTwigs 12 = .ok (.aload_n 0, 1) := by decide +kernel
theorem dX5_countTwigs_13 : decode cX5_countTwigs 13 = .ok (.getfield 23, 3) := by decide +kernel
theorem dX5_countTwigs_16 : decode cX5_countTwigs 16 = .ok (.iload_n 2, 1) := by decide +kernel
theorem dX5_countTwigs_17 : decode cX5_countTwigs 17 = .ok (.invokevirtual 129, 3) := by decide +kernel
theorem dX5_countTwigs_20 : decode cX5_countTwigs 20 = .ok (.ifCond .le 6, 3) := by decide +kernel
theorem dX5_countTwigs_23 : decode cX5_countTwigs 23 = .ok (.iinc 1 1, 3) := by decide +kernel
theorem dX5_countTwigs_26 : decode cX5_countTwigs 26 = .ok (.iinc 2 1, 3) := by decide +kernel
theorem dX5_countTwigs_29 : decode cX5_countTwigs 29 = .ok (.goto (-25), 3) := by decide +kernel
theorem dX5_countTwigs_32 : decode cX5_countTwigs 32 = .ok (.iload_n 1, 1) := by decide +kernel
theorem dX5_countTwigs_33 : decode cX5_countTwigs 33 = .ok (.ireturn, 1) := by decide +kernel
def st_X5_countTwigs_4 (N : Nat) (l1 : Int32) (l2 : Int32) (h : Nat → HV) : Option ((Int32 × Int32) ⊕ (Int32)) := (if ((h 0).1 0) ≤ l2 then some (.inr l1) else (if (rget 40 ((h 0).2 2) l2) ≤ 0 then some (.inl (l1, (l2 + 1))) else some (.inl ((l1 + 1), (l2 + 1)))))
def F_X5_countTwigs (N : Nat) (h : Nat → HV) : Option (Int32) := (lpN N (fun z => st_X5_countTwigs_4 N z.1 z.2 h) (0, 0))
theorem lp_X5_countTwigs_4 {w : WP} (hW : gW w) {Ω : OM} {j : Nat} (hj : j ≤ 10) {h : Nat → HV} (e : Ω.1 j = h)   {N : Nat} {X : CX} (C : gC w X cX5_countTwigs "HedgeMessages$Hedge" (some .int) 1 3) {v : Int32}  : ∀ (n : Nat) (l1 : Int32) (l2 : Int32), lpN n (fun z : Int32 × Int32 => st_X5_countTwigs_4 N z.1 z.2 h) (l1, l2) = some v → gV w X (some (.int v), cA w Ω) (cA w Ω) 4 [(0, .ref (wAd w (0, j, 0, 0))), (1, .int l1), (2, .int l2)] [] := by
  intro n
  induction n with
  | zero => intro l1 l2 hL; exact lpN_0 hL
  | succ n ih =>
    intro l1 l2 hL
    obtain ⟨q9, hF, hL⟩ := lpN_e hL
    change st_X5_countTwigs_4 N l1 l2 h = some q9 at hF
    unfold st_X5_countTwigs_4 at hF
    refine r_iload_n C (k := 2) rfl rfl dX5_countTwigs_4 ?_
    refine r_aload_n C (k := 0) rfl rfl dX5_countTwigs_5 ?_
    refine og_0_0 C (hW.ok (k0 hj)) (congrFun e 0) wm1_133 dX5_countTwigs_6 ?_
    refine r_icmp_ge C (tgt := 32) rfl dX5_countTwigs_9 (fun hc => ?_) (fun hc => ?_)
    · rw [if_pos hc] at hF
      refine r_iload_n C (k := 1) rfl rfl dX5_countTwigs_32 ?_
      cases hF
      change some _ = some _ at hL
      cases hL
      exact r_ireturn C dX5_countTwigs_33
    · rw [if_neg hc] at hF
      refine r_aload_n C (k := 0) rfl rfl dX5_countTwigs_12 ?_
      refine og_0_10 C (hW.ok (k0 hj)) wm1_150 dX5_countTwigs_13 ?_
      refine r_iload_n C (k := 2) rfl rfl dX5_countTwigs_16 ?_
      refine r_callV C (d' := 0) [.int l2] (c_rget (hW.ok (i := (3, j, 0, 2)) (q0 hj (kR rfl))) (hW.ok (i := (4, j, 0, 2)) (q0 hj (kR rfl))) (show rlen 0 2 = 40 from rfl) (by decide) (congrArg (fun z => z.2 2) (congrFun e 0)) rfl) myX8_get wm3_163 ⟨_, _, _, _, (hW.ok (i := (3, j, 0, 2)) (q0 hj (kR rfl))), rfl, rfl, rfl, rfl⟩ rfl (kR rfl) (by decide) (kR rfl) rfl dX5_countTwigs_17 ?_
      refine r_if_le C (tgt := 26) rfl dX5_countTwigs_20 (fun hc => ?_) (fun hc => ?_)
      · rw [if_pos hc] at hF
        refine r_iinc C (k := 2) (v := (l2 + 1)) (lo' := [(2, .int (l2 + 1)), (0, .ref (wAd w (0, j, 0, 0))), (1, .int l1)]) rfl rfl (by decide) rfl dX5_countTwigs_26 ?_
        refine r_goto C (tgt := 4) rfl dX5_countTwigs_29 ?_
        cases hF
        change lpN n _ _ = some _ at hL
        refine r_lo [1, 2, 0] (lo' := [(0, .ref (wAd w (0, j, 0, 0))), (1, .int l1), (2, .int (l2 + 1))]) rfl ?_
        exact ih l1 (l2 + 1) hL
      · rw [if_neg hc] at hF
        refine r_iinc C (k := 1) (v := (l1 + 1)) (lo' := [(1, .int (l1 + 1)), (0, .ref (wAd w (0, j, 0, 0))), (2, .int l2)]) rfl rfl (by decide) rfl dX5_countTwigs_23 ?_
        refine r_iinc C (k := 2) (v := (l2 + 1)) (lo' := [(2, .int (l2 + 1)), (1, .int (l1 + 1)), (0, .ref (wAd w (0, j, 0, 0)))]) rfl rfl (by decide) rfl dX5_countTwigs_26 ?_
        refine r_goto C (tgt := 4) rfl dX5_countTwigs_29 ?_
        cases hF
        change lpN n _ _ = some _ at hL
        refine r_lo [2, 1, 0] (lo' := [(0, .ref (wAd w (0, j, 0, 0))), (1, .int (l1 + 1)), (2, .int (l2 + 1))]) rfl ?_
        exact ih (l1 + 1) (l2 + 1) hL
theorem c_X5_countTwigs {w : WP} (hW : gW w) {Ω : OM} {j : Nat} (hj : j ≤ 10) {h : Nat → HV} (e : Ω.1 j = h) (N : Nat)  {v : Int32} (hF : F_X5_countTwigs N h = some v) : gM w 1 yX5_countTwigs cX5_countTwigs 3 (some .int) [.ref (wAd w (0, j, 0, 0))] (cA w Ω) (some (.int v)) (cA w Ω) := by
  refine gM_of "HedgeMessages$Hedge" rfl (by decide) (kR rfl) fun X C => ?_
  unfold F_X5_countTwigs at hF
  show gV w X _ _ 0 [(0, .ref (wAd w (0, j, 0, 0)))] []
  refine r_iconst C (v := 0) rfl dX5_countTwigs_0 ?_
  refine r_istore_n C (lo' := [(1, .int 0), (0, .ref (wAd w (0, j, 0, 0)))]) rfl (by decide) rfl dX5_countTwigs_1 ?_
  refine r_iconst C (v := 0) rfl dX5_countTwigs_2 ?_
  refine r_istore_n C (lo' := [(2, .int 0), (1, .int 0), (0, .ref (wAd w (0, j, 0, 0)))]) rfl (by decide) rfl dX5_countTwigs_3 ?_
  refine r_lo [2, 1, 0] (lo' := [(0, .ref (wAd w (0, j, 0, 0))), (1, .int 0), (2, .int 0)]) rfl ?_
  exact lp_X5_countTwigs_4 hW hj e C N 0 0 hF
theorem dX5_sumOfLengths_0 : decode cX5_sumOfLengths 0 = .ok (.iconst 0, 1) := by decide +kernel
theorem dX5_sumOfLengths_1 : decode cX5_sumOfLengths 1 = .ok (.istore_n 1, 1) := by decide +kernel
theorem dX5_sumOfLengths_2 : decode cX5_sumOfLengths 2 = .ok (.iconst 0, 1) := by decide +kernel
theorem dX5_sumOfLengths_3 : decode cX5_sumOfLengths 3 = .ok (.istore_n 2, 1) := by decide +kernel
theorem dX5_sumOfLengths_4 : decode cX5_sumOfLengths 4 = .ok (.iload_n 2, 1) := by decide +kernel
theorem dX5_sumOfLengths_5 : decode cX5_sumOfLengths 5 = .ok (.aload_n 0, 1) := by decide +kernel
theorem dX5_sumOfLengths_6 : decode cX5_sumOfLengths 6 = .ok (.getfield 49, 3) := by decide +kernel
theorem dX5_sumOfLengths_9 : decode cX5_sumOfLengths 9 = .ok (.if_icmp .ge 20, 3) := by decide +kernel
theorem dX5_sumOfLengths_12 : decode cX5_sumOfLengths 12 = .ok (.iload_n 1, 1) := by decide +kernel
theorem dX5_sumOfLengths_13 : decode cX5_sumOfLengths 13 = .ok (.aload_n 0, 1) := by decide +kernel
theorem dX5_sumOfLengths_14 : decode cX5_sumOfLengths 14 = .ok (.getfield 23, 3) := by decide +kernel
theorem dX5_sumOfLengths_17 : decode cX5_sumOfLengths 17 = .ok (.iload_n 2, 1) := by decide +kernel
theorem dX5_sumOfLengths_18 : decode cX5_sumOfLengths 18 = .ok (.invokevirtual 129, 3) := by decide +kernel
theorem dX5_sumOfLengths_21 : decode cX5_sumOfLengths 21 = .ok (.iadd, 1) := by decide +kernel
theorem dX5_sumOfLengths_22 : decode cX5_sumOfLengths 22 = .ok (.istore_n 1, 1) := by decide +kernel
theorem dX5_sumOfLengths_23 : decode cX5_sumOfLengths 23 = .ok (.iinc 2 1, 3) := by decide +kernel
theorem dX5_sumOfLengths_26 : decode cX5_sumOfLengths 26 = .ok (.goto (-22), 3) := by decide +kernel
theorem dX5_sumOfLengths_29 : decode cX5_sumOfLengths 29 = .ok (.iload_n 1, 1) := by decide +kernel
theorem dX5_sumOfLengths_30 : decode cX5_sumOfLengths 30 = .ok (.ireturn, 1) := by decide +kernel
def st_X5_sumOfLengths_4 (N : Nat) (l1 : Int32) (l2 : Int32) (h : Nat → HV) : Option ((Int32 × Int32) ⊕ (Int32)) := (if ((h 0).1 0) ≤ l2 then some (.inr l1) else some (.inl ((l1 + (rget 40 ((h 0).2 2) l2)), (l2 + 1))))
def F_X5_sumOfLengths (N : Nat) (h : Nat → HV) : Option (Int32) := (lpN N (fun z => st_X5_sumOfLengths_4 N z.1 z.2 h) (0, 0))
theorem lp_X5_sumOfLengths_4 {w : WP} (hW : gW w) {Ω : OM} {j : Nat} (hj : j ≤ 10) {h : Nat → HV} (e : Ω.1 j = h)   {N : Nat} {X : CX} (C : gC w X cX5_sumOfLengths "HedgeMessages$Hedge" (some .int) 1 3) {v : Int32}  : ∀ (n : Nat) (l1 : Int32) (l2 : Int32), lpN n (fun z : Int32 × Int32 => st_X5_sumOfLengths_4 N z.1 z.2 h) (l1, l2) = some v → gV w X (some (.int v), cA w Ω) (cA w Ω) 4 [(0, .ref (wAd w (0, j, 0, 0))), (1, .int l1), (2, .int l2)] [] := by
  intro n
  induction n with
  | zero => intro l1 l2 hL; exact lpN_0 hL
  | succ n ih =>
    intro l1 l2 hL
    obtain ⟨q9, hF, hL⟩ := lpN_e hL
    change st_X5_sumOfLengths_4 N l1 l2 h = some q9 at hF
    unfold st_X5_sumOfLengths_4 at hF
    refine r_iload_n C (k := 2) rfl rfl dX5_sumOfLengths_4 ?_
    refine r_aload_n C (k := 0) rfl rfl dX5_sumOfLengths_5 ?_
    refine og_0_0 C (hW.ok (k0 hj)) (congrFun e 0) wm1_133 dX5_sumOfLengths_6 ?_
    refine r_icmp_ge C (tgt := 29) rfl dX5_sumOfLengths_9 (fun hc => ?_) (fun hc => ?_)
    · rw [if_pos hc] at hF
      refine r_iload_n C (k := 1) rfl rfl dX5_sumOfLengths_29 ?_
      cases hF
      change some _ = some _ at hL
      cases hL
      exact r_ireturn C dX5_sumOfLengths_30
    · rw [if_neg hc] at hF
      refine r_iload_n C (k := 1) rfl rfl dX5_sumOfLengths_12 ?_
      refine r_aload_n C (k := 0) rfl rfl dX5_sumOfLengths_13 ?_
      refine og_0_10 C (hW.ok (k0 hj)) wm1_150 dX5_sumOfLengths_14 ?_
      refine r_iload_n C (k := 2) rfl rfl dX5_sumOfLengths_17 ?_
      refine r_callV C (d' := 0) [.int l2] (c_rget (hW.ok (i := (3, j, 0, 2)) (q0 hj (kR rfl))) (hW.ok (i := (4, j, 0, 2)) (q0 hj (kR rfl))) (show rlen 0 2 = 40 from rfl) (by decide) (congrArg (fun z => z.2 2) (congrFun e 0)) rfl) myX8_get wm3_163 ⟨_, _, _, _, (hW.ok (i := (3, j, 0, 2)) (q0 hj (kR rfl))), rfl, rfl, rfl, rfl⟩ rfl (kR rfl) (by decide) (kR rfl) rfl dX5_sumOfLengths_18 ?_
      refine r_iadd C dX5_sumOfLengths_21 ?_
      refine r_istore_n C (lo' := [(1, .int (l1 + (rget 40 ((h 0).2 2) l2))), (0, .ref (wAd w (0, j, 0, 0))), (2, .int l2)]) rfl (by decide) rfl dX5_sumOfLengths_22 ?_
      refine r_iinc C (k := 2) (v := (l2 + 1)) (lo' := [(2, .int (l2 + 1)), (1, .int (l1 + (rget 40 ((h 0).2 2) l2))), (0, .ref (wAd w (0, j, 0, 0)))]) rfl rfl (by decide) rfl dX5_sumOfLengths_23 ?_
      refine r_goto C (tgt := 4) rfl dX5_sumOfLengths_26 ?_
      cases hF
      change lpN n _ _ = some _ at hL
      refine r_lo [2, 1, 0] (lo' := [(0, .ref (wAd w (0, j, 0, 0))), (1, .int (l1 + (rget 40 ((h 0).2 2) l2))), (2, .int (l2 + 1))]) rfl ?_
      exact ih (l1 + (rget 40 ((h 0).2 2) l2)) (l2 + 1) hL
theorem c_X5_sumOfLengths {w : WP} (hW : gW w) {Ω : OM} {j : Nat} (hj : j ≤ 10) {h : Nat → HV} (e : Ω.1 j = h) (N : Nat)  {v : Int32} (hF : F_X5_sumOfLengths N h = some v) : gM w 1 yX5_sumOfLengths cX5_sumOfLengths 3 (some .int) [.ref (wAd w (0, j, 0, 0))] (cA w Ω) (some (.int v)) (cA w Ω) := by
  refine gM_of "HedgeMessages$Hedge" rfl (by decide) (kR rfl) fun X C => ?_
  unfold F_X5_sumOfLengths at hF
  show gV w X _ _ 0 [(0, .ref (wAd w (0, j, 0, 0)))] []
  refine r_iconst C (v := 0) rfl dX5_sumOfLengths_0 ?_
  refine r_istore_n C (lo' := [(1, .int 0), (0, .ref (wAd w (0, j, 0, 0)))]) rfl (by decide) rfl dX5_sumOfLengths_1 ?_
  refine r_iconst C (v := 0) rfl dX5_sumOfLengths_2 ?_
  refine r_istore_n C (lo' := [(2, .int 0), (1, .int 0), (0, .ref (wAd w (0, j, 0, 0)))]) rfl (by decide) rfl dX5_sumOfLengths_3 ?_
  refine r_lo [2, 1, 0] (lo' := [(0, .ref (wAd w (0, j, 0, 0))), (1, .int 0), (2, .int 0)]) rfl ?_
  exact lp_X5_sumOfLengths_4 hW hj e C N 0 0 hF
theorem dX5_countNests_0 : decode cX5_countNests 0 = .ok (.iconst 0, 1) := by decide +kernel
theorem dX5_countNests_1 : decode cX5_countNests 1 = .ok (.istore_n 1, 1) := by decide +kernel
theorem dX5_countNests_2 : decode cX5_countNests 2 = .ok (.iconst 0, 1) := by decide +kernel
theorem dX5_countNests_3 : decode cX5_countNests 3 = .ok (.istore_n 2, 1) := by decide +kernel
theorem dX5_countNests_4 : decode cX5_countNests 4 = .ok (.iload_n 2, 1) := by decide +kernel
theorem dX5_countNests_5 : decode cX5_countNests 5 = .ok (.aload_n 0, 1) := by decide +kernel
theorem dX5_countNests_6 : decode cX5_countNests 6 = .ok (.getfield 49, 3) := by decide +kernel
theorem dX5_countNests_9 : decode cX5_countNests 9 = .ok (.if_icmp .ge 23, 3) := by decide +kernel
theorem dX5_countNests_12 : decode cX5_countNests 12 = .ok (.aload_n 0, 1) := by decide +kernel
theorem dX5_countNests_13 : decode cX5_countNests 13 = .ok (.getfield 26, 3) := by decide +kernel
theorem dX5_countNests_16 : decode cX5_countNests 16 = .ok (.iload_n 2, 1) := by decide +kernel
theorem dX5_countNests_17 : decode cX5_countNests 17 = .ok (.invokevirtual 129, 3) := by decide +kernel
theorem dX5_countNests_20 : decode cX5_countNests 20 = .ok (.ifCond .le 6, 3) := by decide +kernel
theorem dX5_countNests_23 : decode cX5_countNests 23 = .ok (.iinc 1 1, 3) := by decide +kernel
theorem dX5_countNests_26 : decode cX5_countNests 26 = .ok (.iinc 2 1, 3) := by decide +kernel
theorem dX5_countNests_29 : decode cX5_countNests 29 = .ok (.goto (-25), 3) := by decide +kernel
theorem dX5_countNests_32 : decode cX5_countNests 32 = .ok (.iload_n 1, 1) := by decide +kernel
theorem dX5_countNests_33 : decode cX5_countNests 33 = .ok (.ireturn, 1) := by decide +kernel
def st_X5_countNests_4 (N : Nat) (l1 : Int32) (l2 : Int32) (h : Nat → HV) : Option ((Int32 × Int32) ⊕ (Int32)) := (if ((h 0).1 0) ≤ l2 then some (.inr l1) else (if (rget 40 ((h 0).2 3) l2) ≤ 0 then some (.inl (l1, (l2 + 1))) else some (.inl ((l1 + 1), (l2 + 1)))))
def F_X5_countNests (N : Nat) (h : Nat → HV) : Option (Int32) := (lpN N (fun z => st_X5_countNests_4 N z.1 z.2 h) (0, 0))
theorem lp_X5_countNests_4 {w : WP} (hW : gW w) {Ω : OM} {j : Nat} (hj : j ≤ 10) {h : Nat → HV} (e : Ω.1 j = h)   {N : Nat} {X : CX} (C : gC w X cX5_countNests "HedgeMessages$Hedge" (some .int) 1 3) {v : Int32}  : ∀ (n : Nat) (l1 : Int32) (l2 : Int32), lpN n (fun z : Int32 × Int32 => st_X5_countNests_4 N z.1 z.2 h) (l1, l2) = some v → gV w X (some (.int v), cA w Ω) (cA w Ω) 4 [(0, .ref (wAd w (0, j, 0, 0))), (1, .int l1), (2, .int l2)] [] := by
  intro n
  induction n with
  | zero => intro l1 l2 hL; exact lpN_0 hL
  | succ n ih =>
    intro l1 l2 hL
    obtain ⟨q9, hF, hL⟩ := lpN_e hL
    change st_X5_countNests_4 N l1 l2 h = some q9 at hF
    unfold st_X5_countNests_4 at hF
    refine r_iload_n C (k := 2) rfl rfl dX5_countNests_4 ?_
    refine r_aload_n C (k := 0) rfl rfl dX5_countNests_5 ?_
    refine og_0_0 C (hW.ok (k0 hj)) (congrFun e 0) wm1_133 dX5_countNests_6 ?_
    refine r_icmp_ge C (tgt := 32) rfl dX5_countNests_9 (fun hc => ?_) (fun hc => ?_)
    · rw [if_pos hc] at hF
      refine r_iload_n C (k := 1) rfl rfl dX5_countNests_32 ?_
      cases hF
      change some _ = some _ at hL
      cases hL
      exact r_ireturn C dX5_countNests_33
    · rw [if_neg hc] at hF
      refine r_aload_n C (k := 0) rfl rfl dX5_countNests_12 ?_
      refine og_0_11 C (hW.ok (k0 hj)) wm1_152 dX5_countNests_13 ?_
      refine r_iload_n C (k := 2) rfl rfl dX5_countNests_16 ?_
      refine r_callV C (d' := 0) [.int l2] (c_rget (hW.ok (i := (3, j, 0, 3)) (q0 hj (kR rfl))) (hW.ok (i := (4, j, 0, 3)) (q0 hj (kR rfl))) (show rlen 0 3 = 40 from rfl) (by decide) (congrArg (fun z => z.2 3) (congrFun e 0)) rfl) myX8_get wm3_163 ⟨_, _, _, _, (hW.ok (i := (3, j, 0, 3)) (q0 hj (kR rfl))), rfl, rfl, rfl, rfl⟩ rfl (kR rfl) (by decide) (kR rfl) rfl dX5_countNests_17 ?_
      refine r_if_le C (tgt := 26) rfl dX5_countNests_20 (fun hc => ?_) (fun hc => ?_)
      · rw [if_pos hc] at hF
        refine r_iinc C (k := 2) (v := (l2 + 1)) (lo' := [(2, .int (l2 + 1)), (0, .ref (wAd w (0, j, 0, 0))), (1, .int l1)]) rfl rfl (by decide) rfl dX5_countNests_26 ?_
        refine r_goto C (tgt := 4) rfl dX5_countNests_29 ?_
        cases hF
        change lpN n _ _ = some _ at hL
        refine r_lo [1, 2, 0] (lo' := [(0, .ref (wAd w (0, j, 0, 0))), (1, .int l1), (2, .int (l2 + 1))]) rfl ?_
        exact ih l1 (l2 + 1) hL
      · rw [if_neg hc] at hF
        refine r_iinc C (k := 1) (v := (l1 + 1)) (lo' := [(1, .int (l1 + 1)), (0, .ref (wAd w (0, j, 0, 0))), (2, .int l2)]) rfl rfl (by decide) rfl dX5_countNests_23 ?_
        refine r_iinc C (k := 2) (v := (l2 + 1)) (lo' := [(2, .int (l2 + 1)), (1, .int (l1 + 1)), (0, .ref (wAd w (0, j, 0, 0)))]) rfl rfl (by decide) rfl dX5_countNests_26 ?_
        refine r_goto C (tgt := 4) rfl dX5_countNests_29 ?_
        cases hF
        change lpN n _ _ = some _ at hL
        refine r_lo [2, 1, 0] (lo' := [(0, .ref (wAd w (0, j, 0, 0))), (1, .int (l1 + 1)), (2, .int (l2 + 1))]) rfl ?_
        exact ih (l1 + 1) (l2 + 1) hL
theorem c_X5_countNests {w : WP} (hW : gW w) {Ω : OM} {j : Nat} (hj : j ≤ 10) {h : Nat → HV} (e : Ω.1 j = h) (N : Nat)  {v : Int32} (hF : F_X5_countNests N h = some v) : gM w 1 yX5_countNests cX5_countNests 3 (some .int) [.ref (wAd w (0, j, 0, 0))] (cA w Ω) (some (.int v)) (cA w Ω) := by
  refine gM_of "HedgeMessages$Hedge" rfl (by decide) (kR rfl) fun X C => ?_
  unfold F_X5_countNests at hF
  show gV w X _ _ 0 [(0, .ref (wAd w (0, j, 0, 0)))] []
  refine r_iconst C (v := 0) rfl dX5_countNests_0 ?_
  refine r_istore_n C (lo' := [(1, .int 0), (0, .ref (wAd w (0, j, 0, 0)))]) rfl (by decide) rfl dX5_countNests_1 ?_
  refine r_iconst C (v := 0) rfl dX5_countNests_2 ?_
  refine r_istore_n C (lo' := [(2, .int 0), (1, .int 0), (0, .ref (wAd w (0, j, 0, 0)))]) rfl (by decide) rfl dX5_countNests_3 ?_
  refine r_lo [2, 1, 0] (lo' := [(0, .ref (wAd w (0, j, 0, 0))), (1, .int 0), (2, .int 0)]) rfl ?_
  exact lp_X5_countNests_4 hW hj e C N 0 0 hF
theorem dX5_findStart_0 : decode cX5_findStart 0 = .ok (.iconst 0, 1) := by decide +kernel
theorem dX5_findStart_1 : decode cX5_findStart 1 = .ok (.istore_n 2, 1) := by decide +kernel
theorem dX5_findStart_2 : decode cX5_findStart 2 = .ok (.iconst 0, 1) := by decide +kernel
theorem dX5_findStart_3 : decode cX5_findStart 3 = .ok (.istore_n 3, 1) := by decide +kernel
theorem dX5_findStart_4 : decode cX5_findStart 4 = .ok (.iload_n 1, 1) := by decide +kernel
theorem dX5_findStart_5 : decode cX5_findStart 5 = .ok (.ifCond .le 101, 3) := by decide +kernel
theorem dX5_findStart_8 : decode cX5_findStart 8 = .ok (.iload_n 3, 1) := by decide +kernel
theorem dX5_findStart_9 : decode cX5_findStart 9 = .ok (.aload_n 0, 1) := by decide +kernel
theorem dX5_findStart_10 : decode cX5_findStart 10 = .ok (.getfield 49, 3) := by decide +kernel
theorem dX5_findStart_13 : decode cX5_findStart 13 = .ok (.if_icmp .ge 93, 3) := by decide +kernel
theorem dX5_findStart_16 : decode cX5_findStart 16 = .ok (.aload_n 0, 1) := by decide +kernel
theorem dX5_findStart_17 : decode cX5_findStart 17 = .ok (.getfield 23, 3) := by decide +kernel
theorem dX5_findStart_20 : decode cX5_findStart 20 = .ok (.iload_n 3, 1) := by decide +kernel
theorem dX5_findStart_21 : decode cX5_findStart 21 = .ok (.invokevirtual 129, 3) := by decide +kernel
theorem dX5_findStart_24 : decode cX5_findStart 24 = .ok (.ifCond .gt 14, 3) := by decide +kernel
theorem dX5_findStart_27 : decode cX5_findStart 27 = .ok (.aload_n 0, 1) := by decide +kernel
theorem dX5_findStart_28 : decode cX5_findStart 28 = .ok (.getfield 29, 3) := by decide +kernel
theorem dX5_findStart_31 : decode cX5_findStart 31 = .ok (.iload_n 3, 1) := by decide +kernel
theorem dX5_findStart_32 : decode cX5_findStart 32 = .ok (.invokevirtual 129, 3) := by decide +kernel
theorem dX5_findStart_35 : decode cX5_findStart 35 = .ok (.ifCond .le 10, 3) := by decide +kernel
theorem dX5_findStart_38 : decode cX5_findStart 38 = .ok (.iload_n 3, 1) := by decide +kernel
theorem dX5_findStart_39 : decode cX5_findStart 39 = .ok (.iconst 2, 1) := by decide +kernel
theorem dX5_findStart_40 : decode cX5_findStart 40 = .ok (.iadd, 1) := by decide +kernel
theorem dX5_findStart_41 : decode cX5_findStart 41 = .ok (.istore_n 2, 1) := by decide +kernel
theorem dX5_findStart_42 : decode cX5_findStart 42 = .ok (.goto 58, 3) := by decide +kernel
theorem dX5_findStart_45 : decode cX5_findStart 45 = .ok (.aload_n 0, 1) := by decide +kernel
theorem dX5_findStart_46 : decode cX5_findStart 46 = .ok (.getfield 26, 3) := by decide +kernel
theorem dX5_findStart_49 : decode cX5_findStart 49 = .ok (.iload_n 3, 1) := by decide +kernel
theorem dX5_findStart_50 : decode cX5_findStart 50 = .ok (.invokevirtual 129, 3) := by decide +kernel
theorem dX5_findStart_53 : decode cX5_findStart 53 = .ok (.ifCond .le 10, 3) := by decide +kernel
theorem dX5_findStart_56 : decode cX5_findStart 56 = .ok (.iload_n 3, 1) := by decide +kernel
theorem dX5_findStart_57 : decode cX5_findStart 57 = .ok (.iconst 1, 1) := by decide +kernel
theorem dX5_findStart_58 : decode cX5_findStart 58 = .ok (.iadd, 1) := by decide +kernel
theorem dX5_findStart_59 : decode cX5_findStart 59 = .ok (.istore_n 2, 1) := by decide +kernel
theorem dX5_findStart_60 : decode cX5_findStart 60 = .ok (.goto 40, 3) := by decide +kernel
theorem dX5_findStart_63 : decode cX5_findStart 63 = .ok (.iload_n 3, 1) := by decide +kernel
theorem dX5_findStart_64 : decode cX5_findStart 64 = .ok (.iload_n 2, 1) := by decide +kernel
theorem dX5_findStart_65 : decode cX5_findStart 65 = .ok (.isub, 1) := by decide +kernel
theorem dX5_findStart_66 : decode cX5_findStart 66 = .ok (.iconst 1, 1) := by decide +kernel
theorem dX5_findStart_67 : decode cX5_findStart 67 = .ok (.iadd, 1) := by decide +kernel
theorem dX5_findStart_68 : decode cX5_findStart 68 = .ok (.iload_n 1, 1) := by decide +kernel
theorem dX5_findStart_69 : decode cX5_findStart 69 = .ok (.if_icmp .lt 31, 3) := by decide +kernel
theorem dX5_findStart_72 : decode cX5_findStart 72 = .ok (.aload_n 0, 1) := by decide +kernel
theorem dX5_findStart_73 : decode cX5_findStart 73 = .ok (.getfield 23, 3) := by decide +kernel
theorem dX5_findStart_76 : decode cX5_findStart 76 = .ok (.iload_n 3, 1) := by decide +kernel
theorem dX5_findStart_77 : decode cX5_findStart 77 = .ok (.iconst 1, 1) := by decide +kernel
theorem dX5_findStart_78 : decode cX5_findStart 78 = .ok (.iadd, 1) := by decide +kernel
theorem dX5_findStart_79 : decode cX5_findStart 79 = .ok (.invokevirtual 129, 3) := by decide +kernel
theorem dX5_findStart_82 : decode cX5_findStart 82 = .ok (.ifCond .ne 18, 3) := by decide +kernel
theorem dX5_findStart_85 : decode cX5_findStart 85 = .ok (.aload_n 0, 1) := by decide +kernel
theorem dX5_findStart_86 : decode cX5_findStart 86 = .ok (.getfield 29, 3) := by decide +kernel
theorem dX5_findStart_89 : decode cX5_findStart 89 = .ok (.iload_n 3, 1) := by decide +kernel
theorem dX5_findStart_90 : decode cX5_findStart 90 = .ok (.iconst 1, 1) := by decide +kernel
theorem dX5_findStart_91 : decode cX5_findStart 91 = .ok (.iadd, 1) := by decide +kernel
theorem dX5_findStart_92 : decode cX5_findStart 92 = .ok (.invokevirtual 129, 3) := by decide +kernel
theorem dX5_findStart_95 : decode cX5_findStart 95 = .ok (.ifCond .ne 5, 3) := by decide +kernel
theorem dX5_findStart_98 : decode cX5_findStart 98 = .ok (.iload_n 2, 1) := by decide +kernel
theorem dX5_findStart_99 : decode cX5_findStart 99 = .ok (.ireturn, 1) := by decide +kernel
theorem dX5_findStart_100 : decode cX5_findStart 100 = .ok (.iinc 3 1, 3) := by decide +kernel
theorem dX5_findStart_103 : decode cX5_findStart 103 = .ok (.goto (-99), 3) := by decide +kernel
theorem dX5_findStart_106 : decode cX5_findStart 106 = .ok (.iconst (-1), 1) := by decide +kernel
theorem dX5_findStart_107 : decode cX5_findStart 107 = .ok (.ireturn, 1) := by decide +kernel
def st_X5_findStart_4 (N : Nat) (l1 : Int32) (l2 : Int32) (l3 : Int32) (h : Nat → HV) : Option ((Int32 × Int32) ⊕ (Int32)) := (if l1 ≤ 0 then some (.inr (-1)) else (if ((h 0).1 0) ≤ l3 then some (.inr (-1)) else (if 0 < (rget 40 ((h 0).2 2) l3) then some (.inl ((l3 + 2), (l3 + 1))) else (if (rget 40 ((h 0).2 4) l3) ≤ 0 then (if (rget 40 ((h 0).2 3) l3) ≤ 0 then (if ((l3 - l2) + 1) < l1 then some (.inl (l2, (l3 + 1))) else (if (rget 40 ((h 0).2 2) (l3 + 1)) = 0 then (if (rget 40 ((h 0).2 4) (l3 + 1)) = 0 then some (.inr l2) else some (.inl (l2, (l3 + 1)))) else some (.inl (l2, (l3 + 1))))) else some (.inl ((l3 + 1), (l3 + 1)))) else some (.inl ((l3 + 2), (l3 + 1)))))))
def F_X5_findStart (N : Nat) (a1 : Int32) (h : Nat → HV) : Option (Int32) := (lpN N (fun z => st_X5_findStart_4 N a1 z.1 z.2 h) (0, 0))
theorem lp_X5_findStart_4 {w : WP} (hW : gW w) {Ω : OM} {j : Nat} (hj : j ≤ 10) {h : Nat → HV} (e : Ω.1 j = h)  (l1 : Int32) {N : Nat} {X : CX} (C : gC w X cX5_findStart "HedgeMessages$Hedge" (some .int) 1 4) {v : Int32}  : ∀ (n : Nat) (l2 : Int32) (l3 : Int32), lpN n (fun z : Int32 × Int32 => st_X5_findStart_4 N l1 z.1 z.2 h) (l2, l3) = some v → gV w X (some (.int v), cA w Ω) (cA w Ω) 4 [(0, .ref (wAd w (0, j, 0, 0))), (1, .int l1), (2, .int l2), (3, .int l3)] [] := by
  intro n
  induction n with
  | zero => intro l2 l3 hL; exact lpN_0 hL
  | succ n ih =>
    intro l2 l3 hL
    obtain ⟨q9, hF, hL⟩ := lpN_e hL
    change st_X5_findStart_4 N l1 l2 l3 h = some q9 at hF
    unfold st_X5_findStart_4 at hF
    refine r_iload_n C (k := 1) rfl rfl dX5_findStart_4 ?_
    refine r_if_le C (tgt := 106) rfl dX5_findStart_5 (fun hc => ?_) (fun hc => ?_)
    · rw [if_pos hc] at hF
      refine r_iconst C (v := (-1)) (by decide) dX5_findStart_106 ?_
      cases hF
      change some _ = some _ at hL
      cases hL
      exact r_ireturn C dX5_findStart_107
    · rw [if_neg hc] at hF
      refine r_iload_n C (k := 3) rfl rfl dX5_findStart_8 ?_
      refine r_aload_n C (k := 0) rfl rfl dX5_findStart_9 ?_
      refine og_0_0 C (hW.ok (k0 hj)) (congrFun e 0) wm1_133 dX5_findStart_10 ?_
      refine r_icmp_ge C (tgt := 106) rfl dX5_findStart_13 (fun hc => ?_) (fun hc => ?_)
      · rw [if_pos hc] at hF
        refine r_iconst C (v := (-1)) (by decide) dX5_findStart_106 ?_
        cases hF
        change some _ = some _ at hL
        cases hL
        exact r_ireturn C dX5_findStart_107
      · rw [if_neg hc] at hF
        refine r_aload_n C (k := 0) rfl rfl dX5_findStart_16 ?_
        refine og_0_10 C (hW.ok (k0 hj)) wm1_150 dX5_findStart_17 ?_
        refine r_iload_n C (k := 3) rfl rfl dX5_findStart_20 ?_
        refine r_callV C (d' := 0) [.int l3] (c_rget (hW.ok (i := (3, j, 0, 2)) (q0 hj (kR rfl))) (hW.ok (i := (4, j, 0, 2)) (q0 hj (kR rfl))) (show rlen 0 2 = 40 from rfl) (by decide) (congrArg (fun z => z.2 2) (congrFun e 0)) rfl) myX8_get wm3_163 ⟨_, _, _, _, (hW.ok (i := (3, j, 0, 2)) (q0 hj (kR rfl))), rfl, rfl, rfl, rfl⟩ rfl (kR rfl) (by decide) (kR rfl) rfl dX5_findStart_21 ?_
        refine r_if_gt C (tgt := 38) rfl dX5_findStart_24 (fun hc => ?_) (fun hc => ?_)
        · rw [if_pos hc] at hF
          refine r_iload_n C (k := 3) rfl rfl dX5_findStart_38 ?_
          refine r_iconst C (v := 2) rfl dX5_findStart_39 ?_
          refine r_iadd C dX5_findStart_40 ?_
          refine r_istore_n C (lo' := [(2, .int (l3 + 2)), (0, .ref (wAd w (0, j, 0, 0))), (1, .int l1), (3, .int l3)]) rfl (by decide) rfl dX5_findStart_41 ?_
          refine r_goto C (tgt := 100) rfl dX5_findStart_42 ?_
          refine r_iinc C (k := 3) (v := (l3 + 1)) (lo' := [(3, .int (l3 + 1)), (2, .int (l3 + 2)), (0, .ref (wAd w (0, j, 0, 0))), (1, .int l1)]) rfl rfl (by decide) rfl dX5_findStart_100 ?_
          refine r_goto C (tgt := 4) rfl dX5_findStart_103 ?_
          cases hF
          change lpN n _ _ = some _ at hL
          refine r_lo [2, 3, 1, 0] (lo' := [(0, .ref (wAd w (0, j, 0, 0))), (1, .int l1), (2, .int (l3 + 2)), (3, .int (l3 + 1))]) rfl ?_
          exact ih (l3 + 2) (l3 + 1) hL
        · rw [if_neg hc] at hF
          refine r_aload_n C (k := 0) rfl rfl dX5_findStart_27 ?_
          refine og_0_12 C (hW.ok (k0 hj)) wm1_155 dX5_findStart_28 ?_
          refine r_iload_n C (k := 3) rfl rfl dX5_findStart_31 ?_
          refine r_callV C (d' := 0) [.int l3] (c_rget (hW.ok (i := (3, j, 0, 4)) (q0 hj (kR rfl))) (hW.ok (i := (4, j, 0, 4)) (q0 hj (kR rfl))) (show rlen 0 4 = 40 from rfl) (by decide) (congrArg (fun z => z.2 4) (congrFun e 0)) rfl) myX8_get wm3_163 ⟨_, _, _, _, (hW.ok (i := (3, j, 0, 4)) (q0 hj (kR rfl))), rfl, rfl, rfl, rfl⟩ rfl (kR rfl) (by decide) (kR rfl) rfl dX5_findStart_32 ?_
          refine r_if_le C (tgt := 45) rfl dX5_findStart_35 (fun hc => ?_) (fun hc => ?_)
          · rw [if_pos hc] at hF
            refine r_aload_n C (k := 0) rfl rfl dX5_findStart_45 ?_
            refine og_0_11 C (hW.ok (k0 hj)) wm1_152 dX5_findStart_46 ?_
            refine r_iload_n C (k := 3) rfl rfl dX5_findStart_49 ?_
            refine r_callV C (d' := 0) [.int l3] (c_rget (hW.ok (i := (3, j, 0, 3)) (q0 hj (kR rfl))) (hW.ok (i := (4, j, 0, 3)) (q0 hj (kR rfl))) (show rlen 0 3 = 40 from rfl) (by decide) (congrArg (fun z => z.2 3) (congrFun e 0)) rfl) myX8_get wm3_163 ⟨_, _, _, _, (hW.ok (i := (3, j, 0, 3)) (q0 hj (kR rfl))), rfl, rfl, rfl, rfl⟩ rfl (kR rfl) (by decide) (kR rfl) rfl dX5_findStart_50 ?_
            refine r_if_le C (tgt := 63) rfl dX5_findStart_53 (fun hc => ?_) (fun hc => ?_)
            · rw [if_pos hc] at hF
              refine r_iload_n C (k := 3) rfl rfl dX5_findStart_63 ?_
              refine r_iload_n C (k := 2) rfl rfl dX5_findStart_64 ?_
              refine r_isub C dX5_findStart_65 ?_
              refine r_iconst C (v := 1) rfl dX5_findStart_66 ?_
              refine r_iadd C dX5_findStart_67 ?_
              refine r_iload_n C (k := 1) rfl rfl dX5_findStart_68 ?_
              refine r_icmp_lt C (tgt := 100) rfl dX5_findStart_69 (fun hc => ?_) (fun hc => ?_)
              · rw [if_pos hc] at hF
                refine r_iinc C (k := 3) (v := (l3 + 1)) (lo' := [(3, .int (l3 + 1)), (0, .ref (wAd w (0, j, 0, 0))), (1, .int l1), (2, .int l2)]) rfl rfl (by decide) rfl dX5_findStart_100 ?_
                refine r_goto C (tgt := 4) rfl dX5_findStart_103 ?_
                cases hF
                change lpN n _ _ = some _ at hL
                refine r_lo [1, 2, 3, 0] (lo' := [(0, .ref (wAd w (0, j, 0, 0))), (1, .int l1), (2, .int l2), (3, .int (l3 + 1))]) rfl ?_
                exact ih l2 (l3 + 1) hL
              · rw [if_neg hc] at hF
                refine r_aload_n C (k := 0) rfl rfl dX5_findStart_72 ?_
                refine og_0_10 C (hW.ok (k0 hj)) wm1_150 dX5_findStart_73 ?_
                refine r_iload_n C (k := 3) rfl rfl dX5_findStart_76 ?_
                refine r_iconst C (v := 1) rfl dX5_findStart_77 ?_
                refine r_iadd C dX5_findStart_78 ?_
                refine r_callV C (d' := 0) [.int (l3 + 1)] (c_rget (hW.ok (i := (3, j, 0, 2)) (q0 hj (kR rfl))) (hW.ok (i := (4, j, 0, 2)) (q0 hj (kR rfl))) (show rlen 0 2 = 40 from rfl) (by decide) (congrArg (fun z => z.2 2) (congrFun e 0)) rfl) myX8_get wm3_163 ⟨_, _, _, _, (hW.ok (i := (3, j, 0, 2)) (q0 hj (kR rfl))), rfl, rfl, rfl, rfl⟩ rfl (kR rfl) (by decide) (kR rfl) rfl dX5_findStart_79 ?_
                refine r_if_ne C (tgt := 100) rfl dX5_findStart_82 (fun hc => ?_) (fun hc => ?_)
                · rw [if_neg hc] at hF
                  refine r_iinc C (k := 3) (v := (l3 + 1)) (lo' := [(3, .int (l3 + 1)), (0, .ref (wAd w (0, j, 0, 0))), (1, .int l1), (2, .int l2)]) rfl rfl (by decide) rfl dX5_findStart_100 ?_
                  refine r_goto C (tgt := 4) rfl dX5_findStart_103 ?_
                  cases hF
                  change lpN n _ _ = some _ at hL
                  refine r_lo [1, 2, 3, 0] (lo' := [(0, .ref (wAd w (0, j, 0, 0))), (1, .int l1), (2, .int l2), (3, .int (l3 + 1))]) rfl ?_
                  exact ih l2 (l3 + 1) hL
                · rw [if_pos hc] at hF
                  refine r_aload_n C (k := 0) rfl rfl dX5_findStart_85 ?_
                  refine og_0_12 C (hW.ok (k0 hj)) wm1_155 dX5_findStart_86 ?_
                  refine r_iload_n C (k := 3) rfl rfl dX5_findStart_89 ?_
                  refine r_iconst C (v := 1) rfl dX5_findStart_90 ?_
                  refine r_iadd C dX5_findStart_91 ?_
                  refine r_callV C (d' := 0) [.int (l3 + 1)] (c_rget (hW.ok (i := (3, j, 0, 4)) (q0 hj (kR rfl))) (hW.ok (i := (4, j, 0, 4)) (q0 hj (kR rfl))) (show rlen 0 4 = 40 from rfl) (by decide) (congrArg (fun z => z.2 4) (congrFun e 0)) rfl) myX8_get wm3_163 ⟨_, _, _, _, (hW.ok (i := (3, j, 0, 4)) (q0 hj (kR rfl))), rfl, rfl, rfl, rfl⟩ rfl (kR rfl) (by decide) (kR rfl) rfl dX5_findStart_92 ?_
                  refine r_if_ne C (tgt := 100) rfl dX5_findStart_95 (fun hc => ?_) (fun hc => ?_)
                  · rw [if_neg hc] at hF
                    refine r_iinc C (k := 3) (v := (l3 + 1)) (lo' := [(3, .int (l3 + 1)), (0, .ref (wAd w (0, j, 0, 0))), (1, .int l1), (2, .int l2)]) rfl rfl (by decide) rfl dX5_findStart_100 ?_
                    refine r_goto C (tgt := 4) rfl dX5_findStart_103 ?_
                    cases hF
                    change lpN n _ _ = some _ at hL
                    refine r_lo [1, 2, 3, 0] (lo' := [(0, .ref (wAd w (0, j, 0, 0))), (1, .int l1), (2, .int l2), (3, .int (l3 + 1))]) rfl ?_
                    exact ih l2 (l3 + 1) hL
                  · rw [if_pos hc] at hF
                    refine r_iload_n C (k := 2) rfl rfl dX5_findStart_98 ?_
                    cases hF
                    change some _ = some _ at hL
                    cases hL
                    exact r_ireturn C dX5_findStart_99
            · rw [if_neg hc] at hF
              refine r_iload_n C (k := 3) rfl rfl dX5_findStart_56 ?_
              refine r_iconst C (v := 1) rfl dX5_findStart_57 ?_
              refine r_iadd C dX5_findStart_58 ?_
              refine r_istore_n C (lo' := [(2, .int (l3 + 1)), (0, .ref (wAd w (0, j, 0, 0))), (1, .int l1), (3, .int l3)]) rfl (by decide) rfl dX5_findStart_59 ?_
              refine r_goto C (tgt := 100) rfl dX5_findStart_60 ?_
              refine r_iinc C (k := 3) (v := (l3 + 1)) (lo' := [(3, .int (l3 + 1)), (2, .int (l3 + 1)), (0, .ref (wAd w (0, j, 0, 0))), (1, .int l1)]) rfl rfl (by decide) rfl dX5_findStart_100 ?_
              refine r_goto C (tgt := 4) rfl dX5_findStart_103 ?_
              cases hF
              change lpN n _ _ = some _ at hL
              refine r_lo [2, 3, 1, 0] (lo' := [(0, .ref (wAd w (0, j, 0, 0))), (1, .int l1), (2, .int (l3 + 1)), (3, .int (l3 + 1))]) rfl ?_
              exact ih (l3 + 1) (l3 + 1) hL
          · rw [if_neg hc] at hF
            refine r_iload_n C (k := 3) rfl rfl dX5_findStart_38 ?_
            refine r_iconst C (v := 2) rfl dX5_findStart_39 ?_
            refine r_iadd C dX5_findStart_40 ?_
            refine r_istore_n C (lo' := [(2, .int (l3 + 2)), (0, .ref (wAd w (0, j, 0, 0))), (1, .int l1), (3, .int l3)]) rfl (by decide) rfl dX5_findStart_41 ?_
            refine r_goto C (tgt := 100) rfl dX5_findStart_42 ?_
            refine r_iinc C (k := 3) (v := (l3 + 1)) (lo' := [(3, .int (l3 + 1)), (2, .int (l3 + 2)), (0, .ref (wAd w (0, j, 0, 0))), (1, .int l1)]) rfl rfl (by decide) rfl dX5_findStart_100 ?_
            refine r_goto C (tgt := 4) rfl dX5_findStart_103 ?_
            cases hF
            change lpN n _ _ = some _ at hL
            refine r_lo [2, 3, 1, 0] (lo' := [(0, .ref (wAd w (0, j, 0, 0))), (1, .int l1), (2, .int (l3 + 2)), (3, .int (l3 + 1))]) rfl ?_
            exact ih (l3 + 2) (l3 + 1) hL
theorem c_X5_findStart {w : WP} (hW : gW w) {Ω : OM} {j : Nat} (hj : j ≤ 10) {h : Nat → HV} (e : Ω.1 j = h) (N : Nat) (a1 : Int32) {v : Int32} (hF : F_X5_findStart N a1 h = some v) : gM w 1 yX5_findStart cX5_findStart 4 (some .int) [.ref (wAd w (0, j, 0, 0)), .int a1] (cA w Ω) (some (.int v)) (cA w Ω) := by
  refine gM_of "HedgeMessages$Hedge" rfl (by decide) (kR rfl) fun X C => ?_
  unfold F_X5_findStart at hF
  show gV w X _ _ 0 [(0, .ref (wAd w (0, j, 0, 0))), (1, .int a1)] []
  refine r_iconst C (v := 0) rfl dX5_findStart_0 ?_
  refine r_istore_n C (lo' := [(2, .int 0), (0, .ref (wAd w (0, j, 0, 0))), (1, .int a1)]) rfl (by decide) rfl dX5_findStart_1 ?_
  refine r_iconst C (v := 0) rfl dX5_findStart_2 ?_
  refine r_istore_n C (lo' := [(3, .int 0), (2, .int 0), (0, .ref (wAd w (0, j, 0, 0))), (1, .int a1)]) rfl (by decide) rfl dX5_findStart_3 ?_
  refine r_lo [2, 3, 1, 0] (lo' := [(0, .ref (wAd w (0, j, 0, 0))), (1, .int a1), (2, .int 0), (3, .int 0)]) rfl ?_
  exact lp_X5_findStart_4 hW hj e a1 C N 0 0 hF
theorem dX5_hasMessages_0 : decode cX5_hasMessages 0 = .ok (.aload_n 0, 1) := by decide +kernel
theorem dX5_hasMessages_1 : decode cX5_hasMessages 1 = .ok (.iload_n 1, 1) := by decide +kernel
theorem dX5_hasMessages_2 : decode cX5_hasMessages 2 = .ok (.invokevirtual 104, 3) := by decide +kernel
theorem dX5_hasMessages_5 : decode cX5_hasMessages 5 = .ok (.astore_n 2, 1) := by decide +kernel
theorem dX5_hasMessages_6 : decode cX5_hasMessages 6 = .ok (.aload_n 2, 1) := by decide +kernel
theorem dX5_hasMessages_7 : decode cX5_hasMessages 7 = .ok (.getfield 140, 3) := by decide +kernel
theorem dX5_hasMessages_10 : decode cX5_hasMessages 10 = .ok (.ifCond .gt 21, 3) := by decide +kernel
theorem dX5_hasMessages_13 : decode cX5_hasMessages 13 = .ok (.aload_n 2, 1) := by decide +kernel
theorem dX5_hasMessages_14 : decode cX5_hasMessages 14 = .ok (.invokevirtual 143, 3) := by decide +kernel
theorem dX5_hasMessages_17 : decode cX5_hasMessages 17 = .ok (.ifCond .ne 14, 3) := by decide +kernel
theorem dX5_hasMessages_20 : decode cX5_hasMessages 20 = .ok (.aload_n 0, 1) := by decide +kernel
theorem dX5_hasMessages_21 : decode cX5_hasMessages 21 = .ok (.getfield 45, 3) := by decide +kernel
theorem dX5_hasMessages_24 : decode cX5_hasMessages 24 = .ok (.iload_n 1, 1) := by decide +kernel
theorem dX5_hasMessages_25 : decode cX5_hasMessages 25 = .ok (.invokevirtual 147, 3) := by decide +kernel
theorem dX5_hasMessages_28 : decode cX5_hasMessages 28 = .ok (.ifCond .le 7, 3) := by decide +kernel
theorem dX5_hasMessages_31 : decode cX5_hasMessages 31 = .ok (.iconst 1, 1) := by decide +kernel
theorem dX5_hasMessages_32 : decode cX5_hasMessages 32 = .ok (.goto 4, 3) := by decide +kernel
theorem dX5_hasMessages_35 : decode cX5_hasMessages 35 = .ok (.iconst 0, 1) := by decide +kernel
theorem dX5_hasMessages_36 : decode cX5_hasMessages 36 = .ok (.ireturn, 1) := by decide +kernel
def F_X5_hasMessages (N : Nat) (a1 : Int32) (h : Nat → HV) : Option (Bool) := (if 0 < ((h (gsel a1)).1 2) then some true else (if (F_X4_isWriting (h (gsel a1))) = true then some true else (ob1 (F_X7_countOf N a1 (h 3)) fun v1 => (if v1 ≤ 0 then some false else some true))))
theorem c_X5_hasMessages {w : WP} (hW : gW w) {Ω : OM} {j : Nat} (hj : j ≤ 10) {h : Nat → HV} (e : Ω.1 j = h) (N : Nat) (a1 : Int32) {v : Bool} (hF : F_X5_hasMessages N a1 h = some v) : gM w 2 yX5_hasMessages cX5_hasMessages 3 (some .boolean) [.ref (wAd w (0, j, 0, 0)), .int a1] (cA w Ω) (some (.int (b2i v))) (cA w Ω) := by
  refine gM_of "HedgeMessages$Hedge" rfl (by decide) (kR rfl) fun X C => ?_
  unfold F_X5_hasMessages at hF
  show gV w X _ _ 0 [(0, .ref (wAd w (0, j, 0, 0))), (1, .int a1)] []
  refine r_aload_n C (k := 0) rfl rfl dX5_hasMessages_0 ?_
  refine r_iload_n C (k := 1) rfl rfl dX5_hasMessages_1 ?_
  refine r_callV C (d' := 0) [.int a1] (c_X5_gardener hW hj a1) myX5_gardener wm2_141 ⟨_, _, _, _, (hW.ok (k0 hj)), rfl, rfl, rfl, rfl⟩ rfl (kR rfl) (by decide) (kR rfl) rfl dX5_hasMessages_2 ?_
  refine r_astore_n C (lo' := [(2, .ref (wAd w (1, j, (gsel a1), 0))), (0, .ref (wAd w (0, j, 0, 0))), (1, .int a1)]) rfl (by decide) rfl dX5_hasMessages_5 ?_
  refine r_aload_n C (k := 0) rfl rfl dX5_hasMessages_6 ?_
  refine ogN_1_2 C (hW.ok (k1 hj gsel_12)) (congrFun e (gsel a1)) wm1_64 dX5_hasMessages_7 ?_
  refine r_if_gt C (tgt := 31) rfl dX5_hasMessages_10 (fun hc => ?_) (fun hc => ?_)
  · rw [if_pos hc] at hF
    refine r_iconst C (v := 1) rfl dX5_hasMessages_31 ?_
    refine r_goto C (tgt := 36) rfl dX5_hasMessages_32 ?_
    cases hF
    exact r_zreturn C true rfl dX5_hasMessages_36
  · rw [if_neg hc] at hF
    refine r_aload_n C (k := 0) rfl rfl dX5_hasMessages_13 ?_
    refine r_callV C (d' := 0) [] (c_X4_isWriting hW hj gsel_12 (congrFun e (gsel a1)) rfl) myX4_isWriting wm4_167 ⟨_, _, _, _, (hW.ok (k1 hj gsel_12)), rfl, rfl, rfl, rfl⟩ rfl (kR rfl) (by decide) (kR rfl) rfl dX5_hasMessages_14 ?_
    refine r_if_ne C (tgt := 31) rfl dX5_hasMessages_17 (fun hc => ?_) (fun hc => ?_)
    · rw [if_pos (b2i_t hc)] at hF
      refine r_iconst C (v := 1) rfl dX5_hasMessages_31 ?_
      refine r_goto C (tgt := 36) rfl dX5_hasMessages_32 ?_
      cases hF
      exact r_zreturn C true rfl dX5_hasMessages_36
    · rw [if_neg (b2i_f hc)] at hF
      refine r_aload_n C (k := 1) rfl rfl dX5_hasMessages_20 ?_
      refine og_0_15 C (hW.ok (k0 hj)) wm1_160 dX5_hasMessages_21 ?_
      refine r_iload_n C (k := 2) rfl rfl dX5_hasMessages_24 ?_
      obtain ⟨v1, hv1, hF⟩ := ob1_e hF
      refine r_callV C (d' := 1) [.int a1] (c_X7_countOf hW hj (congrFun e 3) N a1 hv1) myX7_countOf wm7_1 ⟨_, _, _, _, (hW.ok (k2 hj)), rfl, rfl, rfl, rfl⟩ rfl (kR rfl) (by decide) (kR rfl) rfl dX5_hasMessages_25 ?_
      refine r_if_le C (tgt := 35) rfl dX5_hasMessages_28 (fun hc => ?_) (fun hc => ?_)
      · rw [if_pos hc] at hF
        refine r_iconst C (v := 0) rfl dX5_hasMessages_35 ?_
        cases hF
        exact r_zreturn C false rfl dX5_hasMessages_36
      · rw [if_neg hc] at hF
        refine r_iconst C (v := 1) rfl dX5_hasMessages_31 ?_
        refine r_goto C (tgt := 36) rfl dX5_hasMessages_32 ?_
        cases hF
        exact r_zreturn C true rfl dX5_hasMessages_36
theorem dX5_daysToInspection_0 : decode cX5_daysToInspection 0 = .ok (.aload_n 0, 1) := by decide +kernel
theorem dX5_daysToInspection_1 : decode cX5_daysToInspection 1 = .ok (.getfield 62, 3) := by decide +kernel
theorem dX5_daysToInspection_4 : decode cX5_daysToInspection 4 = .ok (.ifCond .le 20, 3) := by decide +kernel
theorem dX5_daysToInspection_7 : decode cX5_daysToInspection 7 = .ok (.aload_n 0, 1) := by decide +kernel
theorem dX5_daysToInspection_8 : decode cX5_daysToInspection 8 = .ok (.getfield 62, 3) := by decide +kernel
theorem dX5_daysToInspection_11 : decode cX5_daysToInspection 11 = .ok (.aload_n 0, 1) := by decide +kernel
theorem dX5_daysToInspection_12 : decode cX5_daysToInspection 12 = .ok (.getfield 68, 3) := by decide +kernel
theorem dX5_daysToInspection_15 : decode cX5_daysToInspection 15 = .ok (.aload_n 0, 1) := by decide +kernel
theorem dX5_daysToInspection_16 : decode cX5_daysToInspection 16 = .ok (.getfield 62, 3) := by decide +kernel
theorem dX5_daysToInspection_19 : decode cX5_daysToInspection 19 = .ok (.irem, 1) := by decide +kernel
theorem dX5_daysToInspection_20 : decode cX5_daysToInspection 20 = .ok (.isub, 1) := by decide +kernel
theorem dX5_daysToInspection_21 : decode cX5_daysToInspection 21 = .ok (.goto 4, 3) := by decide +kernel
theorem dX5_daysToInspection_24 : decode cX5_daysToInspection 24 = .ok (.iconst 1, 1) := by decide +kernel
theorem dX5_daysToInspection_25 : decode cX5_daysToInspection 25 = .ok (.ireturn, 1) := by decide +kernel
def F_X5_daysToInspection (h : Nat → HV) : Option (Int32) := (if ((h 0).1 4) ≤ 0 then some 1 else (if ((h 0).1 4) = 0 then none else some (((h 0).1 4) - (((h 0).1 6) - ((h 0).1 6) / ((h 0).1 4) * ((h 0).1 4)))))
theorem c_X5_daysToInspection {w : WP} (hW : gW w) {Ω : OM} {j : Nat} (hj : j ≤ 10) {h : Nat → HV} (e : Ω.1 j = h)  {v : Int32} (hF : F_X5_daysToInspection h = some v) : gM w 0 yX5_daysToInspection cX5_daysToInspection 1 (some .int) [.ref (wAd w (0, j, 0, 0))] (cA w Ω) (some (.int v)) (cA w Ω) := by
  refine gM_of "HedgeMessages$Hedge" rfl (by decide) (kR rfl) fun X C => ?_
  unfold F_X5_daysToInspection at hF
  show gV w X _ _ 0 [(0, .ref (wAd w (0, j, 0, 0)))] []
  refine r_aload_n C (k := 0) rfl rfl dX5_daysToInspection_0 ?_
  refine og_0_4 C (hW.ok (k0 hj)) (congrFun e 0) wm1_140 dX5_daysToInspection_1 ?_
  refine r_if_le C (tgt := 24) rfl dX5_daysToInspection_4 (fun hc => ?_) (fun hc => ?_)
  · rw [if_pos hc] at hF
    refine r_iconst C (v := 1) rfl dX5_daysToInspection_24 ?_
    cases hF
    exact r_ireturn C dX5_daysToInspection_25
  · rw [if_neg hc] at hF
    refine r_aload_n C (k := 0) rfl rfl dX5_daysToInspection_7 ?_
    refine og_0_4 C (hW.ok (k0 hj)) (congrFun e 0) wm1_140 dX5_daysToInspection_8 ?_
    refine r_aload_n C (k := 0) rfl rfl dX5_daysToInspection_11 ?_
    refine og_0_6 C (hW.ok (k0 hj)) (congrFun e 0) wm1_142 dX5_daysToInspection_12 ?_
    refine r_aload_n C (k := 0) rfl rfl dX5_daysToInspection_15 ?_
    refine og_0_4 C (hW.ok (k0 hj)) (congrFun e 0) wm1_140 dX5_daysToInspection_16 ?_
    obtain ⟨z1, hF⟩ := dz_e hF
    refine r_irem C z1 dX5_daysToInspection_19 ?_
    refine r_isub C dX5_daysToInspection_20 ?_
    refine r_goto C (tgt := 25) rfl dX5_daysToInspection_21 ?_
    cases hF
    exact r_ireturn C dX5_daysToInspection_25
theorem dX5_wrongIn_0 : decode cX5_wrongIn 0 = .ok (.iconst 0, 1) := by decide +kernel
theorem dX5_wrongIn_1 : decode cX5_wrongIn 1 = .ok (.istore 4, 2) := by decide +kernel
theorem dX5_wrongIn_3 : decode cX5_wrongIn 3 = .ok (.iload_n 2, 1) := by decide +kernel
theorem dX5_wrongIn_4 : decode cX5_wrongIn 4 = .ok (.istore 5, 2) := by decide +kernel
theorem dX5_wrongIn_6 : decode cX5_wrongIn 6 = .ok (.iload 5, 2) := by decide +kernel
theorem dX5_wrongIn_8 : decode cX5_wrongIn 8 = .ok (.iload_n 2, 1) := by decide +kernel
theorem dX5_wrongIn_9 : decode cX5_wrongIn 9 = .ok (.iload_n 3, 1) := by decide +kernel
theorem dX5_wrongIn_10 : decode cX5_wrongIn 10 = .ok (.iadd, 1) := by decide +kernel
theorem dX5_wrongIn_11 : decode cX5_wrongIn 11 = .ok (.if_icmp .ge 74, 3) := by decide +kernel
theorem dX5_wrongIn_14 : decode cX5_wrongIn 14 = .ok (.aload_n 0, 1) := by decide +kernel
theorem dX5_wrongIn_15 : decode cX5_wrongIn 15 = .ok (.iload 5, 2) := by decide +kernel
theorem dX5_wrongIn_17 : decode cX5_wrongIn 17 = .ok (.invokevirtual 133, 3) := by decide +kernel
theorem dX5_wrongIn_20 : decode cX5_wrongIn 20 = .ok (.ifCond .eq 41, 3) := by decide +kernel
theorem dX5_wrongIn_23 : decode cX5_wrongIn 23 = .ok (.aload_n 0, 1) := by decide +kernel
theorem dX5_wrongIn_24 : decode cX5_wrongIn 24 = .ok (.getfield 14, 3) := by decide +kernel
theorem dX5_wrongIn_27 : decode cX5_wrongIn 27 = .ok (.iload 5, 2) := by decide +kernel
theorem dX5_wrongIn_29 : decode cX5_wrongIn 29 = .ok (.invokevirtual 129, 3) := by decide +kernel
theorem dX5_wrongIn_32 : decode cX5_wrongIn 32 = .ok (.aload_n 0, 1) := by decide +kernel
theorem dX5_wrongIn_33 : decode cX5_wrongIn 33 = .ok (.getfield 29, 3) := by decide +kernel
theorem dX5_wrongIn_36 : decode cX5_wrongIn 36 = .ok (.iload 5, 2) := by decide +kernel
theorem dX5_wrongIn_38 : decode cX5_wrongIn 38 = .ok (.invokevirtual 129, 3) := by decide +kernel
theorem dX5_wrongIn_41 : decode cX5_wrongIn 41 = .ok (.if_icmp .ne 20, 3) := by decide +kernel
theorem dX5_wrongIn_44 : decode cX5_wrongIn 44 = .ok (.aload_n 0, 1) := by decide +kernel
theorem dX5_wrongIn_45 : decode cX5_wrongIn 45 = .ok (.getfield 20, 3) := by decide +kernel
theorem dX5_wrongIn_48 : decode cX5_wrongIn 48 = .ok (.iload 5, 2) := by decide +kernel
theorem dX5_wrongIn_50 : decode cX5_wrongIn 50 = .ok (.invokevirtual 129, 3) := by decide +kernel
theorem dX5_wrongIn_53 : decode cX5_wrongIn 53 = .ok (.iload_n 1, 1) := by decide +kernel
theorem dX5_wrongIn_54 : decode cX5_wrongIn 54 = .ok (.if_icmp .ne 7, 3) := by decide +kernel
theorem dX5_wrongIn_57 : decode cX5_wrongIn 57 = .ok (.iconst 1, 1) := by decide +kernel
theorem dX5_wrongIn_58 : decode cX5_wrongIn 58 = .ok (.goto 4, 3) := by decide +kernel
theorem dX5_wrongIn_61 : decode cX5_wrongIn 61 = .ok (.iconst 0, 1) := by decide +kernel
theorem dX5_wrongIn_62 : decode cX5_wrongIn 62 = .ok (.istore 6, 2) := by decide +kernel
theorem dX5_wrongIn_64 : decode cX5_wrongIn 64 = .ok (.iload 4, 2) := by decide +kernel
theorem dX5_wrongIn_66 : decode cX5_wrongIn 66 = .ok (.iload 6, 2) := by decide +kernel
theorem dX5_wrongIn_68 : decode cX5_wrongIn 68 = .ok (.ifCond .eq 7, 3) := by decide +kernel
theorem dX5_wrongIn_71 : decode cX5_wrongIn 71 = .ok (.iconst 0, 1) := by decide +kernel
theorem dX5_wrongIn_72 : decode cX5_wrongIn 72 = .ok (.goto 4, 3) := by decide +kernel
theorem dX5_wrongIn_75 : decode cX5_wrongIn 75 = .ok (.iconst 1, 1) := by decide +kernel
theorem dX5_wrongIn_76 : decode cX5_wrongIn 76 = .ok (.iadd, 1) := by decide +kernel
theorem dX5_wrongIn_77 : decode cX5_wrongIn 77 = .ok (.istore 4, 2) := by decide +kernel
theorem dX5_wrongIn_79 : decode cX5_wrongIn 79 = .ok (.iinc 5 1, 3) := by decide +kernel
theorem dX5_wrongIn_82 : decode cX5_wrongIn 82 = .ok (.goto (-76), 3) := by decide +kernel
theorem dX5_wrongIn_85 : decode cX5_wrongIn 85 = .ok (.iload 4, 2) := by decide +kernel
theorem dX5_wrongIn_87 : decode cX5_wrongIn 87 = .ok (.ireturn, 1) := by decide +kernel
def st_X5_wrongIn_6 (N : Nat) (l1 : Int32) (l2 : Int32) (l3 : Int32) (l4 : Int32) (l5 : Int32) (h : Nat → HV) : Option ((Int32 × Int32) ⊕ (Int32)) := (if (l2 + l3) ≤ l5 then some (.inr l4) else (if (F_X5_hasTwig l5 h) = true then (if (rget 40 ((h 0).2 0) l5) = (rget 40 ((h 0).2 4) l5) then (if (rget 40 ((h 0).2 1) l5) = l1 then some (.inl ((l4 + 0), (l5 + 1))) else some (.inl ((l4 + 1), (l5 + 1)))) else some (.inl ((l4 + 1), (l5 + 1)))) else some (.inl ((l4 + 1), (l5 + 1)))))
def F_X5_wrongIn (N : Nat) (a1 : Int32) (a2 : Int32) (a3 : Int32) (h : Nat → HV) : Option (Int32) := (lpN N (fun z => st_X5_wrongIn_6 N a1 a2 a3 z.1 z.2 h) (0, a2))
theorem lp_X5_wrongIn_6 {w : WP} (hW : gW w) {Ω : OM} {j : Nat} (hj : j ≤ 10) {h : Nat → HV} (e : Ω.1 j = h)  (l1 : Int32) (l2 : Int32) (l3 : Int32) {N : Nat} {X : CX} (C : gC w X cX5_wrongIn "HedgeMessages$Hedge" (some .int) 2 7) {v : Int32}  : ∀ (n : Nat) (l4 : Int32) (l5 : Int32), lpN n (fun z : Int32 × Int32 => st_X5_wrongIn_6 N l1 l2 l3 z.1 z.2 h) (l4, l5) = some v → gV w X (some (.int v), cA w Ω) (cA w Ω) 6 [(0, .ref (wAd w (0, j, 0, 0))), (1, .int l1), (2, .int l2), (3, .int l3), (4, .int l4), (5, .int l5)] [] := by
  intro n
  induction n with
  | zero => intro l4 l5 hL; exact lpN_0 hL
  | succ n ih =>
    intro l4 l5 hL
    obtain ⟨q9, hF, hL⟩ := lpN_e hL
    change st_X5_wrongIn_6 N l1 l2 l3 l4 l5 h = some q9 at hF
    unfold st_X5_wrongIn_6 at hF
    refine r_iload C (k := 5) rfl dX5_wrongIn_6 ?_
    refine r_iload_n C (k := 2) rfl rfl dX5_wrongIn_8 ?_
    refine r_iload_n C (k := 3) rfl rfl dX5_wrongIn_9 ?_
    refine r_iadd C dX5_wrongIn_10 ?_
    refine r_icmp_ge C (tgt := 85) rfl dX5_wrongIn_11 (fun hc => ?_) (fun hc => ?_)
    · rw [if_pos hc] at hF
      refine r_iload C (k := 4) rfl dX5_wrongIn_85 ?_
      cases hF
      change some _ = some _ at hL
      cases hL
      exact r_ireturn C dX5_wrongIn_87
    · rw [if_neg hc] at hF
      refine r_aload_n C (k := 0) rfl rfl dX5_wrongIn_14 ?_
      refine r_iload C (k := 5) rfl dX5_wrongIn_15 ?_
      refine r_callV C (d' := 1) [.int l5] (c_X5_hasTwig hW hj e l5 rfl) myX5_hasTwig wm3_236 ⟨_, _, _, _, (hW.ok (k0 hj)), rfl, rfl, rfl, rfl⟩ rfl (kR rfl) (by decide) (kR rfl) rfl dX5_wrongIn_17 ?_
      refine r_if_eq C (tgt := 61) rfl dX5_wrongIn_20 (fun hc => ?_) (fun hc => ?_)
      · rw [if_neg (b2i_f hc)] at hF
        refine r_iconst C (v := 0) rfl dX5_wrongIn_61 ?_
        refine r_istore C (lo' := [(6, .int 0), (0, .ref (wAd w (0, j, 0, 0))), (1, .int l1), (2, .int l2), (3, .int l3), (4, .int l4), (5, .int l5)]) (by decide) rfl dX5_wrongIn_62 ?_
        refine r_iload C (k := 5) rfl dX5_wrongIn_64 ?_
        refine r_iload C (k := 0) rfl dX5_wrongIn_66 ?_
        refine r_if_eq C (tgt := 75) rfl dX5_wrongIn_68 (fun _ => ?_) (fun h => absurd h (by decide))
        refine r_iconst C (v := 1) rfl dX5_wrongIn_75 ?_
        refine r_iadd C dX5_wrongIn_76 ?_
        refine r_istore C (lo' := [(4, .int (l4 + 1)), (6, .int 0), (0, .ref (wAd w (0, j, 0, 0))), (1, .int l1), (2, .int l2), (3, .int l3), (5, .int l5)]) (by decide) rfl dX5_wrongIn_77 ?_
        refine r_iinc C (k := 6) (v := (l5 + 1)) (lo' := [(5, .int (l5 + 1)), (4, .int (l4 + 1)), (6, .int 0), (0, .ref (wAd w (0, j, 0, 0))), (1, .int l1), (2, .int l2), (3, .int l3)]) rfl rfl (by decide) rfl dX5_wrongIn_79 ?_
        refine r_goto C (tgt := 6) rfl dX5_wrongIn_82 ?_
        cases hF
        change lpN n _ _ = some _ at hL
        refine r_lo [3, 4, 5, 6, 1, 0] (lo' := [(0, .ref (wAd w (0, j, 0, 0))), (1, .int l1), (2, .int l2), (3, .int l3), (4, .int (l4 + 1)), (5, .int (l5 + 1))]) rfl ?_
        exact ih (l4 + 1) (l5 + 1) hL
      · rw [if_pos (b2i_t hc)] at hF
        refine r_aload_n C (k := 0) rfl rfl dX5_wrongIn_23 ?_
        refine og_0_8 C (hW.ok (k0 hj)) wm1_146 dX5_wrongIn_24 ?_
        refine r_iload C (k := 5) rfl dX5_wrongIn_27 ?_
        refine r_callV C (d' := 0) [.int l5] (c_rget (hW.ok (i := (3, j, 0, 0)) (q0 hj (kR rfl))) (hW.ok (i := (4, j, 0, 0)) (q0 hj (kR rfl))) (show rlen 0 0 = 40 from rfl) (by decide) (congrArg (fun z => z.2 0) (congrFun e 0)) rfl) myX8_get wm3_163 ⟨_, _, _, _, (hW.ok (i := (3, j, 0, 0)) (q0 hj (kR rfl))), rfl, rfl, rfl, rfl⟩ rfl (kR rfl) (by decide) (kR rfl) rfl dX5_wrongIn_29 ?_
        refine r_aload_n C (k := 0) rfl rfl dX5_wrongIn_32 ?_
        refine og_0_12 C (hW.ok (k0 hj)) wm1_155 dX5_wrongIn_33 ?_
        refine r_iload C (k := 5) rfl dX5_wrongIn_36 ?_
        refine r_callV C (d' := 0) [.int l5] (c_rget (hW.ok (i := (3, j, 0, 4)) (q0 hj (kR rfl))) (hW.ok (i := (4, j, 0, 4)) (q0 hj (kR rfl))) (show rlen 0 4 = 40 from rfl) (by decide) (congrArg (fun z => z.2 4) (congrFun e 0)) rfl) myX8_get wm3_163 ⟨_, _, _, _, (hW.ok (i := (3, j, 0, 4)) (q0 hj (kR rfl))), rfl, rfl, rfl, rfl⟩ rfl (kR rfl) (by decide) (kR rfl) rfl dX5_wrongIn_38 ?_
        refine r_icmp_ne C (tgt := 61) rfl dX5_wrongIn_41 (fun hc => ?_) (fun hc => ?_)
        · rw [if_neg hc] at hF
          refine r_iconst C (v := 0) rfl dX5_wrongIn_61 ?_
          refine r_istore C (lo' := [(6, .int 0), (0, .ref (wAd w (0, j, 0, 0))), (1, .int l1), (2, .int l2), (3, .int l3), (4, .int l4), (5, .int l5)]) (by decide) rfl dX5_wrongIn_62 ?_
          refine r_iload C (k := 5) rfl dX5_wrongIn_64 ?_
          refine r_iload C (k := 0) rfl dX5_wrongIn_66 ?_
          refine r_if_eq C (tgt := 75) rfl dX5_wrongIn_68 (fun _ => ?_) (fun h => absurd h (by decide))
          refine r_iconst C (v := 1) rfl dX5_wrongIn_75 ?_
          refine r_iadd C dX5_wrongIn_76 ?_
          refine r_istore C (lo' := [(4, .int (l4 + 1)), (6, .int 0), (0, .ref (wAd w (0, j, 0, 0))), (1, .int l1), (2, .int l2), (3, .int l3), (5, .int l5)]) (by decide) rfl dX5_wrongIn_77 ?_
          refine r_iinc C (k := 6) (v := (l5 + 1)) (lo' := [(5, .int (l5 + 1)), (4, .int (l4 + 1)), (6, .int 0), (0, .ref (wAd w (0, j, 0, 0))), (1, .int l1), (2, .int l2), (3, .int l3)]) rfl rfl (by decide) rfl dX5_wrongIn_79 ?_
          refine r_goto C (tgt := 6) rfl dX5_wrongIn_82 ?_
          cases hF
          change lpN n _ _ = some _ at hL
          refine r_lo [3, 4, 5, 6, 1, 0] (lo' := [(0, .ref (wAd w (0, j, 0, 0))), (1, .int l1), (2, .int l2), (3, .int l3), (4, .int (l4 + 1)), (5, .int (l5 + 1))]) rfl ?_
          exact ih (l4 + 1) (l5 + 1) hL
        · rw [if_pos hc] at hF
          refine r_aload_n C (k := 0) rfl rfl dX5_wrongIn_44 ?_
          refine og_0_9 C (hW.ok (k0 hj)) wm1_148 dX5_wrongIn_45 ?_
          refine r_iload C (k := 5) rfl dX5_wrongIn_48 ?_
          refine r_callV C (d' := 0) [.int l5] (c_rget (hW.ok (i := (3, j, 0, 1)) (q0 hj (kR rfl))) (hW.ok (i := (4, j, 0, 1)) (q0 hj (kR rfl))) (show rlen 0 1 = 40 from rfl) (by decide) (congrArg (fun z => z.2 1) (congrFun e 0)) rfl) myX8_get wm3_163 ⟨_, _, _, _, (hW.ok (i := (3, j, 0, 1)) (q0 hj (kR rfl))), rfl, rfl, rfl, rfl⟩ rfl (kR rfl) (by decide) (kR rfl) rfl dX5_wrongIn_50 ?_
          refine r_iload_n C (k := 1) rfl rfl dX5_wrongIn_53 ?_
          refine r_icmp_ne C (tgt := 61) rfl dX5_wrongIn_54 (fun hc => ?_) (fun hc => ?_)
          · rw [if_neg hc] at hF
            refine r_iconst C (v := 0) rfl dX5_wrongIn_61 ?_
            refine r_istore C (lo' := [(6, .int 0), (0, .ref (wAd w (0, j, 0, 0))), (1, .int l1), (2, .int l2), (3, .int l3), (4, .int l4), (5, .int l5)]) (by decide) rfl dX5_wrongIn_62 ?_
            refine r_iload C (k := 5) rfl dX5_wrongIn_64 ?_
            refine r_iload C (k := 0) rfl dX5_wrongIn_66 ?_
            refine r_if_eq C (tgt := 75) rfl dX5_wrongIn_68 (fun _ => ?_) (fun h => absurd h (by decide))
            refine r_iconst C (v := 1) rfl dX5_wrongIn_75 ?_
            refine r_iadd C dX5_wrongIn_76 ?_
            refine r_istore C (lo' := [(4, .int (l4 + 1)), (6, .int 0), (0, .ref (wAd w (0, j, 0, 0))), (1, .int l1), (2, .int l2), (3, .int l3), (5, .int l5)]) (by decide) rfl dX5_wrongIn_77 ?_
            refine r_iinc C (k := 6) (v := (l5 + 1)) (lo' := [(5, .int (l5 + 1)), (4, .int (l4 + 1)), (6, .int 0), (0, .ref (wAd w (0, j, 0, 0))), (1, .int l1), (2, .int l2), (3, .int l3)]) rfl rfl (by decide) rfl dX5_wrongIn_79 ?_
            refine r_goto C (tgt := 6) rfl dX5_wrongIn_82 ?_
            cases hF
            change lpN n _ _ = some _ at hL
            refine r_lo [3, 4, 5, 6, 1, 0] (lo' := [(0, .ref (wAd w (0, j, 0, 0))), (1, .int l1), (2, .int l2), (3, .int l3), (4, .int (l4 + 1)), (5, .int (l5 + 1))]) rfl ?_
            exact ih (l4 + 1) (l5 + 1) hL
          · rw [if_pos hc] at hF
            refine r_iconst C (v := 1) rfl dX5_wrongIn_57 ?_
            refine r_goto C (tgt := 62) rfl dX5_wrongIn_58 ?_
            refine r_istore C (lo' := [(6, .int 1), (0, .ref (wAd w (0, j, 0, 0))), (1, .int l1), (2, .int l2), (3, .int l3), (4, .int l4), (5, .int l5)]) (by decide) rfl dX5_wrongIn_62 ?_
            refine r_iload C (k := 5) rfl dX5_wrongIn_64 ?_
            refine r_iload C (k := 0) rfl dX5_wrongIn_66 ?_
            refine r_if_eq C (tgt := 75) rfl dX5_wrongIn_68 (fun h => absurd h (by decide)) (fun _ => ?_)
            refine r_iconst C (v := 0) rfl dX5_wrongIn_71 ?_
            refine r_goto C (tgt := 76) rfl dX5_wrongIn_72 ?_
            refine r_iadd C dX5_wrongIn_76 ?_
            refine r_istore C (lo' := [(4, .int (l4 + 0)), (6, .int 1), (0, .ref (wAd w (0, j, 0, 0))), (1, .int l1), (2, .int l2), (3, .int l3), (5, .int l5)]) (by decide) rfl dX5_wrongIn_77 ?_
            refine r_iinc C (k := 6) (v := (l5 + 1)) (lo' := [(5, .int (l5 + 1)), (4, .int (l4 + 0)), (6, .int 1), (0, .ref (wAd w (0, j, 0, 0))), (1, .int l1), (2, .int l2), (3, .int l3)]) rfl rfl (by decide) rfl dX5_wrongIn_79 ?_
            refine r_goto C (tgt := 6) rfl dX5_wrongIn_82 ?_
            cases hF
            change lpN n _ _ = some _ at hL
            refine r_lo [3, 4, 5, 6, 1, 0] (lo' := [(0, .ref (wAd w (0, j, 0, 0))), (1, .int l1), (2, .int l2), (3, .int l3), (4, .int (l4 + 0)), (5, .int (l5 + 1))]) rfl ?_
            exact ih (l4 + 0) (l5 + 1) hL
theorem c_X5_wrongIn {w : WP} (hW : gW w) {Ω : OM} {j : Nat} (hj : j ≤ 10) {h : Nat → HV} (e : Ω.1 j = h) (N : Nat) (a1 : Int32) (a2 : Int32) (a3 : Int32) {v : Int32} (hF : F_X5_wrongIn N a1 a2 a3 h = some v) : gM w 2 yX5_wrongIn cX5_wrongIn 7 (some .int) [.ref (wAd w (0, j, 0, 0)), .int a1, .int a2, .int a3] (cA w Ω) (some (.int v)) (cA w Ω) := by
  refine gM_of "HedgeMessages$Hedge" rfl (by decide) (kR rfl) fun X C => ?_
  unfold F_X5_wrongIn at hF
  show gV w X _ _ 0 [(0, .ref (wAd w (0, j, 0, 0))), (1, .int a1), (2, .int a2), (3, .int a3)] []
  refine r_iconst C (v := 0) rfl dX5_wrongIn_0 ?_
  refine r_istore C (lo' := [(4, .int 0), (0, .ref (wAd w (0, j, 0, 0))), (1, .int a1), (2, .int a2), (3, .int a3)]) (by decide) rfl dX5_wrongIn_1 ?_
  refine r_iload_n C (k := 3) rfl rfl dX5_wrongIn_3 ?_
  refine r_istore C (lo' := [(5, .int a2), (4, .int 0), (0, .ref (wAd w (0, j, 0, 0))), (1, .int a1), (2, .int a2), (3, .int a3)]) (by decide) rfl dX5_wrongIn_4 ?_
  refine r_lo [2, 3, 4, 5, 1, 0] (lo' := [(0, .ref (wAd w (0, j, 0, 0))), (1, .int a1), (2, .int a2), (3, .int a3), (4, .int 0), (5, .int a2)]) rfl ?_
  exact lp_X5_wrongIn_6 hW hj e a1 a2 a3 C N 0 a2 hF
theorem dX5_countWrongLetters_0 : decode cX5_countWrongLetters 0 = .ok (.aload_n 0, 1) := by decide +kernel
theorem dX5_countWrongLetters_1 : decode cX5_countWrongLetters 1 = .ok (.iconst 0, 1) := by decide +kernel
theorem dX5_countWrongLetters_2 : decode cX5_countWrongLetters 2 = .ok (.aload_n 0, 1) := by decide +kernel
theorem dX5_countWrongLetters_3 : decode cX5_countWrongLetters 3 = .ok (.getfield 35, 3) := by decide +kernel
theorem dX5_countWrongLetters_6 : decode cX5_countWrongLetters 6 = .ok (.getfield 150, 3) := by decide +kernel
theorem dX5_countWrongLetters_9 : decode cX5_countWrongLetters 9 = .ok (.aload_n 0, 1) := by decide +kernel
theorem dX5_countWrongLetters_10 : decode cX5_countWrongLetters 10 = .ok (.getfield 35, 3) := by decide +kernel
theorem dX5_countWrongLetters_13 : decode cX5_countWrongLetters 13 = .ok (.getfield 153, 3) := by decide +kernel
theorem dX5_countWrongLetters_16 : decode cX5_countWrongLetters 16 = .ok (.invokevirtual 156, 3) := by decide +kernel
theorem dX5_countWrongLetters_19 : decode cX5_countWrongLetters 19 = .ok (.aload_n 0, 1) := by decide +kernel
theorem dX5_countWrongLetters_20 : decode cX5_countWrongLetters 20 = .ok (.iconst 1, 1) := by decide +kernel
theorem dX5_countWrongLetters_21 : decode cX5_countWrongLetters 21 = .ok (.aload_n 0, 1) := by decide +kernel
theorem dX5_countWrongLetters_22 : decode cX5_countWrongLetters 22 = .ok (.getfield 39, 3) := by decide +kernel
theorem dX5_countWrongLetters_25 : decode cX5_countWrongLetters 25 = .ok (.getfield 150, 3) := by decide +kernel
theorem dX5_countWrongLetters_28 : decode cX5_countWrongLetters 28 = .ok (.aload_n 0, 1) := by decide +kernel
theorem dX5_countWrongLetters_29 : decode cX5_countWrongLetters 29 = .ok (.getfield 39, 3) := by decide +kernel
theorem dX5_countWrongLetters_32 : decode cX5_countWrongLetters 32 = .ok (.getfield 153, 3) := by decide +kernel
theorem dX5_countWrongLetters_35 : decode cX5_countWrongLetters 35 = .ok (.invokevirtual 156, 3) := by decide +kernel
theorem dX5_countWrongLetters_38 : decode cX5_countWrongLetters 38 = .ok (.iadd, 1) := by decide +kernel
theorem dX5_countWrongLetters_39 : decode cX5_countWrongLetters 39 = .ok (.istore_n 1, 1) := by decide +kernel
theorem dX5_countWrongLetters_40 : decode cX5_countWrongLetters 40 = .ok (.iconst 0, 1) := by decide +kernel
theorem dX5_countWrongLetters_41 : decode cX5_countWrongLetters 41 = .ok (.istore_n 2, 1) := by decide +kernel
theorem dX5_countWrongLetters_42 : decode cX5_countWrongLetters 42 = .ok (.iload_n 2, 1) := by decide +kernel
theorem dX5_countWrongLetters_43 : decode cX5_countWrongLetters 43 = .ok (.aload_n 0, 1) := by decide +kernel
theorem dX5_countWrongLetters_44 : decode cX5_countWrongLetters 44 = .ok (.getfield 45, 3) := by decide +kernel
theorem dX5_countWrongLetters_47 : decode cX5_countWrongLetters 47 = .ok (.getfield 97, 3) := by decide +kernel
theorem dX5_countWrongLetters_50 : decode cX5_countWrongLetters 50 = .ok (.if_icmp .ge 49, 3) := by decide +kernel
theorem dX5_countWrongLetters_53 : decode cX5_countWrongLetters 53 = .ok (.iload_n 1, 1) := by decide +kernel
theorem dX5_countWrongLetters_54 : decode cX5_countWrongLetters 54 = .ok (.aload_n 0, 1) := by decide +kernel
theorem dX5_countWrongLetters_55 : decode cX5_countWrongLetters 55 = .ok (.aload_n 0, 1) := by decide +kernel
theorem dX5_countWrongLetters_56 : decode cX5_countWrongLetters 56 = .ok (.getfield 45, 3) := by decide +kernel
theorem dX5_countWrongLetters_59 : decode cX5_countWrongLetters 59 = .ok (.getfield 160, 3) := by decide +kernel
theorem dX5_countWrongLetters_62 : decode cX5_countWrongLetters 62 = .ok (.iload_n 2, 1) := by decide +kernel
theorem dX5_countWrongLetters_63 : decode cX5_countWrongLetters 63 = .ok (.invokevirtual 129, 3) := by decide +kernel
theorem dX5_countWrongLetters_66 : decode cX5_countWrongLetters 66 = .ok (.aload_n 0, 1) := by decide +kernel
theorem dX5_countWrongLetters_67 : decode cX5_countWrongLetters 67 = .ok (.getfield 45, 3) := by decide +kernel
theorem dX5_countWrongLetters_70 : decode cX5_countWrongLetters 70 = .ok (.getfield 163, 3) := by decide +kernel
theorem dX5_countWrongLetters_73 : decode cX5_countWrongLetters 73 = .ok (.iload_n 2, 1) := by decide +kernel
theorem dX5_countWrongLetters_74 : decode cX5_countWrongLetters 74 = .ok (.invokevirtual 129, 3) := by decide +kernel
theorem dX5_countWrongLetters_77 : decode cX5_countWrongLetters 77 = .ok (.aload_n 0, 1) := by decide +kernel
theorem dX5_countWrongLetters_78 : decode cX5_countWrongLetters 78 = .ok (.getfield 45, 3) := by decide +kernel
theorem dX5_countWrongLetters_81 : decode cX5_countWrongLetters 81 = .ok (.getfield 166, 3) := by decide +kernel
theorem dX5_countWrongLetters_84 : decode cX5_countWrongLetters 84 = .ok (.iload_n 2, 1) := by decide +kernel
theorem dX5_countWrongLetters_85 : decode cX5_countWrongLetters 85 = .ok (.invokevirtual 129, 3) := by decide +kernel
theorem dX5_countWrongLetters_88 : decode cX5_countWrongLetters 88 = .ok (.invokevirtual 156, 3) := by decide +kernel
theorem dX5_countWrongLetters_91 : decode cX5_countWrongLetters 91 = .ok (.iadd, 1) := by decide +kernel
theorem dX5_countWrongLetters_92 : decode cX5_countWrongLetters 92 = .ok (.istore_n 1, 1) := by decide +kernel
theorem dX5_countWrongLetters_93 : decode cX5_countWrongLetters 93 = .ok (.iinc 2 1, 3) := by decide +kernel
theorem dX5_countWrongLetters_96 : decode cX5_countWrongLetters 96 = .ok (.goto (-54), 3) := by decide +kernel
theorem dX5_countWrongLetters_99 : decode cX5_countWrongLetters 99 = .ok (.iload_n 1, 1) := by decide +kernel
theorem dX5_countWrongLetters_100 : decode cX5_countWrongLetters 100 = .ok (.ireturn, 1) := by decide +kernel
def st_X5_countWrongLetters_42 (N : Nat) (l1 : Int32) (l2 : Int32) (h : Nat → HV) : Option ((Int32 × Int32) ⊕ (Int32)) := (if ((h 3).1 3) ≤ l2 then some (.inr l1) else (ob1 (F_X5_wrongIn N (rget 20 ((h 3).2 0) l2) (rget 20 ((h 3).2 1) l2) (rget 20 ((h 3).2 2) l2) h) fun v3 => some (.inl ((l1 + v3), (l2 + 1)))))
def F_X5_countWrongLetters (N : Nat) (h : Nat → HV) : Option (Int32) := (ob1 (F_X5_wrongIn N 0 ((h 1).1 3) ((h 1).1 5) h) fun v1 => (ob1 (F_X5_wrongIn N 1 ((h 2).1 3) ((h 2).1 5) h) fun v2 => (lpN N (fun z => st_X5_countWrongLetters_42 N z.1 z.2 h) ((v1 + v2), 0))))
theorem lp_X5_countWrongLetters_42 {w : WP} (hW : gW w) {Ω : OM} {j : Nat} (hj : j ≤ 10) {h : Nat → HV} (e : Ω.1 j = h)   {N : Nat} {X : CX} (C : gC w X cX5_countWrongLetters "HedgeMessages$Hedge" (some .int) 3 3) {v : Int32}  : ∀ (n : Nat) (l1 : Int32) (l2 : Int32), lpN n (fun z : Int32 × Int32 => st_X5_countWrongLetters_42 N z.1 z.2 h) (l1, l2) = some v → gV w X (some (.int v), cA w Ω) (cA w Ω) 42 [(0, .ref (wAd w (0, j, 0, 0))), (1, .int l1), (2, .int l2)] [] := by
  intro n
  induction n with
  | zero => intro l1 l2 hL; exact lpN_0 hL
  | succ n ih =>
    intro l1 l2 hL
    obtain ⟨q9, hF, hL⟩ := lpN_e hL
    change st_X5_countWrongLetters_42 N l1 l2 h = some q9 at hF
    unfold st_X5_countWrongLetters_42 at hF
    refine r_iload_n C (k := 2) rfl rfl dX5_countWrongLetters_42 ?_
    refine r_aload_n C (k := 0) rfl rfl dX5_countWrongLetters_43 ?_
    refine og_0_15 C (hW.ok (k0 hj)) wm1_160 dX5_countWrongLetters_44 ?_
    refine ogN_2_3 C (hW.ok (k2 hj)) (congrFun e 3) wm1_122 dX5_countWrongLetters_47 ?_
    refine r_icmp_ge C (tgt := 99) rfl dX5_countWrongLetters_50 (fun hc => ?_) (fun hc => ?_)
    · rw [if_pos hc] at hF
      refine r_iload_n C (k := 1) rfl rfl dX5_countWrongLetters_99 ?_
      cases hF
      change some _ = some _ at hL
      cases hL
      exact r_ireturn C dX5_countWrongLetters_100
    · rw [if_neg hc] at hF
      refine r_iload_n C (k := 1) rfl rfl dX5_countWrongLetters_53 ?_
      refine r_aload_n C (k := 0) rfl rfl dX5_countWrongLetters_54 ?_
      refine r_aload_n C (k := 0) rfl rfl dX5_countWrongLetters_55 ?_
      refine og_0_15 C (hW.ok (k0 hj)) wm1_160 dX5_countWrongLetters_56 ?_
      refine ogN_2_0 C (hW.ok (k2 hj)) wm1_116 dX5_countWrongLetters_59 ?_
      refine r_iload_n C (k := 2) rfl rfl dX5_countWrongLetters_62 ?_
      refine r_callV C (d' := 0) [.int l2] (c_rget (hW.ok (i := (3, j, 3, 0)) (q3 hj (kR rfl))) (hW.ok (i := (4, j, 3, 0)) (q3 hj (kR rfl))) (show rlen 3 0 = 20 from rfl) (by decide) (congrArg (fun z => z.2 0) (congrFun e 3)) rfl) myX8_get wm3_163 ⟨_, _, _, _, (hW.ok (i := (3, j, 3, 0)) (q3 hj (kR rfl))), rfl, rfl, rfl, rfl⟩ rfl (kR rfl) (by decide) (kR rfl) rfl dX5_countWrongLetters_63 ?_
      refine r_aload_n C (k := 0) rfl rfl dX5_countWrongLetters_66 ?_
      refine og_0_15 C (hW.ok (k0 hj)) wm1_160 dX5_countWrongLetters_67 ?_
      refine ogN_2_1 C (hW.ok (k2 hj)) wm1_118 dX5_countWrongLetters_70 ?_
      refine r_iload_n C (k := 2) rfl rfl dX5_countWrongLetters_73 ?_
      refine r_callV C (d' := 0) [.int l2] (c_rget (hW.ok (i := (3, j, 3, 1)) (q3 hj (kR rfl))) (hW.ok (i := (4, j, 3, 1)) (q3 hj (kR rfl))) (show rlen 3 1 = 20 from rfl) (by decide) (congrArg (fun z => z.2 1) (congrFun e 3)) rfl) myX8_get wm3_163 ⟨_, _, _, _, (hW.ok (i := (3, j, 3, 1)) (q3 hj (kR rfl))), rfl, rfl, rfl, rfl⟩ rfl (kR rfl) (by decide) (kR rfl) rfl dX5_countWrongLetters_74 ?_
      refine r_aload_n C (k := 0) rfl rfl dX5_countWrongLetters_77 ?_
      refine og_0_15 C (hW.ok (k0 hj)) wm1_160 dX5_countWrongLetters_78 ?_
      refine ogN_2_2 C (hW.ok (k2 hj)) wm1_120 dX5_countWrongLetters_81 ?_
      refine r_iload_n C (k := 2) rfl rfl dX5_countWrongLetters_84 ?_
      refine r_callV C (d' := 0) [.int l2] (c_rget (hW.ok (i := (3, j, 3, 2)) (q3 hj (kR rfl))) (hW.ok (i := (4, j, 3, 2)) (q3 hj (kR rfl))) (show rlen 3 2 = 20 from rfl) (by decide) (congrArg (fun z => z.2 2) (congrFun e 3)) rfl) myX8_get wm3_163 ⟨_, _, _, _, (hW.ok (i := (3, j, 3, 2)) (q3 hj (kR rfl))), rfl, rfl, rfl, rfl⟩ rfl (kR rfl) (by decide) (kR rfl) rfl dX5_countWrongLetters_85 ?_
      obtain ⟨v3, hv3, hF⟩ := ob1_e hF
      refine r_callV C (d' := 2) [.int (rget 20 ((h 3).2 0) l2), .int (rget 20 ((h 3).2 1) l2), .int (rget 20 ((h 3).2 2) l2)] (c_X5_wrongIn hW hj e N (rget 20 ((h 3).2 0) l2) (rget 20 ((h 3).2 1) l2) (rget 20 ((h 3).2 2) l2) hv3) myX5_wrongIn wm5_187 ⟨_, _, _, _, (hW.ok (k0 hj)), rfl, rfl, rfl, rfl⟩ rfl (kR rfl) (by decide) (kR rfl) rfl dX5_countWrongLetters_88 ?_
      refine r_iadd C dX5_countWrongLetters_91 ?_
      refine r_istore_n C (lo' := [(1, .int (l1 + v3)), (0, .ref (wAd w (0, j, 0, 0))), (2, .int l2)]) rfl (by decide) rfl dX5_countWrongLetters_92 ?_
      refine r_iinc C (k := 2) (v := (l2 + 1)) (lo' := [(2, .int (l2 + 1)), (1, .int (l1 + v3)), (0, .ref (wAd w (0, j, 0, 0)))]) rfl rfl (by decide) rfl dX5_countWrongLetters_93 ?_
      refine r_goto C (tgt := 42) rfl dX5_countWrongLetters_96 ?_
      cases hF
      change lpN n _ _ = some _ at hL
      refine r_lo [2, 1, 0] (lo' := [(0, .ref (wAd w (0, j, 0, 0))), (1, .int (l1 + v3)), (2, .int (l2 + 1))]) rfl ?_
      exact ih (l1 + v3) (l2 + 1) hL
theorem c_X5_countWrongLetters {w : WP} (hW : gW w) {Ω : OM} {j : Nat} (hj : j ≤ 10) {h : Nat → HV} (e : Ω.1 j = h) (N : Nat)  {v : Int32} (hF : F_X5_countWrongLetters N h = some v) : gM w 3 yX5_countWrongLetters cX5_countWrongLetters 3 (some .int) [.ref (wAd w (0, j, 0, 0))] (cA w Ω) (some (.int v)) (cA w Ω) := by
  refine gM_of "HedgeMessages$Hedge" rfl (by decide) (kR rfl) fun X C => ?_
  unfold F_X5_countWrongLetters at hF
  show gV w X _ _ 0 [(0, .ref (wAd w (0, j, 0, 0)))] []
  refine r_aload_n C (k := 0) rfl rfl dX5_countWrongLetters_0 ?_
  refine r_iconst C (v := 0) rfl dX5_countWrongLetters_1 ?_
  refine r_aload_n C (k := 0) rfl rfl dX5_countWrongLetters_2 ?_
  refine og_0_13 C (hW.ok (k0 hj)) wm1_156 dX5_countWrongLetters_3 ?_
  refine ogN_1_3 C (hW.ok (k1 hj (Or.inl rfl))) (congrFun e 1) wm1_67 dX5_countWrongLetters_6 ?_
  refine r_aload_n C (k := 0) rfl rfl dX5_countWrongLetters_9 ?_
  refine og_0_13 C (hW.ok (k0 hj)) wm1_156 dX5_countWrongLetters_10 ?_
  refine ogN_1_5 C (hW.ok (k1 hj (Or.inl rfl))) (congrFun e 1) wm1_73 dX5_countWrongLetters_13 ?_
  obtain ⟨v1, hv1, hF⟩ := ob1_e hF
  refine r_callV C (d' := 2) [.int 0, .int ((h 1).1 3), .int ((h 1).1 5)] (c_X5_wrongIn hW hj e N 0 ((h 1).1 3) ((h 1).1 5) hv1) myX5_wrongIn wm5_187 ⟨_, _, _, _, (hW.ok (k0 hj)), rfl, rfl, rfl, rfl⟩ rfl (kR rfl) (by decide) (kR rfl) rfl dX5_countWrongLetters_16 ?_
  refine r_aload_n C (k := 0) rfl rfl dX5_countWrongLetters_19 ?_
  refine r_iconst C (v := 1) rfl dX5_countWrongLetters_20 ?_
  refine r_aload_n C (k := 0) rfl rfl dX5_countWrongLetters_21 ?_
  refine og_0_14 C (hW.ok (k0 hj)) wm1_158 dX5_countWrongLetters_22 ?_
  refine ogN_1_3 C (hW.ok (k1 hj (Or.inr rfl))) (congrFun e 2) wm1_67 dX5_countWrongLetters_25 ?_
  refine r_aload_n C (k := 0) rfl rfl dX5_countWrongLetters_28 ?_
  refine og_0_14 C (hW.ok (k0 hj)) wm1_158 dX5_countWrongLetters_29 ?_
  refine ogN_1_5 C (hW.ok (k1 hj (Or.inr rfl))) (congrFun e 2) wm1_73 dX5_countWrongLetters_32 ?_
  obtain ⟨v2, hv2, hF⟩ := ob1_e hF
  refine r_callV C (d' := 2) [.int 1, .int ((h 2).1 3), .int ((h 2).1 5)] (c_X5_wrongIn hW hj e N 1 ((h 2).1 3) ((h 2).1 5) hv2) myX5_wrongIn wm5_187 ⟨_, _, _, _, (hW.ok (k0 hj)), rfl, rfl, rfl, rfl⟩ rfl (kR rfl) (by decide) (kR rfl) rfl dX5_countWrongLetters_35 ?_
  refine r_iadd C dX5_countWrongLetters_38 ?_
  refine r_istore_n C (lo' := [(1, .int (v1 + v2)), (0, .ref (wAd w (0, j, 0, 0)))]) rfl (by decide) rfl dX5_countWrongLetters_39 ?_
  refine r_iconst C (v := 0) rfl dX5_countWrongLetters_40 ?_
  refine r_istore_n C (lo' := [(2, .int 0), (1, .int (v1 + v2)), (0, .ref (wAd w (0, j, 0, 0)))]) rfl (by decide) rfl dX5_countWrongLetters_41 ?_
  refine r_lo [2, 1, 0] (lo' := [(0, .ref (wAd w (0, j, 0, 0))), (1, .int (v1 + v2)), (2, .int 0)]) rfl ?_
  exact lp_X5_countWrongLetters_42 hW hj e C N (v1 + v2) 0 hF
theorem dX5_reasonNotToPrune_0 : decode cX5_reasonNotToPrune 0 = .ok (.aload_n 0, 1) := by decide +kernel
theorem dX5_reasonNotToPrune_1 : decode cX5_reasonNotToPrune 1 = .ok (.iload_n 1, 1) := by decide +kernel
theorem dX5_reasonNotToPrune_2 : decode cX5_reasonNotToPrune 2 = .ok (.invokevirtual 133, 3) := by decide +kernel
theorem dX5_reasonNotToPrune_5 : decode cX5_reasonNotToPrune 5 = .ok (.ifCond .ne 5, 3) := by decide +kernel
theorem dX5_reasonNotToPrune_8 : decode cX5_reasonNotToPrune 8 = .ok (.iconst 5, 1) := by decide +kernel
theorem dX5_reasonNotToPrune_9 : decode cX5_reasonNotToPrune 9 = .ok (.ireturn, 1) := by decide +kernel
theorem dX5_reasonNotToPrune_10 : decode cX5_reasonNotToPrune 10 = .ok (.aload_n 0, 1) := by decide +kernel
theorem dX5_reasonNotToPrune_11 : decode cX5_reasonNotToPrune 11 = .ok (.getfield 23, 3) := by decide +kernel
theorem dX5_reasonNotToPrune_14 : decode cX5_reasonNotToPrune 14 = .ok (.iload_n 1, 1) := by decide +kernel
theorem dX5_reasonNotToPrune_15 : decode cX5_reasonNotToPrune 15 = .ok (.invokevirtual 129, 3) := by decide +kernel
theorem dX5_reasonNotToPrune_18 : decode cX5_reasonNotToPrune 18 = .ok (.aload_n 0, 1) := by decide +kernel
theorem dX5_reasonNotToPrune_19 : decode cX5_reasonNotToPrune 19 = .ok (.getfield 59, 3) := by decide +kernel
theorem dX5_reasonNotToPrune_22 : decode cX5_reasonNotToPrune 22 = .ok (.if_icmp .gt 6, 3) := by decide +kernel
theorem dX5_reasonNotToPrune_25 : decode cX5_reasonNotToPrune 25 = .ok (.bipush 14, 2) := by decide +kernel
theorem dX5_reasonNotToPrune_27 : decode cX5_reasonNotToPrune 27 = .ok (.ireturn, 1) := by decide +kernel
theorem dX5_reasonNotToPrune_28 : decode cX5_reasonNotToPrune 28 = .ok (.aload_n 0, 1) := by decide +kernel
theorem dX5_reasonNotToPrune_29 : decode cX5_reasonNotToPrune 29 = .ok (.iload_n 1, 1) := by decide +kernel
theorem dX5_reasonNotToPrune_30 : decode cX5_reasonNotToPrune 30 = .ok (.invokevirtual 179, 3) := by decide +kernel
theorem dX5_reasonNotToPrune_33 : decode cX5_reasonNotToPrune 33 = .ok (.ifCond .eq 8, 3) := by decide +kernel
theorem dX5_reasonNotToPrune_36 : decode cX5_reasonNotToPrune 36 = .ok (.bipush 8, 2) := by decide +kernel
theorem dX5_reasonNotToPrune_38 : decode cX5_reasonNotToPrune 38 = .ok (.goto 4, 3) := by decide +kernel
theorem dX5_reasonNotToPrune_41 : decode cX5_reasonNotToPrune 41 = .ok (.iconst 0, 1) := by decide +kernel
theorem dX5_reasonNotToPrune_42 : decode cX5_reasonNotToPrune 42 = .ok (.ireturn, 1) := by decide +kernel
def F_X5_reasonNotToPrune (a1 : Int32) (h : Nat → HV) : Int32 := (if (F_X5_hasTwig a1 h) = true then (if ((h 0).1 3) < (rget 40 ((h 0).2 2) a1) then (if (F_X5_isGuarded a1 h) = true then 8 else 0) else 14) else 5)
theorem c_X5_reasonNotToPrune {w : WP} (hW : gW w) {Ω : OM} {j : Nat} (hj : j ≤ 10) {h : Nat → HV} (e : Ω.1 j = h) (a1 : Int32) {v : Int32} (hF : F_X5_reasonNotToPrune a1 h = v) : gM w 2 yX5_reasonNotToPrune cX5_reasonNotToPrune 2 (some .int) [.ref (wAd w (0, j, 0, 0)), .int a1] (cA w Ω) (some (.int v)) (cA w Ω) := by
  refine gM_of "HedgeMessages$Hedge" rfl (by decide) (kR rfl) fun X C => ?_
  unfold F_X5_reasonNotToPrune at hF
  show gV w X _ _ 0 [(0, .ref (wAd w (0, j, 0, 0))), (1, .int a1)] []
  refine r_aload_n C (k := 0) rfl rfl dX5_reasonNotToPrune_0 ?_
  refine r_iload_n C (k := 1) rfl rfl dX5_reasonNotToPrune_1 ?_
  refine r_callV C (d' := 1) [.int a1] (c_X5_hasTwig hW hj e a1 rfl) myX5_hasTwig wm3_236 ⟨_, _, _, _, (hW.ok (k0 hj)), rfl, rfl, rfl, rfl⟩ rfl (kR rfl) (by decide) (kR rfl) rfl dX5_reasonNotToPrune_2 ?_
  refine r_if_ne C (tgt := 10) rfl dX5_reasonNotToPrune_5 (fun hc => ?_) (fun hc => ?_)
  · rw [if_pos (b2i_t hc)] at hF
    refine r_aload_n C (k := 0) rfl rfl dX5_reasonNotToPrune_10 ?_
    refine og_0_10 C (hW.ok (k0 hj)) wm1_150 dX5_reasonNotToPrune_11 ?_
    refine r_iload_n C (k := 1) rfl rfl dX5_reasonNotToPrune_14 ?_
    refine r_callV C (d' := 0) [.int a1] (c_rget (hW.ok (i := (3, j, 0, 2)) (q0 hj (kR rfl))) (hW.ok (i := (4, j, 0, 2)) (q0 hj (kR rfl))) (show rlen 0 2 = 40 from rfl) (by decide) (congrArg (fun z => z.2 2) (congrFun e 0)) rfl) myX8_get wm3_163 ⟨_, _, _, _, (hW.ok (i := (3, j, 0, 2)) (q0 hj (kR rfl))), rfl, rfl, rfl, rfl⟩ rfl (kR rfl) (by decide) (kR rfl) rfl dX5_reasonNotToPrune_15 ?_
    refine r_aload_n C (k := 0) rfl rfl dX5_reasonNotToPrune_18 ?_
    refine og_0_3 C (hW.ok (k0 hj)) (congrFun e 0) wm1_139 dX5_reasonNotToPrune_19 ?_
    refine r_icmp_gt C (tgt := 28) rfl dX5_reasonNotToPrune_22 (fun hc => ?_) (fun hc => ?_)
    · rw [if_pos hc] at hF
      refine r_aload_n C (k := 0) rfl rfl dX5_reasonNotToPrune_28 ?_
      refine r_iload_n C (k := 1) rfl rfl dX5_reasonNotToPrune_29 ?_
      refine r_callV C (d' := 1) [.int a1] (c_X5_isGuarded hW hj e a1 rfl) myX5_isGuarded wm4_40 ⟨_, _, _, _, (hW.ok (k0 hj)), rfl, rfl, rfl, rfl⟩ rfl (kR rfl) (by decide) (kR rfl) rfl dX5_reasonNotToPrune_30 ?_
      refine r_if_eq C (tgt := 41) rfl dX5_reasonNotToPrune_33 (fun hc => ?_) (fun hc => ?_)
      · rw [if_neg (b2i_f hc)] at hF
        refine r_iconst C (v := 0) rfl dX5_reasonNotToPrune_41 ?_
        cases hF
        exact r_ireturn C dX5_reasonNotToPrune_42
      · rw [if_pos (b2i_t hc)] at hF
        refine r_bipush C (v := 8) rfl dX5_reasonNotToPrune_36 ?_
        refine r_goto C (tgt := 42) rfl dX5_reasonNotToPrune_38 ?_
        cases hF
        exact r_ireturn C dX5_reasonNotToPrune_42
    · rw [if_neg hc] at hF
      refine r_bipush C (v := 14) rfl dX5_reasonNotToPrune_25 ?_
      cases hF
      exact r_ireturn C dX5_reasonNotToPrune_27
  · rw [if_neg (b2i_f hc)] at hF
    refine r_iconst C (v := 5) rfl dX5_reasonNotToPrune_8 ?_
    cases hF
    exact r_ireturn C dX5_reasonNotToPrune_9
theorem dX5_wouldSave_0 : decode cX5_wouldSave 0 = .ok (.aload_n 0, 1) := by decide +kernel
theorem dX5_wouldSave_1 : decode cX5_wouldSave 1 = .ok (.iload_n 1, 1) := by decide +kernel
theorem dX5_wouldSave_2 : decode cX5_wouldSave 2 = .ok (.invokevirtual 173, 3) := by decide +kernel
theorem dX5_wouldSave_5 : decode cX5_wouldSave 5 = .ok (.ifCond .ne 7, 3) := by decide +kernel
theorem dX5_wouldSave_8 : decode cX5_wouldSave 8 = .ok (.iconst 1, 1) := by decide +kernel
theorem dX5_wouldSave_9 : decode cX5_wouldSave 9 = .ok (.goto 4, 3) := by decide +kernel
theorem dX5_wouldSave_12 : decode cX5_wouldSave 12 = .ok (.iconst 0, 1) := by decide +kernel
theorem dX5_wouldSave_13 : decode cX5_wouldSave 13 = .ok (.ireturn, 1) := by decide +kernel
def F_X5_wouldSave (a1 : Int32) (h : Nat → HV) : Int32 := (if (F_X5_reasonNotToPrune a1 h) = 0 then 1 else 0)
theorem c_X5_wouldSave {w : WP} (hW : gW w) {Ω : OM} {j : Nat} (hj : j ≤ 10) {h : Nat → HV} (e : Ω.1 j = h) (a1 : Int32) {v : Int32} (hF : F_X5_wouldSave a1 h = v) : gM w 3 yX5_wouldSave cX5_wouldSave 2 (some .int) [.ref (wAd w (0, j, 0, 0)), .int a1] (cA w Ω) (some (.int v)) (cA w Ω) := by
  refine gM_of "HedgeMessages$Hedge" rfl (by decide) (kR rfl) fun X C => ?_
  unfold F_X5_wouldSave at hF
  show gV w X _ _ 0 [(0, .ref (wAd w (0, j, 0, 0))), (1, .int a1)] []
  refine r_aload_n C (k := 0) rfl rfl dX5_wouldSave_0 ?_
  refine r_iload_n C (k := 1) rfl rfl dX5_wouldSave_1 ?_
  refine r_callV C (d' := 2) [.int a1] (c_X5_reasonNotToPrune hW hj e a1 rfl) myX5_reasonNotToPrune wm4_192 ⟨_, _, _, _, (hW.ok (k0 hj)), rfl, rfl, rfl, rfl⟩ rfl (kR rfl) (by decide) (kR rfl) rfl dX5_wouldSave_2 ?_
  refine r_if_ne C (tgt := 12) rfl dX5_wouldSave_5 (fun hc => ?_) (fun hc => ?_)
  · rw [if_neg hc] at hF
    refine r_iconst C (v := 0) rfl dX5_wouldSave_12 ?_
    cases hF
    exact r_ireturn C dX5_wouldSave_13
  · rw [if_pos hc] at hF
    refine r_iconst C (v := 1) rfl dX5_wouldSave_8 ?_
    refine r_goto C (tgt := 13) rfl dX5_wouldSave_9 ?_
    cases hF
    exact r_ireturn C dX5_wouldSave_13
theorem dX5_bestSlotForNest_0 : decode cX5_bestSlotForNest 0 = .ok (.aload_n 0, 1) := by decide +kernel
theorem dX5_bestSlotForNest_1 : decode cX5_bestSlotForNest 1 = .ok (.invokevirtual 167, 3) := by decide +kernel
theorem dX5_bestSlotForNest_4 : decode cX5_bestSlotForNest 4 = .ok (.bipush 6, 2) := by decide +kernel
theorem dX5_bestSlotForNest_6 : decode cX5_bestSlotForNest 6 = .ok (.if_icmp .lt 5, 3) := by decide +kernel
theorem dX5_bestSlotForNest_9 : decode cX5_bestSlotForNest 9 = .ok (.iconst (-1), 1) := by decide +kernel
theorem dX5_bestSlotForNest_10 : decode cX5_bestSlotForNest 10 = .ok (.ireturn, 1) := by decide +kernel
theorem dX5_bestSlotForNest_11 : decode cX5_bestSlotForNest 11 = .ok (.iconst (-1), 1) := by decide +kernel
theorem dX5_bestSlotForNest_12 : decode cX5_bestSlotForNest 12 = .ok (.istore_n 1, 1) := by decide +kernel
theorem dX5_bestSlotForNest_13 : decode cX5_bestSlotForNest 13 = .ok (.iconst (-1), 1) := by decide +kernel
theorem dX5_bestSlotForNest_14 : decode cX5_bestSlotForNest 14 = .ok (.istore_n 2, 1) := by decide +kernel
theorem dX5_bestSlotForNest_15 : decode cX5_bestSlotForNest 15 = .ok (.iconst 0, 1) := by decide +kernel
theorem dX5_bestSlotForNest_16 : decode cX5_bestSlotForNest 16 = .ok (.istore_n 3, 1) := by decide +kernel
theorem dX5_bestSlotForNest_17 : decode cX5_bestSlotForNest 17 = .ok (.iload_n 3, 1) := by decide +kernel
theorem dX5_bestSlotForNest_18 : decode cX5_bestSlotForNest 18 = .ok (.aload_n 0, 1) := by decide +kernel
theorem dX5_bestSlotForNest_19 : decode cX5_bestSlotForNest 19 = .ok (.getfield 49, 3) := by decide +kernel
theorem dX5_bestSlotForNest_22 : decode cX5_bestSlotForNest 22 = .ok (.if_icmp .ge 54, 3) := by decide +kernel
theorem dX5_bestSlotForNest_25 : decode cX5_bestSlotForNest 25 = .ok (.aload_n 0, 1) := by decide +kernel
theorem dX5_bestSlotForNest_26 : decode cX5_bestSlotForNest 26 = .ok (.iload_n 3, 1) := by decide +kernel
theorem dX5_bestSlotForNest_27 : decode cX5_bestSlotForNest 27 = .ok (.iconst 1, 1) := by decide +kernel
theorem dX5_bestSlotForNest_28 : decode cX5_bestSlotForNest 28 = .ok (.isub, 1) := by decide +kernel
theorem dX5_bestSlotForNest_29 : decode cX5_bestSlotForNest 29 = .ok (.invokevirtual 170, 3) := by decide +kernel
theorem dX5_bestSlotForNest_32 : decode cX5_bestSlotForNest 32 = .ok (.aload_n 0, 1) := by decide +kernel
theorem dX5_bestSlotForNest_33 : decode cX5_bestSlotForNest 33 = .ok (.iload_n 3, 1) := by decide +kernel
theorem dX5_bestSlotForNest_34 : decode cX5_bestSlotForNest 34 = .ok (.invokevirtual 170, 3) := by decide +kernel
theorem dX5_bestSlotForNest_37 : decode cX5_bestSlotForNest 37 = .ok (.iadd, 1) := by decide +kernel
theorem dX5_bestSlotForNest_38 : decode cX5_bestSlotForNest 38 = .ok (.aload_n 0, 1) := by decide +kernel
theorem dX5_bestSlotForNest_39 : decode cX5_bestSlotForNest 39 = .ok (.iload_n 3, 1) := by decide +kernel
theorem dX5_bestSlotForNest_40 : decode cX5_bestSlotForNest 40 = .ok (.iconst 1, 1) := by decide +kernel
theorem dX5_bestSlotForNest_41 : decode cX5_bestSlotForNest 41 = .ok (.iadd, 1) := by decide +kernel
theorem dX5_bestSlotForNest_42 : decode cX5_bestSlotForNest 42 = .ok (.invokevirtual 170, 3) := by decide +kernel
theorem dX5_bestSlotForNest_45 : decode cX5_bestSlotForNest 45 = .ok (.iadd, 1) := by decide +kernel
theorem dX5_bestSlotForNest_46 : decode cX5_bestSlotForNest 46 = .ok (.istore 4, 2) := by decide +kernel
theorem dX5_bestSlotForNest_48 : decode cX5_bestSlotForNest 48 = .ok (.aload_n 0, 1) := by decide +kernel
theorem dX5_bestSlotForNest_49 : decode cX5_bestSlotForNest 49 = .ok (.getfield 26, 3) := by decide +kernel
theorem dX5_bestSlotForNest_52 : decode cX5_bestSlotForNest 52 = .ok (.iload_n 3, 1) := by decide +kernel
theorem dX5_bestSlotForNest_53 : decode cX5_bestSlotForNest 53 = .ok (.invokevirtual 129, 3) := by decide +kernel
theorem dX5_bestSlotForNest_56 : decode cX5_bestSlotForNest 56 = .ok (.ifCond .ne 14, 3) := by decide +kernel
theorem dX5_bestSlotForNest_59 : decode cX5_bestSlotForNest 59 = .ok (.iload 4, 2) := by decide +kernel
theorem dX5_bestSlotForNest_61 : decode cX5_bestSlotForNest 61 = .ok (.iload_n 2, 1) := by decide +kernel
theorem dX5_bestSlotForNest_62 : decode cX5_bestSlotForNest 62 = .ok (.if_icmp .le 8, 3) := by decide +kernel
theorem dX5_bestSlotForNest_65 : decode cX5_bestSlotForNest 65 = .ok (.iload_n 3, 1) := by decide +kernel
theorem dX5_bestSlotForNest_66 : decode cX5_bestSlotForNest 66 = .ok (.istore_n 1, 1) := by decide +kernel
theorem dX5_bestSlotForNest_67 : decode cX5_bestSlotForNest 67 = .ok (.iload 4, 2) := by decide +kernel
theorem dX5_bestSlotForNest_69 : decode cX5_bestSlotForNest 69 = .ok (.istore_n 2, 1) := by decide +kernel
theorem dX5_bestSlotForNest_70 : decode cX5_bestSlotForNest 70 = .ok (.iinc 3 1, 3) := by decide +kernel
theorem dX5_bestSlotForNest_73 : decode cX5_bestSlotForNest 73 = .ok (.goto (-56), 3) := by decide +kernel
theorem dX5_bestSlotForNest_76 : decode cX5_bestSlotForNest 76 = .ok (.iload_n 1, 1) := by decide +kernel
theorem dX5_bestSlotForNest_77 : decode cX5_bestSlotForNest 77 = .ok (.ireturn, 1) := by decide +kernel
def st_X5_bestSlotForNest_17 (N : Nat) (l1 : Int32) (l2 : Int32) (l3 : Int32) (h : Nat → HV) : Option ((Int32 × Int32 × Int32) ⊕ (Int32)) := (if ((h 0).1 0) ≤ l3 then some (.inr l1) else (if (rget 40 ((h 0).2 3) l3) = 0 then (if (((F_X5_wouldSave (l3 - 1) h) + (F_X5_wouldSave l3 h)) + (F_X5_wouldSave (l3 + 1) h)) ≤ l2 then some (.inl (l1, l2, (l3 + 1))) else some (.inl (l3, (((F_X5_wouldSave (l3 - 1) h) + (F_X5_wouldSave l3 h)) + (F_X5_wouldSave (l3 + 1) h)), (l3 + 1)))) else some (.inl (l1, l2, (l3 + 1)))))
def F_X5_bestSlotForNest (N : Nat) (h : Nat → HV) : Option (Int32) := (ob1 (F_X5_countNests N h) fun v1 => (if v1 < 6 then (lpN N (fun z => st_X5_bestSlotForNest_17 N z.1 z.2.1 z.2.2 h) ((-1), (-1), 0)) else some (-1)))
theorem lp_X5_bestSlotForNest_17 {w : WP} (hW : gW w) {Ω : OM} {j : Nat} (hj : j ≤ 10) {h : Nat → HV} (e : Ω.1 j = h)   {N : Nat} {X : CX} (C : gC w X cX5_bestSlotForNest "HedgeMessages$Hedge" (some .int) 4 5) {v : Int32}  : ∀ (n : Nat) (l1 : Int32) (l2 : Int32) (l3 : Int32), lpN n (fun z : Int32 × Int32 × Int32 => st_X5_bestSlotForNest_17 N z.1 z.2.1 z.2.2 h) (l1, l2, l3) = some v → gV w X (some (.int v), cA w Ω) (cA w Ω) 17 [(0, .ref (wAd w (0, j, 0, 0))), (1, .int l1), (2, .int l2), (3, .int l3)] [] := by
  intro n
  induction n with
  | zero => intro l1 l2 l3 hL; exact lpN_0 hL
  | succ n ih =>
    intro l1 l2 l3 hL
    obtain ⟨q9, hF, hL⟩ := lpN_e hL
    change st_X5_bestSlotForNest_17 N l1 l2 l3 h = some q9 at hF
    unfold st_X5_bestSlotForNest_17 at hF
    refine r_iload_n C (k := 3) rfl rfl dX5_bestSlotForNest_17 ?_
    refine r_aload_n C (k := 0) rfl rfl dX5_bestSlotForNest_18 ?_
    refine og_0_0 C (hW.ok (k0 hj)) (congrFun e 0) wm1_133 dX5_bestSlotForNest_19 ?_
    refine r_icmp_ge C (tgt := 76) rfl dX5_bestSlotForNest_22 (fun hc => ?_) (fun hc => ?_)
    · rw [if_pos hc] at hF
      refine r_iload_n C (k := 1) rfl rfl dX5_bestSlotForNest_76 ?_
      cases hF
      change some _ = some _ at hL
      cases hL
      exact r_ireturn C dX5_bestSlotForNest_77
    · rw [if_neg hc] at hF
      refine r_aload_n C (k := 0) rfl rfl dX5_bestSlotForNest_25 ?_
      refine r_iload_n C (k := 3) rfl rfl dX5_bestSlotForNest_26 ?_
      refine r_iconst C (v := 1) rfl dX5_bestSlotForNest_27 ?_
      refine r_isub C dX5_bestSlotForNest_28 ?_
      refine r_callV C (d' := 3) [.int (l3 - 1)] (c_X5_wouldSave hW hj e (l3 - 1) rfl) myX5_wouldSave wm5_229 ⟨_, _, _, _, (hW.ok (k0 hj)), rfl, rfl, rfl, rfl⟩ rfl (kR rfl) (by decide) (kR rfl) rfl dX5_bestSlotForNest_29 ?_
      refine r_aload_n C (k := 0) rfl rfl dX5_bestSlotForNest_32 ?_
      refine r_iload_n C (k := 3) rfl rfl dX5_bestSlotForNest_33 ?_
      refine r_callV C (d' := 3) [.int l3] (c_X5_wouldSave hW hj e l3 rfl) myX5_wouldSave wm5_229 ⟨_, _, _, _, (hW.ok (k0 hj)), rfl, rfl, rfl, rfl⟩ rfl (kR rfl) (by decide) (kR rfl) rfl dX5_bestSlotForNest_34 ?_
      refine r_iadd C dX5_bestSlotForNest_37 ?_
      refine r_aload_n C (k := 0) rfl rfl dX5_bestSlotForNest_38 ?_
      refine r_iload_n C (k := 3) rfl rfl dX5_bestSlotForNest_39 ?_
      refine r_iconst C (v := 1) rfl dX5_bestSlotForNest_40 ?_
      refine r_iadd C dX5_bestSlotForNest_41 ?_
      refine r_callV C (d' := 3) [.int (l3 + 1)] (c_X5_wouldSave hW hj e (l3 + 1) rfl) myX5_wouldSave wm5_229 ⟨_, _, _, _, (hW.ok (k0 hj)), rfl, rfl, rfl, rfl⟩ rfl (kR rfl) (by decide) (kR rfl) rfl dX5_bestSlotForNest_42 ?_
      refine r_iadd C dX5_bestSlotForNest_45 ?_
      refine r_istore C (lo' := [(4, .int (((F_X5_wouldSave (l3 - 1) h) + (F_X5_wouldSave l3 h)) + (F_X5_wouldSave (l3 + 1) h))), (0, .ref (wAd w (0, j, 0, 0))), (1, .int l1), (2, .int l2), (3, .int l3)]) (by decide) rfl dX5_bestSlotForNest_46 ?_
      refine r_aload_n C (k := 1) rfl rfl dX5_bestSlotForNest_48 ?_
      refine og_0_11 C (hW.ok (k0 hj)) wm1_152 dX5_bestSlotForNest_49 ?_
      refine r_iload_n C (k := 4) rfl rfl dX5_bestSlotForNest_52 ?_
      refine r_callV C (d' := 0) [.int l3] (c_rget (hW.ok (i := (3, j, 0, 3)) (q0 hj (kR rfl))) (hW.ok (i := (4, j, 0, 3)) (q0 hj (kR rfl))) (show rlen 0 3 = 40 from rfl) (by decide) (congrArg (fun z => z.2 3) (congrFun e 0)) rfl) myX8_get wm3_163 ⟨_, _, _, _, (hW.ok (i := (3, j, 0, 3)) (q0 hj (kR rfl))), rfl, rfl, rfl, rfl⟩ rfl (kR rfl) (by decide) (kR rfl) rfl dX5_bestSlotForNest_53 ?_
      refine r_if_ne C (tgt := 70) rfl dX5_bestSlotForNest_56 (fun hc => ?_) (fun hc => ?_)
      · rw [if_neg hc] at hF
        refine r_iinc C (k := 4) (v := (l3 + 1)) (lo' := [(3, .int (l3 + 1)), (4, .int (((F_X5_wouldSave (l3 - 1) h) + (F_X5_wouldSave l3 h)) + (F_X5_wouldSave (l3 + 1) h))), (0, .ref (wAd w (0, j, 0, 0))), (1, .int l1), (2, .int l2)]) rfl rfl (by decide) rfl dX5_bestSlotForNest_70 ?_
        refine r_goto C (tgt := 17) rfl dX5_bestSlotForNest_73 ?_
        cases hF
        change lpN n _ _ = some _ at hL
        refine r_lo [2, 3, 4, 0] (lo' := [(0, .ref (wAd w (0, j, 0, 0))), (1, .int l1), (2, .int l2), (3, .int (l3 + 1))]) rfl ?_
        exact ih l1 l2 (l3 + 1) hL
      · rw [if_pos hc] at hF
        refine r_iload C (k := 0) rfl dX5_bestSlotForNest_59 ?_
        refine r_iload_n C (k := 3) rfl rfl dX5_bestSlotForNest_61 ?_
        refine r_icmp_le C (tgt := 70) rfl dX5_bestSlotForNest_62 (fun hc => ?_) (fun hc => ?_)
        · rw [if_pos hc] at hF
          refine r_iinc C (k := 4) (v := (l3 + 1)) (lo' := [(3, .int (l3 + 1)), (4, .int (((F_X5_wouldSave (l3 - 1) h) + (F_X5_wouldSave l3 h)) + (F_X5_wouldSave (l3 + 1) h))), (0, .ref (wAd w (0, j, 0, 0))), (1, .int l1), (2, .int l2)]) rfl rfl (by decide) rfl dX5_bestSlotForNest_70 ?_
          refine r_goto C (tgt := 17) rfl dX5_bestSlotForNest_73 ?_
          cases hF
          change lpN n _ _ = some _ at hL
          refine r_lo [2, 3, 4, 0] (lo' := [(0, .ref (wAd w (0, j, 0, 0))), (1, .int l1), (2, .int l2), (3, .int (l3 + 1))]) rfl ?_
          exact ih l1 l2 (l3 + 1) hL
        · rw [if_neg hc] at hF
          refine r_iload_n C (k := 4) rfl rfl dX5_bestSlotForNest_65 ?_
          refine r_istore_n C (lo' := [(1, .int l3), (4, .int (((F_X5_wouldSave (l3 - 1) h) + (F_X5_wouldSave l3 h)) + (F_X5_wouldSave (l3 + 1) h))), (0, .ref (wAd w (0, j, 0, 0))), (2, .int l2), (3, .int l3)]) rfl (by decide) rfl dX5_bestSlotForNest_66 ?_
          refine r_iload C (k := 1) rfl dX5_bestSlotForNest_67 ?_
          refine r_istore_n C (lo' := [(2, .int (((F_X5_wouldSave (l3 - 1) h) + (F_X5_wouldSave l3 h)) + (F_X5_wouldSave (l3 + 1) h))), (1, .int l3), (4, .int (((F_X5_wouldSave (l3 - 1) h) + (F_X5_wouldSave l3 h)) + (F_X5_wouldSave (l3 + 1) h))), (0, .ref (wAd w (0, j, 0, 0))), (3, .int l3)]) rfl (by decide) rfl dX5_bestSlotForNest_69 ?_
          refine r_iinc C (k := 4) (v := (l3 + 1)) (lo' := [(3, .int (l3 + 1)), (2, .int (((F_X5_wouldSave (l3 - 1) h) + (F_X5_wouldSave l3 h)) + (F_X5_wouldSave (l3 + 1) h))), (1, .int l3), (4, .int (((F_X5_wouldSave (l3 - 1) h) + (F_X5_wouldSave l3 h)) + (F_X5_wouldSave (l3 + 1) h))), (0, .ref (wAd w (0, j, 0, 0)))]) rfl rfl (by decide) rfl dX5_bestSlotForNest_70 ?_
          refine r_goto C (tgt := 17) rfl dX5_bestSlotForNest_73 ?_
          cases hF
          change lpN n _ _ = some _ at hL
          refine r_lo [4, 2, 1, 0] (lo' := [(0, .ref (wAd w (0, j, 0, 0))), (1, .int l3), (2, .int (((F_X5_wouldSave (l3 - 1) h) + (F_X5_wouldSave l3 h)) + (F_X5_wouldSave (l3 + 1) h))), (3, .int (l3 + 1))]) rfl ?_
          exact ih l3 (((F_X5_wouldSave (l3 - 1) h) + (F_X5_wouldSave l3 h)) + (F_X5_wouldSave (l3 + 1) h)) (l3 + 1) hL
theorem c_X5_bestSlotForNest {w : WP} (hW : gW w) {Ω : OM} {j : Nat} (hj : j ≤ 10) {h : Nat → HV} (e : Ω.1 j = h) (N : Nat)  {v : Int32} (hF : F_X5_bestSlotForNest N h = some v) : gM w 4 yX5_bestSlotForNest cX5_bestSlotForNest 5 (some .int) [.ref (wAd w (0, j, 0, 0))] (cA w Ω) (some (.int v)) (cA w Ω) := by
  refine gM_of "HedgeMessages$Hedge" rfl (by decide) (kR rfl) fun X C => ?_
  unfold F_X5_bestSlotForNest at hF
  show gV w X _ _ 0 [(0, .ref (wAd w (0, j, 0, 0)))] []
  refine r_aload_n C (k := 0) rfl rfl dX5_bestSlotForNest_0 ?_
  obtain ⟨v1, hv1, hF⟩ := ob1_e hF
  refine r_callV C (d' := 1) [] (c_X5_countNests hW hj e N hv1) myX5_countNests wm4_77 ⟨_, _, _, _, (hW.ok (k0 hj)), rfl, rfl, rfl, rfl⟩ rfl (kR rfl) (by decide) (kR rfl) rfl dX5_bestSlotForNest_1 ?_
  refine r_bipush C (v := 6) rfl dX5_bestSlotForNest_4 ?_
  refine r_icmp_lt C (tgt := 11) rfl dX5_bestSlotForNest_6 (fun hc => ?_) (fun hc => ?_)
  · rw [if_pos hc] at hF
    refine r_iconst C (v := (-1)) (by decide) dX5_bestSlotForNest_11 ?_
    refine r_istore_n C (lo' := [(1, .int (-1)), (0, .ref (wAd w (0, j, 0, 0)))]) rfl (by decide) rfl dX5_bestSlotForNest_12 ?_
    refine r_iconst C (v := (-1)) (by decide) dX5_bestSlotForNest_13 ?_
    refine r_istore_n C (lo' := [(2, .int (-1)), (1, .int (-1)), (0, .ref (wAd w (0, j, 0, 0)))]) rfl (by decide) rfl dX5_bestSlotForNest_14 ?_
    refine r_iconst C (v := 0) rfl dX5_bestSlotForNest_15 ?_
    refine r_istore_n C (lo' := [(3, .int 0), (2, .int (-1)), (1, .int (-1)), (0, .ref (wAd w (0, j, 0, 0)))]) rfl (by decide) rfl dX5_bestSlotForNest_16 ?_
    refine r_lo [3, 2, 1, 0] (lo' := [(0, .ref (wAd w (0, j, 0, 0))), (1, .int (-1)), (2, .int (-1)), (3, .int 0)]) rfl ?_
    exact lp_X5_bestSlotForNest_17 hW hj e C N (-1) (-1) 0 hF
  · rw [if_neg hc] at hF
    refine r_iconst C (v := (-1)) (by decide) dX5_bestSlotForNest_9 ?_
    cases hF
    exact r_ireturn C dX5_bestSlotForNest_10
theorem dX5_reasonNotToPlant_0 : decode cX5_reasonNotToPlant 0 = .ok (.aload_n 0, 1) := by decide +kernel
theorem dX5_reasonNotToPlant_1 : decode cX5_reasonNotToPlant 1 = .ok (.getfield 71, 3) := by decide +kernel
theorem dX5_reasonNotToPlant_4 : decode cX5_reasonNotToPlant 4 = .ok (.ifCond .gt 5, 3) := by decide +kernel
theorem dX5_reasonNotToPlant_7 : decode cX5_reasonNotToPlant 7 = .ok (.iconst 1, 1) := by decide +kernel
theorem dX5_reasonNotToPlant_8 : decode cX5_reasonNotToPlant 8 = .ok (.ireturn, 1) := by decide +kernel
theorem dX5_reasonNotToPlant_9 : decode cX5_reasonNotToPlant 9 = .ok (.aload_n 0, 1) := by decide +kernel
theorem dX5_reasonNotToPlant_10 : decode cX5_reasonNotToPlant 10 = .ok (.iload_n 1, 1) := by decide +kernel
theorem dX5_reasonNotToPlant_11 : decode cX5_reasonNotToPlant 11 = .ok (.invokevirtual 133, 3) := by decide +kernel
theorem dX5_reasonNotToPlant_14 : decode cX5_reasonNotToPlant 14 = .ok (.ifCond .eq 5, 3) := by decide +kernel
theorem dX5_reasonNotToPlant_17 : decode cX5_reasonNotToPlant 17 = .ok (.iconst 2, 1) := by decide +kernel
theorem dX5_reasonNotToPlant_18 : decode cX5_reasonNotToPlant 18 = .ok (.ireturn, 1) := by decide +kernel
theorem dX5_reasonNotToPlant_19 : decode cX5_reasonNotToPlant 19 = .ok (.aload_n 0, 1) := by decide +kernel
theorem dX5_reasonNotToPlant_20 : decode cX5_reasonNotToPlant 20 = .ok (.iload_n 1, 1) := by decide +kernel
theorem dX5_reasonNotToPlant_21 : decode cX5_reasonNotToPlant 21 = .ok (.invokevirtual 137, 3) := by decide +kernel
theorem dX5_reasonNotToPlant_24 : decode cX5_reasonNotToPlant 24 = .ok (.ifCond .eq 5, 3) := by decide +kernel
theorem dX5_reasonNotToPlant_27 : decode cX5_reasonNotToPlant 27 = .ok (.iconst 3, 1) := by decide +kernel
theorem dX5_reasonNotToPlant_28 : decode cX5_reasonNotToPlant 28 = .ok (.ireturn, 1) := by decide +kernel
theorem dX5_reasonNotToPlant_29 : decode cX5_reasonNotToPlant 29 = .ok (.aload_n 0, 1) := by decide +kernel
theorem dX5_reasonNotToPlant_30 : decode cX5_reasonNotToPlant 30 = .ok (.getfield 26, 3) := by decide +kernel
theorem dX5_reasonNotToPlant_33 : decode cX5_reasonNotToPlant 33 = .ok (.iload_n 1, 1) := by decide +kernel
theorem dX5_reasonNotToPlant_34 : decode cX5_reasonNotToPlant 34 = .ok (.invokevirtual 129, 3) := by decide +kernel
theorem dX5_reasonNotToPlant_37 : decode cX5_reasonNotToPlant 37 = .ok (.ifCond .le 7, 3) := by decide +kernel
theorem dX5_reasonNotToPlant_40 : decode cX5_reasonNotToPlant 40 = .ok (.iconst 4, 1) := by decide +kernel
theorem dX5_reasonNotToPlant_41 : decode cX5_reasonNotToPlant 41 = .ok (.goto 4, 3) := by decide +kernel
theorem dX5_reasonNotToPlant_44 : decode cX5_reasonNotToPlant 44 = .ok (.iconst 0, 1) := by decide +kernel
theorem dX5_reasonNotToPlant_45 : decode cX5_reasonNotToPlant 45 = .ok (.ireturn, 1) := by decide +kernel
def F_X5_reasonNotToPlant (a1 : Int32) (h : Nat → HV) : Int32 := (if 0 < ((h 0).1 7) then (if (F_X5_hasTwig a1 h) = true then 2 else (if (F_X5_isBooked a1 h) = true then 3 else (if (rget 40 ((h 0).2 3) a1) ≤ 0 then 0 else 4))) else 1)
theorem c_X5_reasonNotToPlant {w : WP} (hW : gW w) {Ω : OM} {j : Nat} (hj : j ≤ 10) {h : Nat → HV} (e : Ω.1 j = h) (a1 : Int32) {v : Int32} (hF : F_X5_reasonNotToPlant a1 h = v) : gM w 2 yX5_reasonNotToPlant cX5_reasonNotToPlant 2 (some .int) [.ref (wAd w (0, j, 0, 0)), .int a1] (cA w Ω) (some (.int v)) (cA w Ω) := by
  refine gM_of "HedgeMessages$Hedge" rfl (by decide) (kR rfl) fun X C => ?_
  unfold F_X5_reasonNotToPlant at hF
  show gV w X _ _ 0 [(0, .ref (wAd w (0, j, 0, 0))), (1, .int a1)] []
  refine r_aload_n C (k := 0) rfl rfl dX5_reasonNotToPlant_0 ?_
  refine og_0_7 C (hW.ok (k0 hj)) (congrFun e 0) wm1_144 dX5_reasonNotToPlant_1 ?_
  refine r_if_gt C (tgt := 9) rfl dX5_reasonNotToPlant_4 (fun hc => ?_) (fun hc => ?_)
  · rw [if_pos hc] at hF
    refine r_aload_n C (k := 0) rfl rfl dX5_reasonNotToPlant_9 ?_
    refine r_iload_n C (k := 1) rfl rfl dX5_reasonNotToPlant_10 ?_
    refine r_callV C (d' := 1) [.int a1] (c_X5_hasTwig hW hj e a1 rfl) myX5_hasTwig wm3_236 ⟨_, _, _, _, (hW.ok (k0 hj)), rfl, rfl, rfl, rfl⟩ rfl (kR rfl) (by decide) (kR rfl) rfl dX5_reasonNotToPlant_11 ?_
    refine r_if_eq C (tgt := 19) rfl dX5_reasonNotToPlant_14 (fun hc => ?_) (fun hc => ?_)
    · rw [if_neg (b2i_f hc)] at hF
      refine r_aload_n C (k := 0) rfl rfl dX5_reasonNotToPlant_19 ?_
      refine r_iload_n C (k := 1) rfl rfl dX5_reasonNotToPlant_20 ?_
      refine r_callV C (d' := 1) [.int a1] (c_X5_isBooked hW hj e a1 rfl) myX5_isBooked wm3_237 ⟨_, _, _, _, (hW.ok (k0 hj)), rfl, rfl, rfl, rfl⟩ rfl (kR rfl) (by decide) (kR rfl) rfl dX5_reasonNotToPlant_21 ?_
      refine r_if_eq C (tgt := 29) rfl dX5_reasonNotToPlant_24 (fun hc => ?_) (fun hc => ?_)
      · rw [if_neg (b2i_f hc)] at hF
        refine r_aload_n C (k := 0) rfl rfl dX5_reasonNotToPlant_29 ?_
        refine og_0_11 C (hW.ok (k0 hj)) wm1_152 dX5_reasonNotToPlant_30 ?_
        refine r_iload_n C (k := 1) rfl rfl dX5_reasonNotToPlant_33 ?_
        refine r_callV C (d' := 0) [.int a1] (c_rget (hW.ok (i := (3, j, 0, 3)) (q0 hj (kR rfl))) (hW.ok (i := (4, j, 0, 3)) (q0 hj (kR rfl))) (show rlen 0 3 = 40 from rfl) (by decide) (congrArg (fun z => z.2 3) (congrFun e 0)) rfl) myX8_get wm3_163 ⟨_, _, _, _, (hW.ok (i := (3, j, 0, 3)) (q0 hj (kR rfl))), rfl, rfl, rfl, rfl⟩ rfl (kR rfl) (by decide) (kR rfl) rfl dX5_reasonNotToPlant_34 ?_
        refine r_if_le C (tgt := 44) rfl dX5_reasonNotToPlant_37 (fun hc => ?_) (fun hc => ?_)
        · rw [if_pos hc] at hF
          refine r_iconst C (v := 0) rfl dX5_reasonNotToPlant_44 ?_
          cases hF
          exact r_ireturn C dX5_reasonNotToPlant_45
        · rw [if_neg hc] at hF
          refine r_iconst C (v := 4) rfl dX5_reasonNotToPlant_40 ?_
          refine r_goto C (tgt := 45) rfl dX5_reasonNotToPlant_41 ?_
          cases hF
          exact r_ireturn C dX5_reasonNotToPlant_45
      · rw [if_pos (b2i_t hc)] at hF
        refine r_iconst C (v := 3) rfl dX5_reasonNotToPlant_27 ?_
        cases hF
        exact r_ireturn C dX5_reasonNotToPlant_28
    · rw [if_pos (b2i_t hc)] at hF
      refine r_iconst C (v := 2) rfl dX5_reasonNotToPlant_17 ?_
      cases hF
      exact r_ireturn C dX5_reasonNotToPlant_18
  · rw [if_neg hc] at hF
    refine r_iconst C (v := 1) rfl dX5_reasonNotToPlant_7 ?_
    cases hF
    exact r_ireturn C dX5_reasonNotToPlant_8
theorem dX5_reasonNotToTouch_0 : decode cX5_reasonNotToTouch 0 = .ok (.aload_n 0, 1) := by decide +kernel
theorem dX5_reasonNotToTouch_1 : decode cX5_reasonNotToTouch 1 = .ok (.getfield 71, 3) := by decide +kernel
theorem dX5_reasonNotToTouch_4 : decode cX5_reasonNotToTouch 4 = .ok (.ifCond .gt 5, 3) := by decide +kernel
theorem dX5_reasonNotToTouch_7 : decode cX5_reasonNotToTouch 7 = .ok (.iconst 1, 1) := by decide +kernel
theorem dX5_reasonNotToTouch_8 : decode cX5_reasonNotToTouch 8 = .ok (.ireturn, 1) := by decide +kernel
theorem dX5_reasonNotToTouch_9 : decode cX5_reasonNotToTouch 9 = .ok (.aload_n 0, 1) := by decide +kernel
theorem dX5_reasonNotToTouch_10 : decode cX5_reasonNotToTouch 10 = .ok (.getfield 23, 3) := by decide +kernel
theorem dX5_reasonNotToTouch_13 : decode cX5_reasonNotToTouch 13 = .ok (.iload_n 1, 1) := by decide +kernel
theorem dX5_reasonNotToTouch_14 : decode cX5_reasonNotToTouch 14 = .ok (.invokevirtual 129, 3) := by decide +kernel
theorem dX5_reasonNotToTouch_17 : decode cX5_reasonNotToTouch 17 = .ok (.ifCond .ne 5, 3) := by decide +kernel
theorem dX5_reasonNotToTouch_20 : decode cX5_reasonNotToTouch 20 = .ok (.iconst 5, 1) := by decide +kernel
theorem dX5_reasonNotToTouch_21 : decode cX5_reasonNotToTouch 21 = .ok (.ireturn, 1) := by decide +kernel
theorem dX5_reasonNotToTouch_22 : decode cX5_reasonNotToTouch 22 = .ok (.aload_n 0, 1) := by decide +kernel
theorem dX5_reasonNotToTouch_23 : decode cX5_reasonNotToTouch 23 = .ok (.getfield 20, 3) := by decide +kernel
theorem dX5_reasonNotToTouch_26 : decode cX5_reasonNotToTouch 26 = .ok (.iload_n 1, 1) := by decide +kernel
theorem dX5_reasonNotToTouch_27 : decode cX5_reasonNotToTouch 27 = .ok (.invokevirtual 129, 3) := by decide +kernel
theorem dX5_reasonNotToTouch_30 : decode cX5_reasonNotToTouch 30 = .ok (.aload_n 0, 1) := by decide +kernel
theorem dX5_reasonNotToTouch_31 : decode cX5_reasonNotToTouch 31 = .ok (.invokevirtual 182, 3) := by decide +kernel
theorem dX5_reasonNotToTouch_34 : decode cX5_reasonNotToTouch 34 = .ok (.if_icmp .ne 7, 3) := by decide +kernel
theorem dX5_reasonNotToTouch_37 : decode cX5_reasonNotToTouch 37 = .ok (.iconst 0, 1) := by decide +kernel
theorem dX5_reasonNotToTouch_38 : decode cX5_reasonNotToTouch 38 = .ok (.goto 5, 3) := by decide +kernel
theorem dX5_reasonNotToTouch_41 : decode cX5_reasonNotToTouch 41 = .ok (.bipush 6, 2) := by decide +kernel
theorem dX5_reasonNotToTouch_43 : decode cX5_reasonNotToTouch 43 = .ok (.ireturn, 1) := by decide +kernel
def F_X5_reasonNotToTouch (a1 : Int32) (h : Nat → HV) : Int32 := (if 0 < ((h 0).1 7) then (if (rget 40 ((h 0).2 2) a1) = 0 then 5 else (if (rget 40 ((h 0).2 1) a1) = (F_X5_active h) then 0 else 6)) else 1)
theorem c_X5_reasonNotToTouch {w : WP} (hW : gW w) {Ω : OM} {j : Nat} (hj : j ≤ 10) {h : Nat → HV} (e : Ω.1 j = h) (a1 : Int32) {v : Int32} (hF : F_X5_reasonNotToTouch a1 h = v) : gM w 1 yX5_reasonNotToTouch cX5_reasonNotToTouch 2 (some .int) [.ref (wAd w (0, j, 0, 0)), .int a1] (cA w Ω) (some (.int v)) (cA w Ω) := by
  refine gM_of "HedgeMessages$Hedge" rfl (by decide) (kR rfl) fun X C => ?_
  unfold F_X5_reasonNotToTouch at hF
  show gV w X _ _ 0 [(0, .ref (wAd w (0, j, 0, 0))), (1, .int a1)] []
  refine r_aload_n C (k := 0) rfl rfl dX5_reasonNotToTouch_0 ?_
  refine og_0_7 C (hW.ok (k0 hj)) (congrFun e 0) wm1_144 dX5_reasonNotToTouch_1 ?_
  refine r_if_gt C (tgt := 9) rfl dX5_reasonNotToTouch_4 (fun hc => ?_) (fun hc => ?_)
  · rw [if_pos hc] at hF
    refine r_aload_n C (k := 0) rfl rfl dX5_reasonNotToTouch_9 ?_
    refine og_0_10 C (hW.ok (k0 hj)) wm1_150 dX5_reasonNotToTouch_10 ?_
    refine r_iload_n C (k := 1) rfl rfl dX5_reasonNotToTouch_13 ?_
    refine r_callV C (d' := 0) [.int a1] (c_rget (hW.ok (i := (3, j, 0, 2)) (q0 hj (kR rfl))) (hW.ok (i := (4, j, 0, 2)) (q0 hj (kR rfl))) (show rlen 0 2 = 40 from rfl) (by decide) (congrArg (fun z => z.2 2) (congrFun e 0)) rfl) myX8_get wm3_163 ⟨_, _, _, _, (hW.ok (i := (3, j, 0, 2)) (q0 hj (kR rfl))), rfl, rfl, rfl, rfl⟩ rfl (kR rfl) (by decide) (kR rfl) rfl dX5_reasonNotToTouch_14 ?_
    refine r_if_ne C (tgt := 22) rfl dX5_reasonNotToTouch_17 (fun hc => ?_) (fun hc => ?_)
    · rw [if_neg hc] at hF
      refine r_aload_n C (k := 0) rfl rfl dX5_reasonNotToTouch_22 ?_
      refine og_0_9 C (hW.ok (k0 hj)) wm1_148 dX5_reasonNotToTouch_23 ?_
      refine r_iload_n C (k := 1) rfl rfl dX5_reasonNotToTouch_26 ?_
      refine r_callV C (d' := 0) [.int a1] (c_rget (hW.ok (i := (3, j, 0, 1)) (q0 hj (kR rfl))) (hW.ok (i := (4, j, 0, 1)) (q0 hj (kR rfl))) (show rlen 0 1 = 40 from rfl) (by decide) (congrArg (fun z => z.2 1) (congrFun e 0)) rfl) myX8_get wm3_163 ⟨_, _, _, _, (hW.ok (i := (3, j, 0, 1)) (q0 hj (kR rfl))), rfl, rfl, rfl, rfl⟩ rfl (kR rfl) (by decide) (kR rfl) rfl dX5_reasonNotToTouch_27 ?_
      refine r_aload_n C (k := 0) rfl rfl dX5_reasonNotToTouch_30 ?_
      refine r_callV C (d' := 0) [] (c_X5_active hW hj e rfl) myX5_active wm4_15 ⟨_, _, _, _, (hW.ok (k0 hj)), rfl, rfl, rfl, rfl⟩ rfl (kR rfl) (by decide) (kR rfl) rfl dX5_reasonNotToTouch_31 ?_
      refine r_icmp_ne C (tgt := 41) rfl dX5_reasonNotToTouch_34 (fun hc => ?_) (fun hc => ?_)
      · rw [if_neg hc] at hF
        refine r_bipush C (v := 6) rfl dX5_reasonNotToTouch_41 ?_
        cases hF
        exact r_ireturn C dX5_reasonNotToTouch_43
      · rw [if_pos hc] at hF
        refine r_iconst C (v := 0) rfl dX5_reasonNotToTouch_37 ?_
        refine r_goto C (tgt := 43) rfl dX5_reasonNotToTouch_38 ?_
        cases hF
        exact r_ireturn C dX5_reasonNotToTouch_43
    · rw [if_pos hc] at hF
      refine r_iconst C (v := 5) rfl dX5_reasonNotToTouch_20 ?_
      cases hF
      exact r_ireturn C dX5_reasonNotToTouch_21
  · rw [if_neg hc] at hF
    refine r_iconst C (v := 1) rfl dX5_reasonNotToTouch_7 ?_
    cases hF
    exact r_ireturn C dX5_reasonNotToTouch_8
theorem dX5_reasonNotToRemove_0 : decode cX5_reasonNotToRemove 0 = .ok (.aload_n 0, 1) := by decide +kernel
theorem dX5_reasonNotToRemove_1 : decode cX5_reasonNotToRemove 1 = .ok (.iload_n 1, 1) := by decide +kernel
theorem dX5_reasonNotToRemove_2 : decode cX5_reasonNotToRemove 2 = .ok (.invokevirtual 176, 3) := by decide +kernel
theorem dX5_reasonNotToRemove_5 : decode cX5_reasonNotToRemove 5 = .ok (.istore_n 2, 1) := by decide +kernel
theorem dX5_reasonNotToRemove_6 : decode cX5_reasonNotToRemove 6 = .ok (.iload_n 2, 1) := by decide +kernel
theorem dX5_reasonNotToRemove_7 : decode cX5_reasonNotToRemove 7 = .ok (.ifCond .eq 5, 3) := by decide +kernel
theorem dX5_reasonNotToRemove_10 : decode cX5_reasonNotToRemove 10 = .ok (.iload_n 2, 1) := by decide +kernel
theorem dX5_reasonNotToRemove_11 : decode cX5_reasonNotToRemove 11 = .ok (.ireturn, 1) := by decide +kernel
theorem dX5_reasonNotToRemove_12 : decode cX5_reasonNotToRemove 12 = .ok (.aload_n 0, 1) := by decide +kernel
theorem dX5_reasonNotToRemove_13 : decode cX5_reasonNotToRemove 13 = .ok (.iload_n 1, 1) := by decide +kernel
theorem dX5_reasonNotToRemove_14 : decode cX5_reasonNotToRemove 14 = .ok (.invokevirtual 137, 3) := by decide +kernel
theorem dX5_reasonNotToRemove_17 : decode cX5_reasonNotToRemove 17 = .ok (.ifCond .eq 6, 3) := by decide +kernel
theorem dX5_reasonNotToRemove_20 : decode cX5_reasonNotToRemove 20 = .ok (.bipush 7, 2) := by decide +kernel
theorem dX5_reasonNotToRemove_22 : decode cX5_reasonNotToRemove 22 = .ok (.ireturn, 1) := by decide +kernel
theorem dX5_reasonNotToRemove_23 : decode cX5_reasonNotToRemove 23 = .ok (.aload_n 0, 1) := by decide +kernel
theorem dX5_reasonNotToRemove_24 : decode cX5_reasonNotToRemove 24 = .ok (.iload_n 1, 1) := by decide +kernel
theorem dX5_reasonNotToRemove_25 : decode cX5_reasonNotToRemove 25 = .ok (.invokevirtual 179, 3) := by decide +kernel
theorem dX5_reasonNotToRemove_28 : decode cX5_reasonNotToRemove 28 = .ok (.ifCond .eq 8, 3) := by decide +kernel
theorem dX5_reasonNotToRemove_31 : decode cX5_reasonNotToRemove 31 = .ok (.bipush 8, 2) := by decide +kernel
theorem dX5_reasonNotToRemove_33 : decode cX5_reasonNotToRemove 33 = .ok (.goto 4, 3) := by decide +kernel
theorem dX5_reasonNotToRemove_36 : decode cX5_reasonNotToRemove 36 = .ok (.iconst 0, 1) := by decide +kernel
theorem dX5_reasonNotToRemove_37 : decode cX5_reasonNotToRemove 37 = .ok (.ireturn, 1) := by decide +kernel
def F_X5_reasonNotToRemove (a1 : Int32) (h : Nat → HV) : Int32 := (if (F_X5_reasonNotToTouch a1 h) = 0 then (if (F_X5_isBooked a1 h) = true then 7 else (if (F_X5_isGuarded a1 h) = true then 8 else 0)) else (F_X5_reasonNotToTouch a1 h))
theorem c_X5_reasonNotToRemove {w : WP} (hW : gW w) {Ω : OM} {j : Nat} (hj : j ≤ 10) {h : Nat → HV} (e : Ω.1 j = h) (a1 : Int32) {v : Int32} (hF : F_X5_reasonNotToRemove a1 h = v) : gM w 2 yX5_reasonNotToRemove cX5_reasonNotToRemove 3 (some .int) [.ref (wAd w (0, j, 0, 0)), .int a1] (cA w Ω) (some (.int v)) (cA w Ω) := by
  refine gM_of "HedgeMessages$Hedge" rfl (by decide) (kR rfl) fun X C => ?_
  unfold F_X5_reasonNotToRemove at hF
  show gV w X _ _ 0 [(0, .ref (wAd w (0, j, 0, 0))), (1, .int a1)] []
  refine r_aload_n C (k := 0) rfl rfl dX5_reasonNotToRemove_0 ?_
  refine r_iload_n C (k := 1) rfl rfl dX5_reasonNotToRemove_1 ?_
  refine r_callV C (d' := 1) [.int a1] (c_X5_reasonNotToTouch hW hj e a1 rfl) myX5_reasonNotToTouch wm4_36 ⟨_, _, _, _, (hW.ok (k0 hj)), rfl, rfl, rfl, rfl⟩ rfl (kR rfl) (by decide) (kR rfl) rfl dX5_reasonNotToRemove_2 ?_
  refine r_istore_n C (lo' := [(2, .int (F_X5_reasonNotToTouch a1 h)), (0, .ref (wAd w (0, j, 0, 0))), (1, .int a1)]) rfl (by decide) rfl dX5_reasonNotToRemove_5 ?_
  refine r_iload_n C (k := 0) rfl rfl dX5_reasonNotToRemove_6 ?_
  refine r_if_eq C (tgt := 12) rfl dX5_reasonNotToRemove_7 (fun hc => ?_) (fun hc => ?_)
  · rw [if_pos hc] at hF
    refine r_aload_n C (k := 1) rfl rfl dX5_reasonNotToRemove_12 ?_
    refine r_iload_n C (k := 2) rfl rfl dX5_reasonNotToRemove_13 ?_
    refine r_callV C (d' := 1) [.int a1] (c_X5_isBooked hW hj e a1 rfl) myX5_isBooked wm3_237 ⟨_, _, _, _, (hW.ok (k0 hj)), rfl, rfl, rfl, rfl⟩ rfl (kR rfl) (by decide) (kR rfl) rfl dX5_reasonNotToRemove_14 ?_
    refine r_if_eq C (tgt := 23) rfl dX5_reasonNotToRemove_17 (fun hc => ?_) (fun hc => ?_)
    · rw [if_neg (b2i_f hc)] at hF
      refine r_aload_n C (k := 1) rfl rfl dX5_reasonNotToRemove_23 ?_
      refine r_iload_n C (k := 2) rfl rfl dX5_reasonNotToRemove_24 ?_
      refine r_callV C (d' := 1) [.int a1] (c_X5_isGuarded hW hj e a1 rfl) myX5_isGuarded wm4_40 ⟨_, _, _, _, (hW.ok (k0 hj)), rfl, rfl, rfl, rfl⟩ rfl (kR rfl) (by decide) (kR rfl) rfl dX5_reasonNotToRemove_25 ?_
      refine r_if_eq C (tgt := 36) rfl dX5_reasonNotToRemove_28 (fun hc => ?_) (fun hc => ?_)
      · rw [if_neg (b2i_f hc)] at hF
        refine r_iconst C (v := 0) rfl dX5_reasonNotToRemove_36 ?_
        cases hF
        exact r_ireturn C dX5_reasonNotToRemove_37
      · rw [if_pos (b2i_t hc)] at hF
        refine r_bipush C (v := 8) rfl dX5_reasonNotToRemove_31 ?_
        refine r_goto C (tgt := 37) rfl dX5_reasonNotToRemove_33 ?_
        cases hF
        exact r_ireturn C dX5_reasonNotToRemove_37
    · rw [if_pos (b2i_t hc)] at hF
      refine r_bipush C (v := 7) rfl dX5_reasonNotToRemove_20 ?_
      cases hF
      exact r_ireturn C dX5_reasonNotToRemove_22
  · rw [if_neg hc] at hF
    refine r_iload_n C (k := 0) rfl rfl dX5_reasonNotToRemove_10 ?_
    cases hF
    exact r_ireturn C dX5_reasonNotToRemove_11
theorem dX5_reasonNotToTrim_0 : decode cX5_reasonNotToTrim 0 = .ok (.aload_n 0, 1) := by decide +kernel
theorem dX5_reasonNotToTrim_1 : decode cX5_reasonNotToTrim 1 = .ok (.iload_n 1, 1) := by decide +kernel
theorem dX5_reasonNotToTrim_2 : decode cX5_reasonNotToTrim 2 = .ok (.invokevirtual 176, 3) := by decide +kernel
theorem dX5_reasonNotToTrim_5 : decode cX5_reasonNotToTrim 5 = .ok (.istore_n 2, 1) := by decide +kernel
theorem dX5_reasonNotToTrim_6 : decode cX5_reasonNotToTrim 6 = .ok (.iload_n 2, 1) := by decide +kernel
theorem dX5_reasonNotToTrim_7 : decode cX5_reasonNotToTrim 7 = .ok (.ifCond .eq 5, 3) := by decide +kernel
theorem dX5_reasonNotToTrim_10 : decode cX5_reasonNotToTrim 10 = .ok (.iload_n 2, 1) := by decide +kernel
theorem dX5_reasonNotToTrim_11 : decode cX5_reasonNotToTrim 11 = .ok (.ireturn, 1) := by decide +kernel
theorem dX5_reasonNotToTrim_12 : decode cX5_reasonNotToTrim 12 = .ok (.aload_n 0, 1) := by decide +kernel
theorem dX5_reasonNotToTrim_13 : decode cX5_reasonNotToTrim 13 = .ok (.iload_n 1, 1) := by decide +kernel
theorem dX5_reasonNotToTrim_14 : decode cX5_reasonNotToTrim 14 = .ok (.invokevirtual 179, 3) := by decide +kernel
theorem dX5_reasonNotToTrim_17 : decode cX5_reasonNotToTrim 17 = .ok (.ifCond .eq 8, 3) := by decide +kernel
theorem dX5_reasonNotToTrim_20 : decode cX5_reasonNotToTrim 20 = .ok (.bipush 8, 2) := by decide +kernel
theorem dX5_reasonNotToTrim_22 : decode cX5_reasonNotToTrim 22 = .ok (.goto 4, 3) := by decide +kernel
theorem dX5_reasonNotToTrim_25 : decode cX5_reasonNotToTrim 25 = .ok (.iconst 0, 1) := by decide +kernel
theorem dX5_reasonNotToTrim_26 : decode cX5_reasonNotToTrim 26 = .ok (.ireturn, 1) := by decide +kernel
def F_X5_reasonNotToTrim (a1 : Int32) (h : Nat → HV) : Int32 := (if (F_X5_reasonNotToTouch a1 h) = 0 then (if (F_X5_isGuarded a1 h) = true then 8 else 0) else (F_X5_reasonNotToTouch a1 h))
theorem c_X5_reasonNotToTrim {w : WP} (hW : gW w) {Ω : OM} {j : Nat} (hj : j ≤ 10) {h : Nat → HV} (e : Ω.1 j = h) (a1 : Int32) {v : Int32} (hF : F_X5_reasonNotToTrim a1 h = v) : gM w 2 yX5_reasonNotToTrim cX5_reasonNotToTrim 3 (some .int) [.ref (wAd w (0, j, 0, 0)), .int a1] (cA w Ω) (some (.int v)) (cA w Ω) := by
  refine gM_of "HedgeMessages$Hedge" rfl (by decide) (kR rfl) fun X C => ?_
  unfold F_X5_reasonNotToTrim at hF
  show gV w X _ _ 0 [(0, .ref (wAd w (0, j, 0, 0))), (1, .int a1)] []
  refine r_aload_n C (k := 0) rfl rfl dX5_reasonNotToTrim_0 ?_
  refine r_iload_n C (k := 1) rfl rfl dX5_reasonNotToTrim_1 ?_
  refine r_callV C (d' := 1) [.int a1] (c_X5_reasonNotToTouch hW hj e a1 rfl) myX5_reasonNotToTouch wm4_36 ⟨_, _, _, _, (hW.ok (k0 hj)), rfl, rfl, rfl, rfl⟩ rfl (kR rfl) (by decide) (kR rfl) rfl dX5_reasonNotToTrim_2 ?_
  refine r_istore_n C (lo' := [(2, .int (F_X5_reasonNotToTouch a1 h)), (0, .ref (wAd w (0, j, 0, 0))), (1, .int a1)]) rfl (by decide) rfl dX5_reasonNotToTrim_5 ?_
  refine r_iload_n C (k := 0) rfl rfl dX5_reasonNotToTrim_6 ?_
  refine r_if_eq C (tgt := 12) rfl dX5_reasonNotToTrim_7 (fun hc => ?_) (fun hc => ?_)
  · rw [if_pos hc] at hF
    refine r_aload_n C (k := 1) rfl rfl dX5_reasonNotToTrim_12 ?_
    refine r_iload_n C (k := 2) rfl rfl dX5_reasonNotToTrim_13 ?_
    refine r_callV C (d' := 1) [.int a1] (c_X5_isGuarded hW hj e a1 rfl) myX5_isGuarded wm4_40 ⟨_, _, _, _, (hW.ok (k0 hj)), rfl, rfl, rfl, rfl⟩ rfl (kR rfl) (by decide) (kR rfl) rfl dX5_reasonNotToTrim_14 ?_
    refine r_if_eq C (tgt := 25) rfl dX5_reasonNotToTrim_17 (fun hc => ?_) (fun hc => ?_)
    · rw [if_neg (b2i_f hc)] at hF
      refine r_iconst C (v := 0) rfl dX5_reasonNotToTrim_25 ?_
      cases hF
      exact r_ireturn C dX5_reasonNotToTrim_26
    · rw [if_pos (b2i_t hc)] at hF
      refine r_bipush C (v := 8) rfl dX5_reasonNotToTrim_20 ?_
      refine r_goto C (tgt := 26) rfl dX5_reasonNotToTrim_22 ?_
      cases hF
      exact r_ireturn C dX5_reasonNotToTrim_26
  · rw [if_neg hc] at hF
    refine r_iload_n C (k := 0) rfl rfl dX5_reasonNotToTrim_10 ?_
    cases hF
    exact r_ireturn C dX5_reasonNotToTrim_11
theorem dX5_reasonNotToWrite_0 : decode cX5_reasonNotToWrite 0 = .ok (.iload_n 1, 1) := by decide +kernel
theorem dX5_reasonNotToWrite_1 : decode cX5_reasonNotToWrite 1 = .ok (.aload_n 0, 1) := by decide +kernel
theorem dX5_reasonNotToWrite_2 : decode cX5_reasonNotToWrite 2 = .ok (.invokevirtual 182, 3) := by decide +kernel
theorem dX5_reasonNotToWrite_5 : decode cX5_reasonNotToWrite 5 = .ok (.if_icmp .eq 6, 3) := by decide +kernel
theorem dX5_reasonNotToWrite_8 : decode cX5_reasonNotToWrite 8 = .ok (.bipush 13, 2) := by decide +kernel
theorem dX5_reasonNotToWrite_10 : decode cX5_reasonNotToWrite 10 = .ok (.ireturn, 1) := by decide +kernel
theorem dX5_reasonNotToWrite_11 : decode cX5_reasonNotToWrite 11 = .ok (.aload_n 0, 1) := by decide +kernel
theorem dX5_reasonNotToWrite_12 : decode cX5_reasonNotToWrite 12 = .ok (.getfield 71, 3) := by decide +kernel
theorem dX5_reasonNotToWrite_15 : decode cX5_reasonNotToWrite 15 = .ok (.ifCond .gt 5, 3) := by decide +kernel
theorem dX5_reasonNotToWrite_18 : decode cX5_reasonNotToWrite 18 = .ok (.iconst 1, 1) := by decide +kernel
theorem dX5_reasonNotToWrite_19 : decode cX5_reasonNotToWrite 19 = .ok (.ireturn, 1) := by decide +kernel
theorem dX5_reasonNotToWrite_20 : decode cX5_reasonNotToWrite 20 = .ok (.aload_n 0, 1) := by decide +kernel
theorem dX5_reasonNotToWrite_21 : decode cX5_reasonNotToWrite 21 = .ok (.iload_n 1, 1) := by decide +kernel
theorem dX5_reasonNotToWrite_22 : decode cX5_reasonNotToWrite 22 = .ok (.invokevirtual 104, 3) := by decide +kernel
theorem dX5_reasonNotToWrite_25 : decode cX5_reasonNotToWrite 25 = .ok (.astore_n 2, 1) := by decide +kernel
theorem dX5_reasonNotToWrite_26 : decode cX5_reasonNotToWrite 26 = .ok (.aload_n 2, 1) := by decide +kernel
theorem dX5_reasonNotToWrite_27 : decode cX5_reasonNotToWrite 27 = .ok (.invokevirtual 143, 3) := by decide +kernel
theorem dX5_reasonNotToWrite_30 : decode cX5_reasonNotToWrite 30 = .ok (.ifCond .eq 5, 3) := by decide +kernel
theorem dX5_reasonNotToWrite_33 : decode cX5_reasonNotToWrite 33 = .ok (.iconst 0, 1) := by decide +kernel
theorem dX5_reasonNotToWrite_34 : decode cX5_reasonNotToWrite 34 = .ok (.ireturn, 1) := by decide +kernel
theorem dX5_reasonNotToWrite_35 : decode cX5_reasonNotToWrite 35 = .ok (.aload_n 2, 1) := by decide +kernel
theorem dX5_reasonNotToWrite_36 : decode cX5_reasonNotToWrite 36 = .ok (.getfield 140, 3) := by decide +kernel
theorem dX5_reasonNotToWrite_39 : decode cX5_reasonNotToWrite 39 = .ok (.ifCond .ne 6, 3) := by decide +kernel
theorem dX5_reasonNotToWrite_42 : decode cX5_reasonNotToWrite 42 = .ok (.bipush 11, 2) := by decide +kernel
theorem dX5_reasonNotToWrite_44 : decode cX5_reasonNotToWrite 44 = .ok (.ireturn, 1) := by decide +kernel
theorem dX5_reasonNotToWrite_45 : decode cX5_reasonNotToWrite 45 = .ok (.aload_n 0, 1) := by decide +kernel
theorem dX5_reasonNotToWrite_46 : decode cX5_reasonNotToWrite 46 = .ok (.aload_n 2, 1) := by decide +kernel
theorem dX5_reasonNotToWrite_47 : decode cX5_reasonNotToWrite 47 = .ok (.iconst 0, 1) := by decide +kernel
theorem dX5_reasonNotToWrite_48 : decode cX5_reasonNotToWrite 48 = .ok (.invokevirtual 185, 3) := by decide +kernel
theorem dX5_reasonNotToWrite_51 : decode cX5_reasonNotToWrite 51 = .ok (.invokevirtual 188, 3) := by decide +kernel
theorem dX5_reasonNotToWrite_54 : decode cX5_reasonNotToWrite 54 = .ok (.iconst (-1), 1) := by decide +kernel
theorem dX5_reasonNotToWrite_55 : decode cX5_reasonNotToWrite 55 = .ok (.if_icmp .ne 8, 3) := by decide +kernel
theorem dX5_reasonNotToWrite_58 : decode cX5_reasonNotToWrite 58 = .ok (.bipush 12, 2) := by decide +kernel
theorem dX5_reasonNotToWrite_60 : decode cX5_reasonNotToWrite 60 = .ok (.goto 4, 3) := by decide +kernel
theorem dX5_reasonNotToWrite_63 : decode cX5_reasonNotToWrite 63 = .ok (.iconst 0, 1) := by decide +kernel
theorem dX5_reasonNotToWrite_64 : decode cX5_reasonNotToWrite 64 = .ok (.ireturn, 1) := by decide +kernel
def F_X5_reasonNotToWrite (N : Nat) (a1 : Int32) (h : Nat → HV) : Option (Int32) := (if a1 = (F_X5_active h) then (if 0 < ((h 0).1 7) then (if (F_X4_isWriting (h (gsel a1))) = true then some 0 else (if ((h (gsel a1)).1 2) = 0 then some 11 else (ob1 (F_X5_findStart N (F_X4_lengthOf 0 (h (gsel a1))) h) fun v1 => (if v1 = (-1) then some 12 else some 0)))) else some 1) else some 13)
theorem c_X5_reasonNotToWrite {w : WP} (hW : gW w) {Ω : OM} {j : Nat} (hj : j ≤ 10) {h : Nat → HV} (e : Ω.1 j = h) (N : Nat) (a1 : Int32) {v : Int32} (hF : F_X5_reasonNotToWrite N a1 h = some v) : gM w 2 yX5_reasonNotToWrite cX5_reasonNotToWrite 3 (some .int) [.ref (wAd w (0, j, 0, 0)), .int a1] (cA w Ω) (some (.int v)) (cA w Ω) := by
  refine gM_of "HedgeMessages$Hedge" rfl (by decide) (kR rfl) fun X C => ?_
  unfold F_X5_reasonNotToWrite at hF
  show gV w X _ _ 0 [(0, .ref (wAd w (0, j, 0, 0))), (1, .int a1)] []
  refine r_iload_n C (k := 1) rfl rfl dX5_reasonNotToWrite_0 ?_
  refine r_aload_n C (k := 0) rfl rfl dX5_reasonNotToWrite_1 ?_
  refine r_callV C (d' := 0) [] (c_X5_active hW hj e rfl) myX5_active wm4_15 ⟨_, _, _, _, (hW.ok (k0 hj)), rfl, rfl, rfl, rfl⟩ rfl (kR rfl) (by decide) (kR rfl) rfl dX5_reasonNotToWrite_2 ?_
  refine r_icmp_eq C (tgt := 11) rfl dX5_reasonNotToWrite_5 (fun hc => ?_) (fun hc => ?_)
  · rw [if_pos hc] at hF
    refine r_aload_n C (k := 0) rfl rfl dX5_reasonNotToWrite_11 ?_
    refine og_0_7 C (hW.ok (k0 hj)) (congrFun e 0) wm1_144 dX5_reasonNotToWrite_12 ?_
    refine r_if_gt C (tgt := 20) rfl dX5_reasonNotToWrite_15 (fun hc => ?_) (fun hc => ?_)
    · rw [if_pos hc] at hF
      refine r_aload_n C (k := 0) rfl rfl dX5_reasonNotToWrite_20 ?_
      refine r_iload_n C (k := 1) rfl rfl dX5_reasonNotToWrite_21 ?_
      refine r_callV C (d' := 0) [.int a1] (c_X5_gardener hW hj a1) myX5_gardener wm2_141 ⟨_, _, _, _, (hW.ok (k0 hj)), rfl, rfl, rfl, rfl⟩ rfl (kR rfl) (by decide) (kR rfl) rfl dX5_reasonNotToWrite_22 ?_
      refine r_astore_n C (lo' := [(2, .ref (wAd w (1, j, (gsel a1), 0))), (0, .ref (wAd w (0, j, 0, 0))), (1, .int a1)]) rfl (by decide) rfl dX5_reasonNotToWrite_25 ?_
      refine r_aload_n C (k := 0) rfl rfl dX5_reasonNotToWrite_26 ?_
      refine r_callV C (d' := 0) [] (c_X4_isWriting hW hj gsel_12 (congrFun e (gsel a1)) rfl) myX4_isWriting wm4_167 ⟨_, _, _, _, (hW.ok (k1 hj gsel_12)), rfl, rfl, rfl, rfl⟩ rfl (kR rfl) (by decide) (kR rfl) rfl dX5_reasonNotToWrite_27 ?_
      refine r_if_eq C (tgt := 35) rfl dX5_reasonNotToWrite_30 (fun hc => ?_) (fun hc => ?_)
      · rw [if_neg (b2i_f hc)] at hF
        refine r_aload_n C (k := 0) rfl rfl dX5_reasonNotToWrite_35 ?_
        refine ogN_1_2 C (hW.ok (k1 hj gsel_12)) (congrFun e (gsel a1)) wm1_64 dX5_reasonNotToWrite_36 ?_
        refine r_if_ne C (tgt := 45) rfl dX5_reasonNotToWrite_39 (fun hc => ?_) (fun hc => ?_)
        · rw [if_neg hc] at hF
          refine r_aload_n C (k := 1) rfl rfl dX5_reasonNotToWrite_45 ?_
          refine r_aload_n C (k := 0) rfl rfl dX5_reasonNotToWrite_46 ?_
          refine r_iconst C (v := 0) rfl dX5_reasonNotToWrite_47 ?_
          refine r_callV C (d' := 1) [.int 0] (c_X4_lengthOf hW hj gsel_12 (congrFun e (gsel a1)) 0 rfl) myX4_lengthOf wm4_175 ⟨_, _, _, _, (hW.ok (k1 hj gsel_12)), rfl, rfl, rfl, rfl⟩ rfl (kR rfl) (by decide) (kR rfl) rfl dX5_reasonNotToWrite_48 ?_
          obtain ⟨v1, hv1, hF⟩ := ob1_e hF
          refine r_callV C (d' := 1) [.int (F_X4_lengthOf 0 (h (gsel a1)))] (c_X5_findStart hW hj e N (F_X4_lengthOf 0 (h (gsel a1))) hv1) myX5_findStart wm4_176 ⟨_, _, _, _, (hW.ok (k0 hj)), rfl, rfl, rfl, rfl⟩ rfl (kR rfl) (by decide) (kR rfl) rfl dX5_reasonNotToWrite_51 ?_
          refine r_iconst C (v := (-1)) (by decide) dX5_reasonNotToWrite_54 ?_
          refine r_icmp_ne C (tgt := 63) rfl dX5_reasonNotToWrite_55 (fun hc => ?_) (fun hc => ?_)
          · rw [if_neg hc] at hF
            refine r_iconst C (v := 0) rfl dX5_reasonNotToWrite_63 ?_
            cases hF
            exact r_ireturn C dX5_reasonNotToWrite_64
          · rw [if_pos hc] at hF
            refine r_bipush C (v := 12) rfl dX5_reasonNotToWrite_58 ?_
            refine r_goto C (tgt := 64) rfl dX5_reasonNotToWrite_60 ?_
            cases hF
            exact r_ireturn C dX5_reasonNotToWrite_64
        · rw [if_pos hc] at hF
          refine r_bipush C (v := 11) rfl dX5_reasonNotToWrite_42 ?_
          cases hF
          exact r_ireturn C dX5_reasonNotToWrite_44
      · rw [if_pos (b2i_t hc)] at hF
        refine r_iconst C (v := 0) rfl dX5_reasonNotToWrite_33 ?_
        cases hF
        exact r_ireturn C dX5_reasonNotToWrite_34
    · rw [if_neg hc] at hF
      refine r_iconst C (v := 1) rfl dX5_reasonNotToWrite_18 ?_
      cases hF
      exact r_ireturn C dX5_reasonNotToWrite_19
  · rw [if_neg hc] at hF
    refine r_bipush C (v := 13) rfl dX5_reasonNotToWrite_8 ?_
    cases hF
    exact r_ireturn C dX5_reasonNotToWrite_10
theorem dX5_mayPlant_0 : decode cX5_mayPlant 0 = .ok (.aload_n 0, 1) := by decide +kernel
theorem dX5_mayPlant_1 : decode cX5_mayPlant 1 = .ok (.iload_n 1, 1) := by decide +kernel
theorem dX5_mayPlant_2 : decode cX5_mayPlant 2 = .ok (.invokevirtual 191, 3) := by decide +kernel
theorem dX5_mayPlant_5 : decode cX5_mayPlant 5 = .ok (.ifCond .ne 7, 3) := by decide +kernel
theorem dX5_mayPlant_8 : decode cX5_mayPlant 8 = .ok (.iconst 1, 1) := by decide +kernel
theorem dX5_mayPlant_9 : decode cX5_mayPlant 9 = .ok (.goto 4, 3) := by decide +kernel
theorem dX5_mayPlant_12 : decode cX5_mayPlant 12 = .ok (.iconst 0, 1) := by decide +kernel
theorem dX5_mayPlant_13 : decode cX5_mayPlant 13 = .ok (.ireturn, 1) := by decide +kernel
def F_X5_mayPlant (a1 : Int32) (h : Nat → HV) : Bool := (if (F_X5_reasonNotToPlant a1 h) = 0 then true else false)
theorem c_X5_mayPlant {w : WP} (hW : gW w) {Ω : OM} {j : Nat} (hj : j ≤ 10) {h : Nat → HV} (e : Ω.1 j = h) (a1 : Int32) {v : Bool} (hF : F_X5_mayPlant a1 h = v) : gM w 3 yX5_mayPlant cX5_mayPlant 2 (some .boolean) [.ref (wAd w (0, j, 0, 0)), .int a1] (cA w Ω) (some (.int (b2i v))) (cA w Ω) := by
  refine gM_of "HedgeMessages$Hedge" rfl (by decide) (kR rfl) fun X C => ?_
  unfold F_X5_mayPlant at hF
  show gV w X _ _ 0 [(0, .ref (wAd w (0, j, 0, 0))), (1, .int a1)] []
  refine r_aload_n C (k := 0) rfl rfl dX5_mayPlant_0 ?_
  refine r_iload_n C (k := 1) rfl rfl dX5_mayPlant_1 ?_
  refine r_callV C (d' := 2) [.int a1] (c_X5_reasonNotToPlant hW hj e a1 rfl) myX5_reasonNotToPlant wm3_232 ⟨_, _, _, _, (hW.ok (k0 hj)), rfl, rfl, rfl, rfl⟩ rfl (kR rfl) (by decide) (kR rfl) rfl dX5_mayPlant_2 ?_
  refine r_if_ne C (tgt := 12) rfl dX5_mayPlant_5 (fun hc => ?_) (fun hc => ?_)
  · rw [if_neg hc] at hF
    refine r_iconst C (v := 0) rfl dX5_mayPlant_12 ?_
    cases hF
    exact r_zreturn C false rfl dX5_mayPlant_13
  · rw [if_pos hc] at hF
    refine r_iconst C (v := 1) rfl dX5_mayPlant_8 ?_
    refine r_goto C (tgt := 13) rfl dX5_mayPlant_9 ?_
    cases hF
    exact r_zreturn C true rfl dX5_mayPlant_13
theorem dX5_mayRemove_0 : decode cX5_mayRemove 0 = .ok (.aload_n 0, 1) := by decide +kernel
theorem dX5_mayRemove_1 : decode cX5_mayRemove 1 = .ok (.iload_n 1, 1) := by decide +kernel
theorem dX5_mayRemove_2 : decode cX5_mayRemove 2 = .ok (.invokevirtual 194, 3) := by decide +kernel
theorem dX5_mayRemove_5 : decode cX5_mayRemove 5 = .ok (.ifCond .ne 7, 3) := by decide +kernel
theorem dX5_mayRemove_8 : decode cX5_mayRemove 8 = .ok (.iconst 1, 1) := by decide +kernel
theorem dX5_mayRemove_9 : decode cX5_mayRemove 9 = .ok (.goto 4, 3) := by decide +kernel
theorem dX5_mayRemove_12 : decode cX5_mayRemove 12 = .ok (.iconst 0, 1) := by decide +kernel
theorem dX5_mayRemove_13 : decode cX5_mayRemove 13 = .ok (.ireturn, 1) := by decide +kernel
def F_X5_mayRemove (a1 : Int32) (h : Nat → HV) : Bool := (if (F_X5_reasonNotToRemove a1 h) = 0 then true else false)
theorem c_X5_mayRemove {w : WP} (hW : gW w) {Ω : OM} {j : Nat} (hj : j ≤ 10) {h : Nat → HV} (e : Ω.1 j = h) (a1 : Int32) {v : Bool} (hF : F_X5_mayRemove a1 h = v) : gM w 3 yX5_mayRemove cX5_mayRemove 2 (some .boolean) [.ref (wAd w (0, j, 0, 0)), .int a1] (cA w Ω) (some (.int (b2i v))) (cA w Ω) := by
  refine gM_of "HedgeMessages$Hedge" rfl (by decide) (kR rfl) fun X C => ?_
  unfold F_X5_mayRemove at hF
  show gV w X _ _ 0 [(0, .ref (wAd w (0, j, 0, 0))), (1, .int a1)] []
  refine r_aload_n C (k := 0) rfl rfl dX5_mayRemove_0 ?_
  refine r_iload_n C (k := 1) rfl rfl dX5_mayRemove_1 ?_
  refine r_callV C (d' := 2) [.int a1] (c_X5_reasonNotToRemove hW hj e a1 rfl) myX5_reasonNotToRemove wm4_32 ⟨_, _, _, _, (hW.ok (k0 hj)), rfl, rfl, rfl, rfl⟩ rfl (kR rfl) (by decide) (kR rfl) rfl dX5_mayRemove_2 ?_
  refine r_if_ne C (tgt := 12) rfl dX5_mayRemove_5 (fun hc => ?_) (fun hc => ?_)
  · rw [if_neg hc] at hF
    refine r_iconst C (v := 0) rfl dX5_mayRemove_12 ?_
    cases hF
    exact r_zreturn C false rfl dX5_mayRemove_13
  · rw [if_pos hc] at hF
    refine r_iconst C (v := 1) rfl dX5_mayRemove_8 ?_
    refine r_goto C (tgt := 13) rfl dX5_mayRemove_9 ?_
    cases hF
    exact r_zreturn C true rfl dX5_mayRemove_13
theorem dX5_mayTrim_0 : decode cX5_mayTrim 0 = .ok (.aload_n 0, 1) := by decide +kernel
theorem dX5_mayTrim_1 : decode cX5_mayTrim 1 = .ok (.iload_n 1, 1) := by decide +kernel
theorem dX5_mayTrim_2 : decode cX5_mayTrim 2 = .ok (.invokevirtual 197, 3) := by decide +kernel
theorem dX5_mayTrim_5 : decode cX5_mayTrim 5 = .ok (.ifCond .ne 7, 3) := by decide +kernel
theorem dX5_mayTrim_8 : decode cX5_mayTrim 8 = .ok (.iconst 1, 1) := by decide +kernel
theorem dX5_mayTrim_9 : decode cX5_mayTrim 9 = .ok (.goto 4, 3) := by decide +kernel
theorem dX5_mayTrim_12 : decode cX5_mayTrim 12 = .ok (.iconst 0, 1) := by decide +kernel
theorem dX5_mayTrim_13 : decode cX5_mayTrim 13 = .ok (.ireturn, 1) := by decide +kernel
def F_X5_mayTrim (a1 : Int32) (h : Nat → HV) : Bool := (if (F_X5_reasonNotToTrim a1 h) = 0 then true else false)
theorem c_X5_mayTrim {w : WP} (hW : gW w) {Ω : OM} {j : Nat} (hj : j ≤ 10) {h : Nat → HV} (e : Ω.1 j = h) (a1 : Int32) {v : Bool} (hF : F_X5_mayTrim a1 h = v) : gM w 3 yX5_mayTrim cX5_mayTrim 2 (some .boolean) [.ref (wAd w (0, j, 0, 0)), .int a1] (cA w Ω) (some (.int (b2i v))) (cA w Ω) := by
  refine gM_of "HedgeMessages$Hedge" rfl (by decide) (kR rfl) fun X C => ?_
  unfold F_X5_mayTrim at hF
  show gV w X _ _ 0 [(0, .ref (wAd w (0, j, 0, 0))), (1, .int a1)] []
  refine r_aload_n C (k := 0) rfl rfl dX5_mayTrim_0 ?_
  refine r_iload_n C (k := 1) rfl rfl dX5_mayTrim_1 ?_
  refine r_callV C (d' := 2) [.int a1] (c_X5_reasonNotToTrim hW hj e a1 rfl) myX5_reasonNotToTrim wm4_59 ⟨_, _, _, _, (hW.ok (k0 hj)), rfl, rfl, rfl, rfl⟩ rfl (kR rfl) (by decide) (kR rfl) rfl dX5_mayTrim_2 ?_
  refine r_if_ne C (tgt := 12) rfl dX5_mayTrim_5 (fun hc => ?_) (fun hc => ?_)
  · rw [if_neg hc] at hF
    refine r_iconst C (v := 0) rfl dX5_mayTrim_12 ?_
    cases hF
    exact r_zreturn C false rfl dX5_mayTrim_13
  · rw [if_pos hc] at hF
    refine r_iconst C (v := 1) rfl dX5_mayTrim_8 ?_
    refine r_goto C (tgt := 13) rfl dX5_mayTrim_9 ?_
    cases hF
    exact r_zreturn C true rfl dX5_mayTrim_13
theorem dX5_mayNest_0 : decode cX5_mayNest 0 = .ok (.aload_n 0, 1) := by decide +kernel
theorem dX5_mayNest_1 : decode cX5_mayNest 1 = .ok (.invokevirtual 167, 3) := by decide +kernel
theorem dX5_mayNest_4 : decode cX5_mayNest 4 = .ok (.bipush 6, 2) := by decide +kernel
theorem dX5_mayNest_6 : decode cX5_mayNest 6 = .ok (.if_icmp .ge 18, 3) := by decide +kernel
theorem dX5_mayNest_9 : decode cX5_mayNest 9 = .ok (.aload_n 0, 1) := by decide +kernel
theorem dX5_mayNest_10 : decode cX5_mayNest 10 = .ok (.getfield 26, 3) := by decide +kernel
theorem dX5_mayNest_13 : decode cX5_mayNest 13 = .ok (.iload_n 1, 1) := by decide +kernel
theorem dX5_mayNest_14 : decode cX5_mayNest 14 = .ok (.invokevirtual 129, 3) := by decide +kernel
theorem dX5_mayNest_17 : decode cX5_mayNest 17 = .ok (.ifCond .ne 7, 3) := by decide +kernel
theorem dX5_mayNest_20 : decode cX5_mayNest 20 = .ok (.iconst 1, 1) := by decide +kernel
theorem dX5_mayNest_21 : decode cX5_mayNest 21 = .ok (.goto 4, 3) := by decide +kernel
theorem dX5_mayNest_24 : decode cX5_mayNest 24 = .ok (.iconst 0, 1) := by decide +kernel
theorem dX5_mayNest_25 : decode cX5_mayNest 25 = .ok (.ireturn, 1) := by decide +kernel
def F_X5_mayNest (N : Nat) (a1 : Int32) (h : Nat → HV) : Option (Bool) := (ob1 (F_X5_countNests N h) fun v1 => (if 6 ≤ v1 then some false else (if (rget 40 ((h 0).2 3) a1) = 0 then some true else some false)))
theorem c_X5_mayNest {w : WP} (hW : gW w) {Ω : OM} {j : Nat} (hj : j ≤ 10) {h : Nat → HV} (e : Ω.1 j = h) (N : Nat) (a1 : Int32) {v : Bool} (hF : F_X5_mayNest N a1 h = some v) : gM w 2 yX5_mayNest cX5_mayNest 2 (some .boolean) [.ref (wAd w (0, j, 0, 0)), .int a1] (cA w Ω) (some (.int (b2i v))) (cA w Ω) := by
  refine gM_of "HedgeMessages$Hedge" rfl (by decide) (kR rfl) fun X C => ?_
  unfold F_X5_mayNest at hF
  show gV w X _ _ 0 [(0, .ref (wAd w (0, j, 0, 0))), (1, .int a1)] []
  refine r_aload_n C (k := 0) rfl rfl dX5_mayNest_0 ?_
  obtain ⟨v1, hv1, hF⟩ := ob1_e hF
  refine r_callV C (d' := 1) [] (c_X5_countNests hW hj e N hv1) myX5_countNests wm4_77 ⟨_, _, _, _, (hW.ok (k0 hj)), rfl, rfl, rfl, rfl⟩ rfl (kR rfl) (by decide) (kR rfl) rfl dX5_mayNest_1 ?_
  refine r_bipush C (v := 6) rfl dX5_mayNest_4 ?_
  refine r_icmp_ge C (tgt := 24) rfl dX5_mayNest_6 (fun hc => ?_) (fun hc => ?_)
  · rw [if_pos hc] at hF
    refine r_iconst C (v := 0) rfl dX5_mayNest_24 ?_
    cases hF
    exact r_zreturn C false rfl dX5_mayNest_25
  · rw [if_neg hc] at hF
    refine r_aload_n C (k := 0) rfl rfl dX5_mayNest_9 ?_
    refine og_0_11 C (hW.ok (k0 hj)) wm1_152 dX5_mayNest_10 ?_
    refine r_iload_n C (k := 1) rfl rfl dX5_mayNest_13 ?_
    refine r_callV C (d' := 0) [.int a1] (c_rget (hW.ok (i := (3, j, 0, 3)) (q0 hj (kR rfl))) (hW.ok (i := (4, j, 0, 3)) (q0 hj (kR rfl))) (show rlen 0 3 = 40 from rfl) (by decide) (congrArg (fun z => z.2 3) (congrFun e 0)) rfl) myX8_get wm3_163 ⟨_, _, _, _, (hW.ok (i := (3, j, 0, 3)) (q0 hj (kR rfl))), rfl, rfl, rfl, rfl⟩ rfl (kR rfl) (by decide) (kR rfl) rfl dX5_mayNest_14 ?_
    refine r_if_ne C (tgt := 24) rfl dX5_mayNest_17 (fun hc => ?_) (fun hc => ?_)
    · rw [if_neg hc] at hF
      refine r_iconst C (v := 0) rfl dX5_mayNest_24 ?_
      cases hF
      exact r_zreturn C false rfl dX5_mayNest_25
    · rw [if_pos hc] at hF
      refine r_iconst C (v := 1) rfl dX5_mayNest_20 ?_
      refine r_goto C (tgt := 25) rfl dX5_mayNest_21 ?_
      cases hF
      exact r_zreturn C true rfl dX5_mayNest_25
theorem dX5_mayQueue_0 : decode cX5_mayQueue 0 = .ok (.aload_n 0, 1) := by decide +kernel
theorem dX5_mayQueue_1 : decode cX5_mayQueue 1 = .ok (.iload_n 1, 1) := by decide +kernel
theorem dX5_mayQueue_2 : decode cX5_mayQueue 2 = .ok (.invokevirtual 104, 3) := by decide +kernel
theorem dX5_mayQueue_5 : decode cX5_mayQueue 5 = .ok (.getfield 140, 3) := by decide +kernel
theorem dX5_mayQueue_8 : decode cX5_mayQueue 8 = .ok (.bipush 8, 2) := by decide +kernel
theorem dX5_mayQueue_10 : decode cX5_mayQueue 10 = .ok (.if_icmp .ge 7, 3) := by decide +kernel
theorem dX5_mayQueue_13 : decode cX5_mayQueue 13 = .ok (.iconst 1, 1) := by decide +kernel
theorem dX5_mayQueue_14 : decode cX5_mayQueue 14 = .ok (.goto 4, 3) := by decide +kernel
theorem dX5_mayQueue_17 : decode cX5_mayQueue 17 = .ok (.iconst 0, 1) := by decide +kernel
theorem dX5_mayQueue_18 : decode cX5_mayQueue 18 = .ok (.ireturn, 1) := by decide +kernel
def F_X5_mayQueue (a1 : Int32) (h : Nat → HV) : Bool := (if 8 ≤ ((h (gsel a1)).1 2) then false else true)
theorem c_X5_mayQueue {w : WP} (hW : gW w) {Ω : OM} {j : Nat} (hj : j ≤ 10) {h : Nat → HV} (e : Ω.1 j = h) (a1 : Int32) {v : Bool} (hF : F_X5_mayQueue a1 h = v) : gM w 1 yX5_mayQueue cX5_mayQueue 2 (some .boolean) [.ref (wAd w (0, j, 0, 0)), .int a1] (cA w Ω) (some (.int (b2i v))) (cA w Ω) := by
  refine gM_of "HedgeMessages$Hedge" rfl (by decide) (kR rfl) fun X C => ?_
  unfold F_X5_mayQueue at hF
  show gV w X _ _ 0 [(0, .ref (wAd w (0, j, 0, 0))), (1, .int a1)] []
  refine r_aload_n C (k := 0) rfl rfl dX5_mayQueue_0 ?_
  refine r_iload_n C (k := 1) rfl rfl dX5_mayQueue_1 ?_
  refine r_callV C (d' := 0) [.int a1] (c_X5_gardener hW hj a1) myX5_gardener wm2_141 ⟨_, _, _, _, (hW.ok (k0 hj)), rfl, rfl, rfl, rfl⟩ rfl (kR rfl) (by decide) (kR rfl) rfl dX5_mayQueue_2 ?_
  refine ogN_1_2 C (hW.ok (k1 hj gsel_12)) (congrFun e (gsel a1)) wm1_64 dX5_mayQueue_5 ?_
  refine r_bipush C (v := 8) rfl dX5_mayQueue_8 ?_
  refine r_icmp_ge C (tgt := 17) rfl dX5_mayQueue_10 (fun hc => ?_) (fun hc => ?_)
  · rw [if_pos hc] at hF
    refine r_iconst C (v := 0) rfl dX5_mayQueue_17 ?_
    cases hF
    exact r_zreturn C false rfl dX5_mayQueue_18
  · rw [if_neg hc] at hF
    refine r_iconst C (v := 1) rfl dX5_mayQueue_13 ?_
    refine r_goto C (tgt := 18) rfl dX5_mayQueue_14 ?_
    cases hF
    exact r_zreturn C true rfl dX5_mayQueue_18
theorem dX5_mayCancel_0 : decode cX5_mayCancel 0 = .ok (.aload_n 0, 1) := by decide +kernel
theorem dX5_mayCancel_1 : decode cX5_mayCancel 1 = .ok (.iload_n 1, 1) := by decide +kernel
theorem dX5_mayCancel_2 : decode cX5_mayCancel 2 = .ok (.invokevirtual 104, 3) := by decide +kernel
theorem dX5_mayCancel_5 : decode cX5_mayCancel 5 = .ok (.iload_n 2, 1) := by decide +kernel
theorem dX5_mayCancel_6 : decode cX5_mayCancel 6 = .ok (.invokevirtual 200, 3) := by decide +kernel
theorem dX5_mayCancel_9 : decode cX5_mayCancel 9 = .ok (.ireturn, 1) := by decide +kernel
def F_X5_mayCancel (a1 : Int32) (a2 : Int32) (h : Nat → HV) : Bool := (F_X4_hasPending a2 (h (gsel a1)))
theorem c_X5_mayCancel {w : WP} (hW : gW w) {Ω : OM} {j : Nat} (hj : j ≤ 10) {h : Nat → HV} (e : Ω.1 j = h) (a1 : Int32) (a2 : Int32) {v : Bool} (hF : F_X5_mayCancel a1 a2 h = v) : gM w 1 yX5_mayCancel cX5_mayCancel 3 (some .boolean) [.ref (wAd w (0, j, 0, 0)), .int a1, .int a2] (cA w Ω) (some (.int (b2i v))) (cA w Ω) := by
  refine gM_of "HedgeMessages$Hedge" rfl (by decide) (kR rfl) fun X C => ?_
  unfold F_X5_mayCancel at hF
  show gV w X _ _ 0 [(0, .ref (wAd w (0, j, 0, 0))), (1, .int a1), (2, .int a2)] []
  refine r_aload_n C (k := 0) rfl rfl dX5_mayCancel_0 ?_
  refine r_iload_n C (k := 1) rfl rfl dX5_mayCancel_1 ?_
  refine r_callV C (d' := 0) [.int a1] (c_X5_gardener hW hj a1) myX5_gardener wm2_141 ⟨_, _, _, _, (hW.ok (k0 hj)), rfl, rfl, rfl, rfl⟩ rfl (kR rfl) (by decide) (kR rfl) rfl dX5_mayCancel_2 ?_
  refine r_iload_n C (k := 2) rfl rfl dX5_mayCancel_5 ?_
  refine r_callV C (d' := 0) [.int a2] (c_X4_hasPending hW hj gsel_12 (congrFun e (gsel a1)) a2 rfl) myX4_hasPending wm4_105 ⟨_, _, _, _, (hW.ok (k1 hj gsel_12)), rfl, rfl, rfl, rfl⟩ rfl (kR rfl) (by decide) (kR rfl) rfl dX5_mayCancel_6 ?_
  cases hF
  exact r_zreturn C _ rfl dX5_mayCancel_9
