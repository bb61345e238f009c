/-! ===== 12.hedge2: printed by wip/p66/gen.py ===== -/
theorem dX4_copyFrom_0 : decode cX4_copyFrom 0 = .ok (.aload_n 0, 1) := by decide +kernel
theorem dX4_copyFrom_1 : decode cX4_copyFrom 1 = .ok (.getfield 14, 3) := by decide +kernel
theorem dX4_copyFrom_4 : decode cX4_copyFrom 4 = .ok (.aload_n 1, 1) := by decide +kernel
theorem dX4_copyFrom_5 : decode cX4_copyFrom 5 = .ok (.getfield 14, 3) := by decide +kernel
theorem dX4_copyFrom_8 : decode cX4_copyFrom 8 = .ok (.invokevirtual 42, 3) := by decide +kernel
theorem dX4_copyFrom_11 : decode cX4_copyFrom 11 = .ok (.aload_n 0, 1) := by decide +kernel
theorem dX4_copyFrom_12 : decode cX4_copyFrom 12 = .ok (.getfield 20, 3) := by decide +kernel
theorem dX4_copyFrom_15 : decode cX4_copyFrom 15 = .ok (.aload_n 1, 1) := by decide +kernel
theorem dX4_copyFrom_16 : decode cX4_copyFrom 16 = .ok (.getfield 20, 3) := by decide +kernel
theorem dX4_copyFrom_19 : decode cX4_copyFrom 19 = .ok (.invokevirtual 42, 3) := by decide +kernel
theorem dX4_copyFrom_22 : decode cX4_copyFrom 22 = .ok (.aload_n 0, 1) := by decide +kernel
theorem dX4_copyFrom_23 : decode cX4_copyFrom 23 = .ok (.aload_n 1, 1) := by decide +kernel
theorem dX4_copyFrom_24 : decode cX4_copyFrom 24 = .ok (.getfield 23, 3) := by decide +kernel
theorem dX4_copyFrom_27 : decode cX4_copyFrom 27 = .ok (.putfield 23, 3) := by decide +kernel
theorem dX4_copyFrom_30 : decode cX4_copyFrom 30 = .ok (.aload_n 0, 1) := by decide +kernel
theorem dX4_copyFrom_31 : decode cX4_copyFrom 31 = .ok (.aload_n 1, 1) := by decide +kernel
theorem dX4_copyFrom_32 : decode cX4_copyFrom 32 = .ok (.getfield 46, 3) := by decide +kernel
theorem dX4_copyFrom_35 : decode cX4_copyFrom 35 = .ok (.putfield 46, 3) := by decide +kernel
theorem dX4_copyFrom_38 : decode cX4_copyFrom 38 = .ok (.aload_n 0, 1) := by decide +kernel
theorem dX4_copyFrom_39 : decode cX4_copyFrom 39 = .ok (.aload_n 1, 1) := by decide +kernel
theorem dX4_copyFrom_40 : decode cX4_copyFrom 40 = .ok (.getfield 49, 3) := by decide +kernel
theorem dX4_copyFrom_43 : decode cX4_copyFrom 43 = .ok (.putfield 49, 3) := by decide +kernel
theorem dX4_copyFrom_46 : decode cX4_copyFrom 46 = .ok (.aload_n 0, 1) := by decide +kernel
theorem dX4_copyFrom_47 : decode cX4_copyFrom 47 = .ok (.aload_n 1, 1) := by decide +kernel
theorem dX4_copyFrom_48 : decode cX4_copyFrom 48 = .ok (.getfield 52, 3) := by decide +kernel
theorem dX4_copyFrom_51 : decode cX4_copyFrom 51 = .ok (.putfield 52, 3) := by decide +kernel
theorem dX4_copyFrom_54 : decode cX4_copyFrom 54 = .ok (.aload_n 0, 1) := by decide +kernel
theorem dX4_copyFrom_55 : decode cX4_copyFrom 55 = .ok (.aload_n 1, 1) := by decide +kernel
theorem dX4_copyFrom_56 : decode cX4_copyFrom 56 = .ok (.getfield 30, 3) := by decide +kernel
theorem dX4_copyFrom_59 : decode cX4_copyFrom 59 = .ok (.putfield 30, 3) := by decide +kernel
theorem dX4_copyFrom_62 : decode cX4_copyFrom 62 = .ok (.aload_n 0, 1) := by decide +kernel
theorem dX4_copyFrom_63 : decode cX4_copyFrom 63 = .ok (.aload_n 1, 1) := by decide +kernel
theorem dX4_copyFrom_64 : decode cX4_copyFrom 64 = .ok (.getfield 33, 3) := by decide +kernel
theorem dX4_copyFrom_67 : decode cX4_copyFrom 67 = .ok (.putfield 33, 3) := by decide +kernel
theorem dX4_copyFrom_70 : decode cX4_copyFrom 70 = .ok (.aload_n 0, 1) := by decide +kernel
theorem dX4_copyFrom_71 : decode cX4_copyFrom 71 = .ok (.aload_n 1, 1) := by decide +kernel
theorem dX4_copyFrom_72 : decode cX4_copyFrom 72 = .ok (.getfield 36, 3) := by decide +kernel
theorem dX4_copyFrom_75 : decode cX4_copyFrom 75 = .ok (.putfield 36, 3) := by decide +kernel
theorem dX4_copyFrom_78 : decode cX4_copyFrom 78 = .ok (.aload_n 0, 1) := by decide +kernel
theorem dX4_copyFrom_79 : decode cX4_copyFrom 79 = .ok (.aload_n 1, 1) := by decide +kernel
theorem dX4_copyFrom_80 : decode cX4_copyFrom 80 = .ok (.getfield 39, 3) := by decide +kernel
theorem dX4_copyFrom_83 : decode cX4_copyFrom 83 = .ok (.putfield 39, 3) := by decide +kernel
theorem dX4_copyFrom_86 : decode cX4_copyFrom 86 = .ok (.return_, 1) := by decide +kernel
def F_X4_copyFrom (j : Nat) (j2 : Nat) (p : Nat) (S : Nat → Nat → HV) : Nat → Nat → HV := (lt (up S j (up (S j) p (sA (S j p) 0 (rcpy 96 ((S j2 p).2 0) 96 ((S j p).2 0) 0 0 (nI 96))))) fun S2 => (lt (up S2 j (up (S2 j) p (sA (S2 j p) 1 (rcpy 8 ((S2 j2 p).2 1) 8 ((S2 j p).2 1) 0 0 (nI 8))))) fun S4 => (lt (up S4 j (up (S4 j) p (sS (S4 j p) 2 ((S4 j2 p).1 2)))) fun S5 => (lt (up S5 j (up (S5 j) p (sS (S5 j p) 3 ((S5 j2 p).1 3)))) fun S6 => (lt (up S6 j (up (S6 j) p (sS (S6 j p) 4 ((S6 j2 p).1 4)))) fun S7 => (lt (up S7 j (up (S7 j) p (sS (S7 j p) 5 ((S7 j2 p).1 5)))) fun S8 => (lt (up S8 j (up (S8 j) p (sS (S8 j p) 6 ((S8 j2 p).1 6)))) fun S9 => (lt (up S9 j (up (S9 j) p (sS (S9 j p) 7 ((S9 j2 p).1 7)))) fun S10 => (lt (up S10 j (up (S10 j) p (sS (S10 j p) 8 ((S10 j2 p).1 8)))) fun S11 => (lt (up S11 j (up (S11 j) p (sS (S11 j p) 9 ((S11 j2 p).1 9)))) fun S12 => S12))))))))))
theorem c_X4_copyFrom {w : WP} (hW : gW w) {Ω : OM} {j j2 p : Nat} (hj : j ≤ 10) (hj2 : j2 ≤ 10) (hp : p = 1 ∨ p = 2) {S : Nat → Nat → HV} (e : Ω.1 = S)  {S' : Nat → Nat → HV} (hF : F_X4_copyFrom j j2 p S = S') {Ω' : OM} (e2 : (S', Ω.2) = Ω') : gM w 3 yX4_copyFrom cX4_copyFrom 2 none [.ref (wAd w (1, j, p, 0)), .ref (wAd w (1, j2, p, 0))] (cA w Ω) none (cA w Ω') := by
  refine gM_of "HedgeMessages$Gardener" rfl (by decide) (kR rfl) fun X C => ?_
  unfold F_X4_copyFrom at hF
  subst e2
  show gV w X _ _ 0 [(0, .ref (wAd w (1, j, p, 0))), (1, .ref (wAd w (1, j2, p, 0)))] []
  refine r_ct (ct' := cA w (S, Ω.2)) (by rw [← e]) ?_
  refine r_aload_n C (k := 0) rfl rfl dX4_copyFrom_0 ?_
  refine og_1_0 C (hW.ok (k1 hj hp)) wm1_60 dX4_copyFrom_1 ?_
  refine r_aload_n C (k := 1) rfl rfl dX4_copyFrom_4 ?_
  refine og_1_0 C (hW.ok (k1 hj2 hp)) wm1_60 dX4_copyFrom_5 ?_
  obtain ⟨S2, eS2, hF⟩ := lt_e hF
  refine r_callV C (d' := 2) [.ref (wAd w (3, j2, p, 0))] (c_rcpyF hW.x (Or.inl (show okC (4, j, p, 0) from (q1 hj hp (kR rfl)))) (hW.ok (i := (3, j, p, 0)) (q1 hj hp (kR rfl))) (hW.ok (i := (4, j, p, 0)) (q1 hj hp (kR rfl))) (hW.fr (i := (4, j, p, 0)) (q1 hj hp (kR rfl))) (hW.ok (i := (3, j2, p, 0)) (q1 hj2 hp (kR rfl))) (hW.ok (i := (4, j2, p, 0)) (q1 hj2 hp (kR rfl))) (rl0 hp) (by decide) (rl0 hp) (by decide) (congrFun (congrFun (show (S, Ω.2).1 = S from rfl) j) p) (congrArg (fun z => z.2 0) (congrFun (congrFun (show (S, Ω.2).1 = S from rfl) j2) p)) rfl (congrArg (fun z => (z, Ω.2)) eS2)) myX8_copyFrom wm2_208 ⟨_, _, _, _, (hW.ok (i := (3, j, p, 0)) (q1 hj hp (kR rfl))), rfl, rfl, rfl, rfl⟩ rfl (kR rfl) (by decide) (kR rfl) rfl dX4_copyFrom_8 ?_
  refine r_aload_n C (k := 0) rfl rfl dX4_copyFrom_11 ?_
  refine og_1_1 C (hW.ok (k1 hj hp)) wm1_62 dX4_copyFrom_12 ?_
  refine r_aload_n C (k := 1) rfl rfl dX4_copyFrom_15 ?_
  refine og_1_1 C (hW.ok (k1 hj2 hp)) wm1_62 dX4_copyFrom_16 ?_
  obtain ⟨S4, eS4, hF⟩ := lt_e hF
  refine r_callV C (d' := 2) [.ref (wAd w (3, j2, p, 1))] (c_rcpyF hW.x (Or.inl (show okC (4, j, p, 1) from (q1 hj hp (kR rfl)))) (hW.ok (i := (3, j, p, 1)) (q1 hj hp (kR rfl))) (hW.ok (i := (4, j, p, 1)) (q1 hj hp (kR rfl))) (hW.fr (i := (4, j, p, 1)) (q1 hj hp (kR rfl))) (hW.ok (i := (3, j2, p, 1)) (q1 hj2 hp (kR rfl))) (hW.ok (i := (4, j2, p, 1)) (q1 hj2 hp (kR rfl))) (rl1 hp) (by decide) (rl1 hp) (by decide) (congrFun (congrFun (show (S2, Ω.2).1 = S2 from rfl) j) p) (congrArg (fun z => z.2 1) (congrFun (congrFun (show (S2, Ω.2).1 = S2 from rfl) j2) p)) rfl (congrArg (fun z => (z, Ω.2)) eS4)) myX8_copyFrom wm2_208 ⟨_, _, _, _, (hW.ok (i := (3, j, p, 1)) (q1 hj hp (kR rfl))), rfl, rfl, rfl, rfl⟩ rfl (kR rfl) (by decide) (kR rfl) rfl dX4_copyFrom_19 ?_
  refine r_aload_n C (k := 0) rfl rfl dX4_copyFrom_22 ?_
  refine r_aload_n C (k := 1) rfl rfl dX4_copyFrom_23 ?_
  refine og_1_2 C (hW.ok (k1 hj2 hp)) (congrFun (congrFun (show (S4, Ω.2).1 = S4 from rfl) j2) p) wm1_63 dX4_copyFrom_24 ?_
  obtain ⟨S5, eS5, hF⟩ := lt_e hF
  refine op_1_2 C hW.x (Or.inl (k1 hj hp)) (hW.fr (k1 hj hp)) (congrFun (congrFun (show (S4, Ω.2).1 = S4 from rfl) j) p) wm1_63 dX4_copyFrom_27 (congrArg (fun z => (z, Ω.2)) eS5) ?_
  refine r_aload_n C (k := 0) rfl rfl dX4_copyFrom_30 ?_
  refine r_aload_n C (k := 1) rfl rfl dX4_copyFrom_31 ?_
  refine og_1_3 C (hW.ok (k1 hj2 hp)) (congrFun (congrFun (show (S5, Ω.2).1 = S5 from rfl) j2) p) wm1_66 dX4_copyFrom_32 ?_
  obtain ⟨S6, eS6, hF⟩ := lt_e hF
  refine op_1_3 C hW.x (Or.inl (k1 hj hp)) (hW.fr (k1 hj hp)) (congrFun (congrFun (show (S5, Ω.2).1 = S5 from rfl) j) p) wm1_66 dX4_copyFrom_35 (congrArg (fun z => (z, Ω.2)) eS6) ?_
  refine r_aload_n C (k := 0) rfl rfl dX4_copyFrom_38 ?_
  refine r_aload_n C (k := 1) rfl rfl dX4_copyFrom_39 ?_
  refine og_1_4 C (hW.ok (k1 hj2 hp)) (congrFun (congrFun (show (S6, Ω.2).1 = S6 from rfl) j2) p) wm1_69 dX4_copyFrom_40 ?_
  obtain ⟨S7, eS7, hF⟩ := lt_e hF
  refine op_1_4 C hW.x (Or.inl (k1 hj hp)) (hW.fr (k1 hj hp)) (congrFun (congrFun (show (S6, Ω.2).1 = S6 from rfl) j) p) wm1_69 dX4_copyFrom_43 (congrArg (fun z => (z, Ω.2)) eS7) ?_
  refine r_aload_n C (k := 0) rfl rfl dX4_copyFrom_46 ?_
  refine r_aload_n C (k := 1) rfl rfl dX4_copyFrom_47 ?_
  refine og_1_5 C (hW.ok (k1 hj2 hp)) (congrFun (congrFun (show (S7, Ω.2).1 = S7 from rfl) j2) p) wm1_71 dX4_copyFrom_48 ?_
  obtain ⟨S8, eS8, hF⟩ := lt_e hF
  refine op_1_5 C hW.x (Or.inl (k1 hj hp)) (hW.fr (k1 hj hp)) (congrFun (congrFun (show (S7, Ω.2).1 = S7 from rfl) j) p) wm1_71 dX4_copyFrom_51 (congrArg (fun z => (z, Ω.2)) eS8) ?_
  refine r_aload_n C (k := 0) rfl rfl dX4_copyFrom_54 ?_
  refine r_aload_n C (k := 1) rfl rfl dX4_copyFrom_55 ?_
  refine og_1_6 C (hW.ok (k1 hj2 hp)) (congrFun (congrFun (show (S8, Ω.2).1 = S8 from rfl) j2) p) wm1_74 dX4_copyFrom_56 ?_
  obtain ⟨S9, eS9, hF⟩ := lt_e hF
  refine op_1_6 C hW.x (Or.inl (k1 hj hp)) (hW.fr (k1 hj hp)) (congrFun (congrFun (show (S8, Ω.2).1 = S8 from rfl) j) p) wm1_74 dX4_copyFrom_59 (congrArg (fun z => (z, Ω.2)) eS9) ?_
  refine r_aload_n C (k := 0) rfl rfl dX4_copyFrom_62 ?_
  refine r_aload_n C (k := 1) rfl rfl dX4_copyFrom_63 ?_
  refine og_1_7 C (hW.ok (k1 hj2 hp)) (congrFun (congrFun (show (S9, Ω.2).1 = S9 from rfl) j2) p) wm1_77 dX4_copyFrom_64 ?_
  obtain ⟨S10, eS10, hF⟩ := lt_e hF
  refine op_1_7 C hW.x (Or.inl (k1 hj hp)) (hW.fr (k1 hj hp)) (congrFun (congrFun (show (S9, Ω.2).1 = S9 from rfl) j) p) wm1_77 dX4_copyFrom_67 (congrArg (fun z => (z, Ω.2)) eS10) ?_
  refine r_aload_n C (k := 0) rfl rfl dX4_copyFrom_70 ?_
  refine r_aload_n C (k := 1) rfl rfl dX4_copyFrom_71 ?_
  refine og_1_8 C (hW.ok (k1 hj2 hp)) (congrFun (congrFun (show (S10, Ω.2).1 = S10 from rfl) j2) p) wm1_80 dX4_copyFrom_72 ?_
  obtain ⟨S11, eS11, hF⟩ := lt_e hF
  refine op_1_8 C hW.x (Or.inl (k1 hj hp)) (hW.fr (k1 hj hp)) (congrFun (congrFun (show (S10, Ω.2).1 = S10 from rfl) j) p) wm1_80 dX4_copyFrom_75 (congrArg (fun z => (z, Ω.2)) eS11) ?_
  refine r_aload_n C (k := 0) rfl rfl dX4_copyFrom_78 ?_
  refine r_aload_n C (k := 1) rfl rfl dX4_copyFrom_79 ?_
  refine og_1_9 C (hW.ok (k1 hj2 hp)) (congrFun (congrFun (show (S11, Ω.2).1 = S11 from rfl) j2) p) wm1_83 dX4_copyFrom_80 ?_
  obtain ⟨S12, eS12, hF⟩ := lt_e hF
  refine op_1_9 C hW.x (Or.inl (k1 hj hp)) (hW.fr (k1 hj hp)) (congrFun (congrFun (show (S11, Ω.2).1 = S11 from rfl) j) p) wm1_83 dX4_copyFrom_83 (congrArg (fun z => (z, Ω.2)) eS12) ?_
  cases hF
  exact r_return C dX4_copyFrom_86
theorem dX7_copyFrom_0 : decode cX7_copyFrom 0 = .ok (.aload_n 0, 1) := by decide +kernel
theorem dX7_copyFrom_1 : decode cX7_copyFrom 1 = .ok (.getfield 14, 3) := by decide +kernel
theorem dX7_copyFrom_4 : decode cX7_copyFrom 4 = .ok (.aload_n 1, 1) := by decide +kernel
theorem dX7_copyFrom_5 : decode cX7_copyFrom 5 = .ok (.getfield 14, 3) := by decide +kernel
theorem dX7_copyFrom_8 : decode cX7_copyFrom 8 = .ok (.invokevirtual 26, 3) := by decide +kernel
theorem dX7_copyFrom_11 : decode cX7_copyFrom 11 = .ok (.aload_n 0, 1) := by decide +kernel
theorem dX7_copyFrom_12 : decode cX7_copyFrom 12 = .ok (.getfield 20, 3) := by decide +kernel
theorem dX7_copyFrom_15 : decode cX7_copyFrom 15 = .ok (.aload_n 1, 1) := by decide +kernel
theorem dX7_copyFrom_16 : decode cX7_copyFrom 16 = .ok (.getfield 20, 3) := by decide +kernel
theorem dX7_copyFrom_19 : decode cX7_copyFrom 19 = .ok (.invokevirtual 26, 3) := by decide +kernel
theorem dX7_copyFrom_22 : decode cX7_copyFrom 22 = .ok (.aload_n 0, 1) := by decide +kernel
theorem dX7_copyFrom_23 : decode cX7_copyFrom 23 = .ok (.getfield 23, 3) := by decide +kernel
theorem dX7_copyFrom_26 : decode cX7_copyFrom 26 = .ok (.aload_n 1, 1) := by decide +kernel
theorem dX7_copyFrom_27 : decode cX7_copyFrom 27 = .ok (.getfield 23, 3) := by decide +kernel
theorem dX7_copyFrom_30 : decode cX7_copyFrom 30 = .ok (.invokevirtual 26, 3) := by decide +kernel
theorem dX7_copyFrom_33 : decode cX7_copyFrom 33 = .ok (.aload_n 0, 1) := by decide +kernel
theorem dX7_copyFrom_34 : decode cX7_copyFrom 34 = .ok (.aload_n 1, 1) := by decide +kernel
theorem dX7_copyFrom_35 : decode cX7_copyFrom 35 = .ok (.getfield 30, 3) := by decide +kernel
theorem dX7_copyFrom_38 : decode cX7_copyFrom 38 = .ok (.putfield 30, 3) := by decide +kernel
theorem dX7_copyFrom_41 : decode cX7_copyFrom 41 = .ok (.return_, 1) := by decide +kernel
def F_X7_copyFrom (j : Nat) (j2 : Nat) (S : Nat → Nat → HV) : Nat → Nat → HV := (lt (up S j (up (S j) 3 (sA (S j 3) 0 (rcpy 20 ((S j2 3).2 0) 20 ((S j 3).2 0) 0 0 (nI 20))))) fun S2 => (lt (up S2 j (up (S2 j) 3 (sA (S2 j 3) 1 (rcpy 20 ((S2 j2 3).2 1) 20 ((S2 j 3).2 1) 0 0 (nI 20))))) fun S4 => (lt (up S4 j (up (S4 j) 3 (sA (S4 j 3) 2 (rcpy 20 ((S4 j2 3).2 2) 20 ((S4 j 3).2 2) 0 0 (nI 20))))) fun S6 => (lt (up S6 j (up (S6 j) 3 (sS (S6 j 3) 3 ((S6 j2 3).1 3)))) fun S7 => S7))))
theorem c_X7_copyFrom {w : WP} (hW : gW w) {Ω : OM} {j j2 : Nat} (hj : j ≤ 10) (hj2 : j2 ≤ 10) {S : Nat → Nat → HV} (e : Ω.1 = S)  {S' : Nat → Nat → HV} (hF : F_X7_copyFrom j j2 S = S') {Ω' : OM} (e2 : (S', Ω.2) = Ω') : gM w 3 yX7_copyFrom cX7_copyFrom 2 none [.ref (wAd w (2, j, 3, 0)), .ref (wAd w (2, j2, 3, 0))] (cA w Ω) none (cA w Ω') := by
  refine gM_of "HedgeMessages$PostedMessages" rfl (by decide) (kR rfl) fun X C => ?_
  unfold F_X7_copyFrom at hF
  subst e2
  show gV w X _ _ 0 [(0, .ref (wAd w (2, j, 3, 0))), (1, .ref (wAd w (2, j2, 3, 0)))] []
  refine r_ct (ct' := cA w (S, Ω.2)) (by rw [← e]) ?_
  refine r_aload_n C (k := 0) rfl rfl dX7_copyFrom_0 ?_
  refine og_2_0 C (hW.ok (k2 hj)) wm1_115 dX7_copyFrom_1 ?_
  refine r_aload_n C (k := 1) rfl rfl dX7_copyFrom_4 ?_
  refine og_2_0 C (hW.ok (k2 hj2)) wm1_115 dX7_copyFrom_5 ?_
  obtain ⟨S2, eS2, hF⟩ := lt_e hF
  refine r_callV C (d' := 2) [.ref (wAd w (3, j2, 3, 0))] (c_rcpyF hW.x (Or.inl (show okC (4, j, 3, 0) from (q3 hj (kR rfl)))) (hW.ok (i := (3, j, 3, 0)) (q3 hj (kR rfl))) (hW.ok (i := (4, j, 3, 0)) (q3 hj (kR rfl))) (hW.fr (i := (4, j, 3, 0)) (q3 hj (kR rfl))) (hW.ok (i := (3, j2, 3, 0)) (q3 hj2 (kR rfl))) (hW.ok (i := (4, j2, 3, 0)) (q3 hj2 (kR rfl))) (show rlen 3 0 = 20 from rfl) (by decide) (show rlen 3 0 = 20 from rfl) (by decide) (congrFun (congrFun (show (S, Ω.2).1 = S from rfl) j) 3) (congrArg (fun z => z.2 0) (congrFun (congrFun (show (S, Ω.2).1 = S from rfl) j2) 3)) rfl (congrArg (fun z => (z, Ω.2)) eS2)) myX8_copyFrom wm2_213 ⟨_, _, _, _, (hW.ok (i := (3, j, 3, 0)) (q3 hj (kR rfl))), rfl, rfl, rfl, rfl⟩ rfl (kR rfl) (by decide) (kR rfl) rfl dX7_copyFrom_8 ?_
  refine r_aload_n C (k := 0) rfl rfl dX7_copyFrom_11 ?_
  refine og_2_1 C (hW.ok (k2 hj)) wm1_117 dX7_copyFrom_12 ?_
  refine r_aload_n C (k := 1) rfl rfl dX7_copyFrom_15 ?_
  refine og_2_1 C (hW.ok (k2 hj2)) wm1_117 dX7_copyFrom_16 ?_
  obtain ⟨S4, eS4, hF⟩ := lt_e hF
  refine r_callV C (d' := 2) [.ref (wAd w (3, j2, 3, 1))] (c_rcpyF hW.x (Or.inl (show okC (4, j, 3, 1) from (q3 hj (kR rfl)))) (hW.ok (i := (3, j, 3, 1)) (q3 hj (kR rfl))) (hW.ok (i := (4, j, 3, 1)) (q3 hj (kR rfl))) (hW.fr (i := (4, j, 3, 1)) (q3 hj (kR rfl))) (hW.ok (i := (3, j2, 3, 1)) (q3 hj2 (kR rfl))) (hW.ok (i := (4, j2, 3, 1)) (q3 hj2 (kR rfl))) (show rlen 3 1 = 20 from rfl) (by decide) (show rlen 3 1 = 20 from rfl) (by decide) (congrFun (congrFun (show (S2, Ω.2).1 = S2 from rfl) j) 3) (congrArg (fun z => z.2 1) (congrFun (congrFun (show (S2, Ω.2).1 = S2 from rfl) j2) 3)) rfl (congrArg (fun z => (z, Ω.2)) eS4)) myX8_copyFrom wm2_213 ⟨_, _, _, _, (hW.ok (i := (3, j, 3, 1)) (q3 hj (kR rfl))), rfl, rfl, rfl, rfl⟩ rfl (kR rfl) (by decide) (kR rfl) rfl dX7_copyFrom_19 ?_
  refine r_aload_n C (k := 0) rfl rfl dX7_copyFrom_22 ?_
  refine og_2_2 C (hW.ok (k2 hj)) wm1_119 dX7_copyFrom_23 ?_
  refine r_aload_n C (k := 1) rfl rfl dX7_copyFrom_26 ?_
  refine og_2_2 C (hW.ok (k2 hj2)) wm1_119 dX7_copyFrom_27 ?_
  obtain ⟨S6, eS6, hF⟩ := lt_e hF
  refine r_callV C (d' := 2) [.ref (wAd w (3, j2, 3, 2))] (c_rcpyF hW.x (Or.inl (show okC (4, j, 3, 2) from (q3 hj (kR rfl)))) (hW.ok (i := (3, j, 3, 2)) (q3 hj (kR rfl))) (hW.ok (i := (4, j, 3, 2)) (q3 hj (kR rfl))) (hW.fr (i := (4, j, 3, 2)) (q3 hj (kR rfl))) (hW.ok (i := (3, j2, 3, 2)) (q3 hj2 (kR rfl))) (hW.ok (i := (4, j2, 3, 2)) (q3 hj2 (kR rfl))) (show rlen 3 2 = 20 from rfl) (by decide) (show rlen 3 2 = 20 from rfl) (by decide) (congrFun (congrFun (show (S4, Ω.2).1 = S4 from rfl) j) 3) (congrArg (fun z => z.2 2) (congrFun (congrFun (show (S4, Ω.2).1 = S4 from rfl) j2) 3)) rfl (congrArg (fun z => (z, Ω.2)) eS6)) myX8_copyFrom wm2_213 ⟨_, _, _, _, (hW.ok (i := (3, j, 3, 2)) (q3 hj (kR rfl))), rfl, rfl, rfl, rfl⟩ rfl (kR rfl) (by decide) (kR rfl) rfl dX7_copyFrom_30 ?_
  refine r_aload_n C (k := 0) rfl rfl dX7_copyFrom_33 ?_
  refine r_aload_n C (k := 1) rfl rfl dX7_copyFrom_34 ?_
  refine og_2_3 C (hW.ok (k2 hj2)) (congrFun (congrFun (show (S6, Ω.2).1 = S6 from rfl) j2) 3) wm1_121 dX7_copyFrom_35 ?_
  obtain ⟨S7, eS7, hF⟩ := lt_e hF
  refine op_2_3 C hW.x (Or.inl (k2 hj)) (hW.fr (k2 hj)) (congrFun (congrFun (show (S6, Ω.2).1 = S6 from rfl) j) 3) wm1_121 dX7_copyFrom_38 (congrArg (fun z => (z, Ω.2)) eS7) ?_
  cases hF
  exact r_return C dX7_copyFrom_41
theorem dX5_copyFrom_0 : decode cX5_copyFrom 0 = .ok (.aload_n 0, 1) := by decide +kernel
theorem dX5_copyFrom_1 : decode cX5_copyFrom 1 = .ok (.aload_n 1, 1) := by decide +kernel
theorem dX5_copyFrom_2 : decode cX5_copyFrom 2 = .ok (.getfield 49, 3) := by decide +kernel
theorem dX5_copyFrom_5 : decode cX5_copyFrom 5 = .ok (.putfield 49, 3) := by decide +kernel
theorem dX5_copyFrom_8 : decode cX5_copyFrom 8 = .ok (.aload_n 0, 1) := by decide +kernel
theorem dX5_copyFrom_9 : decode cX5_copyFrom 9 = .ok (.aload_n 1, 1) := by decide +kernel
theorem dX5_copyFrom_10 : decode cX5_copyFrom 10 = .ok (.getfield 53, 3) := by decide +kernel
theorem dX5_copyFrom_13 : decode cX5_copyFrom 13 = .ok (.putfield 53, 3) := by decide +kernel
theorem dX5_copyFrom_16 : decode cX5_copyFrom 16 = .ok (.aload_n 0, 1) := by decide +kernel
theorem dX5_copyFrom_17 : decode cX5_copyFrom 17 = .ok (.aload_n 1, 1) := by decide +kernel
theorem dX5_copyFrom_18 : decode cX5_copyFrom 18 = .ok (.getfield 56, 3) := by decide +kernel
theorem dX5_copyFrom_21 : decode cX5_copyFrom 21 = .ok (.putfield 56, 3) := by decide +kernel
theorem dX5_copyFrom_24 : decode cX5_copyFrom 24 = .ok (.aload_n 0, 1) := by decide +kernel
theorem dX5_copyFrom_25 : decode cX5_copyFrom 25 = .ok (.aload_n 1, 1) := by decide +kernel
theorem dX5_copyFrom_26 : decode cX5_copyFrom 26 = .ok (.getfield 59, 3) := by decide +kernel
theorem dX5_copyFrom_29 : decode cX5_copyFrom 29 = .ok (.putfield 59, 3) := by decide +kernel
theorem dX5_copyFrom_32 : decode cX5_copyFrom 32 = .ok (.aload_n 0, 1) := by decide +kernel
theorem dX5_copyFrom_33 : decode cX5_copyFrom 33 = .ok (.aload_n 1, 1) := by decide +kernel
theorem dX5_copyFrom_34 : decode cX5_copyFrom 34 = .ok (.getfield 62, 3) := by decide +kernel
theorem dX5_copyFrom_37 : decode cX5_copyFrom 37 = .ok (.putfield 62, 3) := by decide +kernel
theorem dX5_copyFrom_40 : decode cX5_copyFrom 40 = .ok (.aload_n 0, 1) := by decide +kernel
theorem dX5_copyFrom_41 : decode cX5_copyFrom 41 = .ok (.aload_n 1, 1) := by decide +kernel
theorem dX5_copyFrom_42 : decode cX5_copyFrom 42 = .ok (.getfield 65, 3) := by decide +kernel
theorem dX5_copyFrom_45 : decode cX5_copyFrom 45 = .ok (.putfield 65, 3) := by decide +kernel
theorem dX5_copyFrom_48 : decode cX5_copyFrom 48 = .ok (.aload_n 0, 1) := by decide +kernel
theorem dX5_copyFrom_49 : decode cX5_copyFrom 49 = .ok (.aload_n 1, 1) := by decide +kernel
theorem dX5_copyFrom_50 : decode cX5_copyFrom 50 = .ok (.getfield 68, 3) := by decide +kernel
theorem dX5_copyFrom_53 : decode cX5_copyFrom 53 = .ok (.putfield 68, 3) := by decide +kernel
theorem dX5_copyFrom_56 : decode cX5_copyFrom 56 = .ok (.aload_n 0, 1) := by decide +kernel
theorem dX5_copyFrom_57 : decode cX5_copyFrom 57 = .ok (.aload_n 1, 1) := by decide +kernel
theorem dX5_copyFrom_58 : decode cX5_copyFrom 58 = .ok (.getfield 71, 3) := by decide +kernel
theorem dX5_copyFrom_61 : decode cX5_copyFrom 61 = .ok (.putfield 71, 3) := by decide +kernel
theorem dX5_copyFrom_64 : decode cX5_copyFrom 64 = .ok (.aload_n 0, 1) := by decide +kernel
theorem dX5_copyFrom_65 : decode cX5_copyFrom 65 = .ok (.getfield 14, 3) := by decide +kernel
theorem dX5_copyFrom_68 : decode cX5_copyFrom 68 = .ok (.aload_n 1, 1) := by decide +kernel
theorem dX5_copyFrom_69 : decode cX5_copyFrom 69 = .ok (.getfield 14, 3) := by decide +kernel
theorem dX5_copyFrom_72 : decode cX5_copyFrom 72 = .ok (.invokevirtual 74, 3) := by decide +kernel
theorem dX5_copyFrom_75 : decode cX5_copyFrom 75 = .ok (.aload_n 0, 1) := by decide +kernel
theorem dX5_copyFrom_76 : decode cX5_copyFrom 76 = .ok (.getfield 20, 3) := by decide +kernel
theorem dX5_copyFrom_79 : decode cX5_copyFrom 79 = .ok (.aload_n 1, 1) := by decide +kernel
theorem dX5_copyFrom_80 : decode cX5_copyFrom 80 = .ok (.getfield 20, 3) := by decide +kernel
theorem dX5_copyFrom_83 : decode cX5_copyFrom 83 = .ok (.invokevirtual 74, 3) := by decide +kernel
theorem dX5_copyFrom_86 : decode cX5_copyFrom 86 = .ok (.aload_n 0, 1) := by decide +kernel
theorem dX5_copyFrom_87 : decode cX5_copyFrom 87 = .ok (.getfield 23, 3) := by decide +kernel
theorem dX5_copyFrom_90 : decode cX5_copyFrom 90 = .ok (.aload_n 1, 1) := by decide +kernel
theorem dX5_copyFrom_91 : decode cX5_copyFrom 91 = .ok (.getfield 23, 3) := by decide +kernel
theorem dX5_copyFrom_94 : decode cX5_copyFrom 94 = .ok (.invokevirtual 74, 3) := by decide +kernel
theorem dX5_copyFrom_97 : decode cX5_copyFrom 97 = .ok (.aload_n 0, 1) := by decide +kernel
theorem dX5_copyFrom_98 : decode cX5_copyFrom 98 = .ok (.getfield 26, 3) := by decide +kernel
theorem dX5_copyFrom_101 : decode cX5_copyFrom 101 = .ok (.aload_n 1, 1) := by decide +kernel
theorem dX5_copyFrom_102 : decode cX5_copyFrom 102 = .ok (.getfield 26, 3) := by decide +kernel
theorem dX5_copyFrom_105 : decode cX5_copyFrom 105 = .ok (.invokevirtual 74, 3) := by decide +kernel
theorem dX5_copyFrom_108 : decode cX5_copyFrom 108 = .ok (.aload_n 0, 1) := by decide +kernel
theorem dX5_copyFrom_109 : decode cX5_copyFrom 109 = .ok (.getfield 29, 3) := by decide +kernel
theorem dX5_copyFrom_112 : decode cX5_copyFrom 112 = .ok (.aload_n 1, 1) := by decide +kernel
theorem dX5_copyFrom_113 : decode cX5_copyFrom 113 = .ok (.getfield 29, 3) := by decide +kernel
theorem dX5_copyFrom_116 : decode cX5_copyFrom 116 = .ok (.invokevirtual 74, 3) := by decide +kernel
theorem dX5_copyFrom_119 : decode cX5_copyFrom 119 = .ok (.aload_n 0, 1) := by decide +kernel
theorem dX5_copyFrom_120 : decode cX5_copyFrom 120 = .ok (.getfield 35, 3) := by decide +kernel
theorem dX5_copyFrom_123 : decode cX5_copyFrom 123 = .ok (.aload_n 1, 1) := by decide +kernel
theorem dX5_copyFrom_124 : decode cX5_copyFrom 124 = .ok (.getfield 35, 3) := by decide +kernel
theorem dX5_copyFrom_127 : decode cX5_copyFrom 127 = .ok (.invokevirtual 78, 3) := by decide +kernel
theorem dX5_copyFrom_130 : decode cX5_copyFrom 130 = .ok (.aload_n 0, 1) := by decide +kernel
theorem dX5_copyFrom_131 : decode cX5_copyFrom 131 = .ok (.getfield 39, 3) := by decide +kernel
theorem dX5_copyFrom_134 : decode cX5_copyFrom 134 = .ok (.aload_n 1, 1) := by decide +kernel
theorem dX5_copyFrom_135 : decode cX5_copyFrom 135 = .ok (.getfield 39, 3) := by decide +kernel
theorem dX5_copyFrom_138 : decode cX5_copyFrom 138 = .ok (.invokevirtual 78, 3) := by decide +kernel
theorem dX5_copyFrom_141 : decode cX5_copyFrom 141 = .ok (.aload_n 0, 1) := by decide +kernel
theorem dX5_copyFrom_142 : decode cX5_copyFrom 142 = .ok (.getfield 45, 3) := by decide +kernel
theorem dX5_copyFrom_145 : decode cX5_copyFrom 145 = .ok (.aload_n 1, 1) := by decide +kernel
theorem dX5_copyFrom_146 : decode cX5_copyFrom 146 = .ok (.getfield 45, 3) := by decide +kernel
theorem dX5_copyFrom_149 : decode cX5_copyFrom 149 = .ok (.invokevirtual 81, 3) := by decide +kernel
theorem dX5_copyFrom_152 : decode cX5_copyFrom 152 = .ok (.aload_n 0, 1) := by decide +kernel
theorem dX5_copyFrom_153 : decode cX5_copyFrom 153 = .ok (.aload_n 1, 1) := by decide +kernel
theorem dX5_copyFrom_154 : decode cX5_copyFrom 154 = .ok (.getfield 84, 3) := by decide +kernel
theorem dX5_copyFrom_157 : decode cX5_copyFrom 157 = .ok (.putfield 84, 3) := by decide +kernel
theorem dX5_copyFrom_160 : decode cX5_copyFrom 160 = .ok (.aload_n 0, 1) := by decide +kernel
theorem dX5_copyFrom_161 : decode cX5_copyFrom 161 = .ok (.aload_n 1, 1) := by decide +kernel
theorem dX5_copyFrom_162 : decode cX5_copyFrom 162 = .ok (.getfield 87, 3) := by decide +kernel
theorem dX5_copyFrom_165 : decode cX5_copyFrom 165 = .ok (.putfield 87, 3) := by decide +kernel
theorem dX5_copyFrom_168 : decode cX5_copyFrom 168 = .ok (.aload_n 0, 1) := by decide +kernel
theorem dX5_copyFrom_169 : decode cX5_copyFrom 169 = .ok (.aload_n 1, 1) := by decide +kernel
theorem dX5_copyFrom_170 : decode cX5_copyFrom 170 = .ok (.getfield 90, 3) := by decide +kernel
theorem dX5_copyFrom_173 : decode cX5_copyFrom 173 = .ok (.putfield 90, 3) := by decide +kernel
theorem dX5_copyFrom_176 : decode cX5_copyFrom 176 = .ok (.return_, 1) := by decide +kernel
def F_X5_copyFrom (j : Nat) (j2 : Nat) (S : Nat → Nat → HV) : Nat → Nat → HV := (lt (up S j (up (S j) 0 (sS (S j 0) 0 ((S j2 0).1 0)))) fun S1 => (lt (up S1 j (up (S1 j) 0 (sS (S1 j 0) 1 ((S1 j2 0).1 1)))) fun S2 => (lt (up S2 j (up (S2 j) 0 (sS (S2 j 0) 2 ((S2 j2 0).1 2)))) fun S3 => (lt (up S3 j (up (S3 j) 0 (sS (S3 j 0) 3 ((S3 j2 0).1 3)))) fun S4 => (lt (up S4 j (up (S4 j) 0 (sS (S4 j 0) 4 ((S4 j2 0).1 4)))) fun S5 => (lt (up S5 j (up (S5 j) 0 (sS (S5 j 0) 5 ((S5 j2 0).1 5)))) fun S6 => (lt (up S6 j (up (S6 j) 0 (sS (S6 j 0) 6 ((S6 j2 0).1 6)))) fun S7 => (lt (up S7 j (up (S7 j) 0 (sS (S7 j 0) 7 ((S7 j2 0).1 7)))) fun S8 => (lt (up S8 j (up (S8 j) 0 (sA (S8 j 0) 0 (rcpy 40 ((S8 j2 0).2 0) 40 ((S8 j 0).2 0) 0 0 (nI 40))))) fun S10 => (lt (up S10 j (up (S10 j) 0 (sA (S10 j 0) 1 (rcpy 40 ((S10 j2 0).2 1) 40 ((S10 j 0).2 1) 0 0 (nI 40))))) fun S12 => (lt (up S12 j (up (S12 j) 0 (sA (S12 j 0) 2 (rcpy 40 ((S12 j2 0).2 2) 40 ((S12 j 0).2 2) 0 0 (nI 40))))) fun S14 => (lt (up S14 j (up (S14 j) 0 (sA (S14 j 0) 3 (rcpy 40 ((S14 j2 0).2 3) 40 ((S14 j 0).2 3) 0 0 (nI 40))))) fun S16 => (lt (up S16 j (up (S16 j) 0 (sA (S16 j 0) 4 (rcpy 40 ((S16 j2 0).2 4) 40 ((S16 j 0).2 4) 0 0 (nI 40))))) fun S18 => (lt (F_X4_copyFrom j j2 1 S18) fun S20 => (lt (F_X4_copyFrom j j2 2 S20) fun S22 => (lt (F_X7_copyFrom j j2 S22) fun S24 => (lt (up S24 j (up (S24 j) 0 (sS (S24 j 0) 16 ((S24 j2 0).1 16)))) fun S25 => (lt (up S25 j (up (S25 j) 0 (sS (S25 j 0) 17 ((S25 j2 0).1 17)))) fun S26 => (lt (up S26 j (up (S26 j) 0 (sS (S26 j 0) 18 ((S26 j2 0).1 18)))) fun S27 => S27)))))))))))))))))))
theorem c_X5_copyFrom {w : WP} (hW : gW w) {Ω : OM} {j j2 : Nat} (hj : j ≤ 10) (hj2 : j2 ≤ 10) {S : Nat → Nat → HV} (e : Ω.1 = S)  {S' : Nat → Nat → HV} (hF : F_X5_copyFrom j j2 S = S') {Ω' : OM} (e2 : (S', Ω.2) = Ω') : gM w 4 yX5_copyFrom cX5_copyFrom 2 none [.ref (wAd w (0, j, 0, 0)), .ref (wAd w (0, j2, 0, 0))] (cA w Ω) none (cA w Ω') := by
  refine gM_of "HedgeMessages$Hedge" rfl (by decide) (kR rfl) fun X C => ?_
  unfold F_X5_copyFrom at hF
  subst e2
  show gV w X _ _ 0 [(0, .ref (wAd w (0, j, 0, 0))), (1, .ref (wAd w (0, j2, 0, 0)))] []
  refine r_ct (ct' := cA w (S, Ω.2)) (by rw [← e]) ?_
  refine r_aload_n C (k := 0) rfl rfl dX5_copyFrom_0 ?_
  refine r_aload_n C (k := 1) rfl rfl dX5_copyFrom_1 ?_
  refine og_0_0 C (hW.ok (k0 hj2)) (congrFun (congrFun (show (S, Ω.2).1 = S from rfl) j2) 0) wm1_133 dX5_copyFrom_2 ?_
  obtain ⟨S1, eS1, hF⟩ := lt_e hF
  refine op_0_0 C hW.x (Or.inl (k0 hj)) (hW.fr (k0 hj)) (congrFun (congrFun (show (S, Ω.2).1 = S from rfl) j) 0) wm1_133 dX5_copyFrom_5 (congrArg (fun z => (z, Ω.2)) eS1) ?_
  refine r_aload_n C (k := 0) rfl rfl dX5_copyFrom_8 ?_
  refine r_aload_n C (k := 1) rfl rfl dX5_copyFrom_9 ?_
  refine og_0_1 C (hW.ok (k0 hj2)) (congrFun (congrFun (show (S1, Ω.2).1 = S1 from rfl) j2) 0) wm1_136 dX5_copyFrom_10 ?_
  obtain ⟨S2, eS2, hF⟩ := lt_e hF
  refine op_0_1 C hW.x (Or.inl (k0 hj)) (hW.fr (k0 hj)) (congrFun (congrFun (show (S1, Ω.2).1 = S1 from rfl) j) 0) wm1_136 dX5_copyFrom_13 (congrArg (fun z => (z, Ω.2)) eS2) ?_
  refine r_aload_n C (k := 0) rfl rfl dX5_copyFrom_16 ?_
  refine r_aload_n C (k := 1) rfl rfl dX5_copyFrom_17 ?_
  refine og_0_2 C (hW.ok (k0 hj2)) (congrFun (congrFun (show (S2, Ω.2).1 = S2 from rfl) j2) 0) wm1_138 dX5_copyFrom_18 ?_
  obtain ⟨S3, eS3, hF⟩ := lt_e hF
  refine op_0_2 C hW.x (Or.inl (k0 hj)) (hW.fr (k0 hj)) (congrFun (congrFun (show (S2, Ω.2).1 = S2 from rfl) j) 0) wm1_138 dX5_copyFrom_21 (congrArg (fun z => (z, Ω.2)) eS3) ?_
  refine r_aload_n C (k := 0) rfl rfl dX5_copyFrom_24 ?_
  refine r_aload_n C (k := 1) rfl rfl dX5_copyFrom_25 ?_
  refine og_0_3 C (hW.ok (k0 hj2)) (congrFun (congrFun (show (S3, Ω.2).1 = S3 from rfl) j2) 0) wm1_139 dX5_copyFrom_26 ?_
  obtain ⟨S4, eS4, hF⟩ := lt_e hF
  refine op_0_3 C hW.x (Or.inl (k0 hj)) (hW.fr (k0 hj)) (congrFun (congrFun (show (S3, Ω.2).1 = S3 from rfl) j) 0) wm1_139 dX5_copyFrom_29 (congrArg (fun z => (z, Ω.2)) eS4) ?_
  refine r_aload_n C (k := 0) rfl rfl dX5_copyFrom_32 ?_
  refine r_aload_n C (k := 1) rfl rfl dX5_copyFrom_33 ?_
  refine og_0_4 C (hW.ok (k0 hj2)) (congrFun (congrFun (show (S4, Ω.2).1 = S4 from rfl) j2) 0) wm1_140 dX5_copyFrom_34 ?_
  obtain ⟨S5, eS5, hF⟩ := lt_e hF
  refine op_0_4 C hW.x (Or.inl (k0 hj)) (hW.fr (k0 hj)) (congrFun (congrFun (show (S4, Ω.2).1 = S4 from rfl) j) 0) wm1_140 dX5_copyFrom_37 (congrArg (fun z => (z, Ω.2)) eS5) ?_
  refine r_aload_n C (k := 0) rfl rfl dX5_copyFrom_40 ?_
  refine r_aload_n C (k := 1) rfl rfl dX5_copyFrom_41 ?_
  refine og_0_5 C (hW.ok (k0 hj2)) (congrFun (congrFun (show (S5, Ω.2).1 = S5 from rfl) j2) 0) wm1_141 dX5_copyFrom_42 ?_
  obtain ⟨S6, eS6, hF⟩ := lt_e hF
  refine op_0_5 C hW.x (Or.inl (k0 hj)) (hW.fr (k0 hj)) (congrFun (congrFun (show (S5, Ω.2).1 = S5 from rfl) j) 0) wm1_141 dX5_copyFrom_45 (congrArg (fun z => (z, Ω.2)) eS6) ?_
  refine r_aload_n C (k := 0) rfl rfl dX5_copyFrom_48 ?_
  refine r_aload_n C (k := 1) rfl rfl dX5_copyFrom_49 ?_
  refine og_0_6 C (hW.ok (k0 hj2)) (congrFun (congrFun (show (S6, Ω.2).1 = S6 from rfl) j2) 0) wm1_142 dX5_copyFrom_50 ?_
  obtain ⟨S7, eS7, hF⟩ := lt_e hF
  refine op_0_6 C hW.x (Or.inl (k0 hj)) (hW.fr (k0 hj)) (congrFun (congrFun (show (S6, Ω.2).1 = S6 from rfl) j) 0) wm1_142 dX5_copyFrom_53 (congrArg (fun z => (z, Ω.2)) eS7) ?_
  refine r_aload_n C (k := 0) rfl rfl dX5_copyFrom_56 ?_
  refine r_aload_n C (k := 1) rfl rfl dX5_copyFrom_57 ?_
  refine og_0_7 C (hW.ok (k0 hj2)) (congrFun (congrFun (show (S7, Ω.2).1 = S7 from rfl) j2) 0) wm1_144 dX5_copyFrom_58 ?_
  obtain ⟨S8, eS8, hF⟩ := lt_e hF
  refine op_0_7 C hW.x (Or.inl (k0 hj)) (hW.fr (k0 hj)) (congrFun (congrFun (show (S7, Ω.2).1 = S7 from rfl) j) 0) wm1_144 dX5_copyFrom_61 (congrArg (fun z => (z, Ω.2)) eS8) ?_
  refine r_aload_n C (k := 0) rfl rfl dX5_copyFrom_64 ?_
  refine og_0_8 C (hW.ok (k0 hj)) wm1_146 dX5_copyFrom_65 ?_
  refine r_aload_n C (k := 1) rfl rfl dX5_copyFrom_68 ?_
  refine og_0_8 C (hW.ok (k0 hj2)) wm1_146 dX5_copyFrom_69 ?_
  obtain ⟨S10, eS10, hF⟩ := lt_e hF
  refine r_callV C (d' := 2) [.ref (wAd w (3, j2, 0, 0))] (c_rcpyF hW.x (Or.inl (show okC (4, j, 0, 0) from (q0 hj (kR rfl)))) (hW.ok (i := (3, j, 0, 0)) (q0 hj (kR rfl))) (hW.ok (i := (4, j, 0, 0)) (q0 hj (kR rfl))) (hW.fr (i := (4, j, 0, 0)) (q0 hj (kR rfl))) (hW.ok (i := (3, j2, 0, 0)) (q0 hj2 (kR rfl))) (hW.ok (i := (4, j2, 0, 0)) (q0 hj2 (kR rfl))) (show rlen 0 0 = 40 from rfl) (by decide) (show rlen 0 0 = 40 from rfl) (by decide) (congrFun (congrFun (show (S8, Ω.2).1 = S8 from rfl) j) 0) (congrArg (fun z => z.2 0) (congrFun (congrFun (show (S8, Ω.2).1 = S8 from rfl) j2) 0)) rfl (congrArg (fun z => (z, Ω.2)) eS10)) myX8_copyFrom wm2_199 ⟨_, _, _, _, (hW.ok (i := (3, j, 0, 0)) (q0 hj (kR rfl))), rfl, rfl, rfl, rfl⟩ rfl (kR rfl) (by decide) (kR rfl) rfl dX5_copyFrom_72 ?_
  refine r_aload_n C (k := 0) rfl rfl dX5_copyFrom_75 ?_
  refine og_0_9 C (hW.ok (k0 hj)) wm1_148 dX5_copyFrom_76 ?_
  refine r_aload_n C (k := 1) rfl rfl dX5_copyFrom_79 ?_
  refine og_0_9 C (hW.ok (k0 hj2)) wm1_148 dX5_copyFrom_80 ?_
  obtain ⟨S12, eS12, hF⟩ := lt_e hF
  refine r_callV C (d' := 2) [.ref (wAd w (3, j2, 0, 1))] (c_rcpyF hW.x (Or.inl (show okC (4, j, 0, 1) from (q0 hj (kR rfl)))) (hW.ok (i := (3, j, 0, 1)) (q0 hj (kR rfl))) (hW.ok (i := (4, j, 0, 1)) (q0 hj (kR rfl))) (hW.fr (i := (4, j, 0, 1)) (q0 hj (kR rfl))) (hW.ok (i := (3, j2, 0, 1)) (q0 hj2 (kR rfl))) (hW.ok (i := (4, j2, 0, 1)) (q0 hj2 (kR rfl))) (show rlen 0 1 = 40 from rfl) (by decide) (show rlen 0 1 = 40 from rfl) (by decide) (congrFun (congrFun (show (S10, Ω.2).1 = S10 from rfl) j) 0) (congrArg (fun z => z.2 1) (congrFun (congrFun (show (S10, Ω.2).1 = S10 from rfl) j2) 0)) rfl (congrArg (fun z => (z, Ω.2)) eS12)) myX8_copyFrom wm2_199 ⟨_, _, _, _, (hW.ok (i := (3, j, 0, 1)) (q0 hj (kR rfl))), rfl, rfl, rfl, rfl⟩ rfl (kR rfl) (by decide) (kR rfl) rfl dX5_copyFrom_83 ?_
  refine r_aload_n C (k := 0) rfl rfl dX5_copyFrom_86 ?_
  refine og_0_10 C (hW.ok (k0 hj)) wm1_150 dX5_copyFrom_87 ?_
  refine r_aload_n C (k := 1) rfl rfl dX5_copyFrom_90 ?_
  refine og_0_10 C (hW.ok (k0 hj2)) wm1_150 dX5_copyFrom_91 ?_
  obtain ⟨S14, eS14, hF⟩ := lt_e hF
  refine r_callV C (d' := 2) [.ref (wAd w (3, j2, 0, 2))] (c_rcpyF hW.x (Or.inl (show okC (4, j, 0, 2) from (q0 hj (kR rfl)))) (hW.ok (i := (3, j, 0, 2)) (q0 hj (kR rfl))) (hW.ok (i := (4, j, 0, 2)) (q0 hj (kR rfl))) (hW.fr (i := (4, j, 0, 2)) (q0 hj (kR rfl))) (hW.ok (i := (3, j2, 0, 2)) (q0 hj2 (kR rfl))) (hW.ok (i := (4, j2, 0, 2)) (q0 hj2 (kR rfl))) (show rlen 0 2 = 40 from rfl) (by decide) (show rlen 0 2 = 40 from rfl) (by decide) (congrFun (congrFun (show (S12, Ω.2).1 = S12 from rfl) j) 0) (congrArg (fun z => z.2 2) (congrFun (congrFun (show (S12, Ω.2).1 = S12 from rfl) j2) 0)) rfl (congrArg (fun z => (z, Ω.2)) eS14)) myX8_copyFrom wm2_199 ⟨_, _, _, _, (hW.ok (i := (3, j, 0, 2)) (q0 hj (kR rfl))), rfl, rfl, rfl, rfl⟩ rfl (kR rfl) (by decide) (kR rfl) rfl dX5_copyFrom_94 ?_
  refine r_aload_n C (k := 0) rfl rfl dX5_copyFrom_97 ?_
  refine og_0_11 C (hW.ok (k0 hj)) wm1_152 dX5_copyFrom_98 ?_
  refine r_aload_n C (k := 1) rfl rfl dX5_copyFrom_101 ?_
  refine og_0_11 C (hW.ok (k0 hj2)) wm1_152 dX5_copyFrom_102 ?_
  obtain ⟨S16, eS16, hF⟩ := lt_e hF
  refine r_callV C (d' := 2) [.ref (wAd w (3, j2, 0, 3))] (c_rcpyF hW.x (Or.inl (show okC (4, j, 0, 3) from (q0 hj (kR rfl)))) (hW.ok (i := (3, j, 0, 3)) (q0 hj (kR rfl))) (hW.ok (i := (4, j, 0, 3)) (q0 hj (kR rfl))) (hW.fr (i := (4, j, 0, 3)) (q0 hj (kR rfl))) (hW.ok (i := (3, j2, 0, 3)) (q0 hj2 (kR rfl))) (hW.ok (i := (4, j2, 0, 3)) (q0 hj2 (kR rfl))) (show rlen 0 3 = 40 from rfl) (by decide) (show rlen 0 3 = 40 from rfl) (by decide) (congrFun (congrFun (show (S14, Ω.2).1 = S14 from rfl) j) 0) (congrArg (fun z => z.2 3) (congrFun (congrFun (show (S14, Ω.2).1 = S14 from rfl) j2) 0)) rfl (congrArg (fun z => (z, Ω.2)) eS16)) myX8_copyFrom wm2_199 ⟨_, _, _, _, (hW.ok (i := (3, j, 0, 3)) (q0 hj (kR rfl))), rfl, rfl, rfl, rfl⟩ rfl (kR rfl) (by decide) (kR rfl) rfl dX5_copyFrom_105 ?_
  refine r_aload_n C (k := 0) rfl rfl dX5_copyFrom_108 ?_
  refine og_0_12 C (hW.ok (k0 hj)) wm1_155 dX5_copyFrom_109 ?_
  refine r_aload_n C (k := 1) rfl rfl dX5_copyFrom_112 ?_
  refine og_0_12 C (hW.ok (k0 hj2)) wm1_155 dX5_copyFrom_113 ?_
  obtain ⟨S18, eS18, hF⟩ := lt_e hF
  refine r_callV C (d' := 2) [.ref (wAd w (3, j2, 0, 4))] (c_rcpyF hW.x (Or.inl (show okC (4, j, 0, 4) from (q0 hj (kR rfl)))) (hW.ok (i := (3, j, 0, 4)) (q0 hj (kR rfl))) (hW.ok (i := (4, j, 0, 4)) (q0 hj (kR rfl))) (hW.fr (i := (4, j, 0, 4)) (q0 hj (kR rfl))) (hW.ok (i := (3, j2, 0, 4)) (q0 hj2 (kR rfl))) (hW.ok (i := (4, j2, 0, 4)) (q0 hj2 (kR rfl))) (show rlen 0 4 = 40 from rfl) (by decide) (show rlen 0 4 = 40 from rfl) (by decide) (congrFun (congrFun (show (S16, Ω.2).1 = S16 from rfl) j) 0) (congrArg (fun z => z.2 4) (congrFun (congrFun (show (S16, Ω.2).1 = S16 from rfl) j2) 0)) rfl (congrArg (fun z => (z, Ω.2)) eS18)) myX8_copyFrom wm2_199 ⟨_, _, _, _, (hW.ok (i := (3, j, 0, 4)) (q0 hj (kR rfl))), rfl, rfl, rfl, rfl⟩ rfl (kR rfl) (by decide) (kR rfl) rfl dX5_copyFrom_116 ?_
  refine r_aload_n C (k := 0) rfl rfl dX5_copyFrom_119 ?_
  refine og_0_13 C (hW.ok (k0 hj)) wm1_156 dX5_copyFrom_120 ?_
  refine r_aload_n C (k := 1) rfl rfl dX5_copyFrom_123 ?_
  refine og_0_13 C (hW.ok (k0 hj2)) wm1_156 dX5_copyFrom_124 ?_
  obtain ⟨S20, hS20, hF⟩ := lt_e hF
  refine r_callV C (d' := 3) [.ref (wAd w (1, j2, 1, 0))] (c_X4_copyFrom hW hj hj2 (Or.inl rfl) (show (S18, Ω.2).1 = S18 from rfl) hS20 rfl) myX4_copyFrom wm2_204 ⟨_, _, _, _, (hW.ok (k1 hj (Or.inl rfl))), rfl, rfl, rfl, rfl⟩ rfl (kR rfl) (by decide) (kR rfl) rfl dX5_copyFrom_127 ?_
  refine r_aload_n C (k := 0) rfl rfl dX5_copyFrom_130 ?_
  refine og_0_14 C (hW.ok (k0 hj)) wm1_158 dX5_copyFrom_131 ?_
  refine r_aload_n C (k := 1) rfl rfl dX5_copyFrom_134 ?_
  refine og_0_14 C (hW.ok (k0 hj2)) wm1_158 dX5_copyFrom_135 ?_
  obtain ⟨S22, hS22, hF⟩ := lt_e hF
  refine r_callV C (d' := 3) [.ref (wAd w (1, j2, 2, 0))] (c_X4_copyFrom hW hj hj2 (Or.inr rfl) (show (S20, Ω.2).1 = S20 from rfl) hS22 rfl) myX4_copyFrom wm2_204 ⟨_, _, _, _, (hW.ok (k1 hj (Or.inr rfl))), rfl, rfl, rfl, rfl⟩ rfl (kR rfl) (by decide) (kR rfl) rfl dX5_copyFrom_138 ?_
  refine r_aload_n C (k := 0) rfl rfl dX5_copyFrom_141 ?_
  refine og_0_15 C (hW.ok (k0 hj)) wm1_160 dX5_copyFrom_142 ?_
  refine r_aload_n C (k := 1) rfl rfl dX5_copyFrom_145 ?_
  refine og_0_15 C (hW.ok (k0 hj2)) wm1_160 dX5_copyFrom_146 ?_
  obtain ⟨S24, hS24, hF⟩ := lt_e hF
  refine r_callV C (d' := 3) [.ref (wAd w (2, j2, 3, 0))] (c_X7_copyFrom hW hj hj2 (show (S22, Ω.2).1 = S22 from rfl) hS24 rfl) myX7_copyFrom wm2_209 ⟨_, _, _, _, (hW.ok (k2 hj)), rfl, rfl, rfl, rfl⟩ rfl (kR rfl) (by decide) (kR rfl) rfl dX5_copyFrom_149 ?_
  refine r_aload_n C (k := 0) rfl rfl dX5_copyFrom_152 ?_
  refine r_aload_n C (k := 1) rfl rfl dX5_copyFrom_153 ?_
  refine og_0_16 C (hW.ok (k0 hj2)) (congrFun (congrFun (show (S24, Ω.2).1 = S24 from rfl) j2) 0) wm1_162 dX5_copyFrom_154 ?_
  obtain ⟨S25, eS25, hF⟩ := lt_e hF
  refine op_0_16 C hW.x (Or.inl (k0 hj)) (hW.fr (k0 hj)) (congrFun (congrFun (show (S24, Ω.2).1 = S24 from rfl) j) 0) wm1_162 dX5_copyFrom_157 (congrArg (fun z => (z, Ω.2)) eS25) ?_
  refine r_aload_n C (k := 0) rfl rfl dX5_copyFrom_160 ?_
  refine r_aload_n C (k := 1) rfl rfl dX5_copyFrom_161 ?_
  refine og_0_17 C (hW.ok (k0 hj2)) (congrFun (congrFun (show (S25, Ω.2).1 = S25 from rfl) j2) 0) wm1_164 dX5_copyFrom_162 ?_
  obtain ⟨S26, eS26, hF⟩ := lt_e hF
  refine op_0_17 C hW.x (Or.inl (k0 hj)) (hW.fr (k0 hj)) (congrFun (congrFun (show (S25, Ω.2).1 = S25 from rfl) j) 0) wm1_164 dX5_copyFrom_165 (congrArg (fun z => (z, Ω.2)) eS26) ?_
  refine r_aload_n C (k := 0) rfl rfl dX5_copyFrom_168 ?_
  refine r_aload_n C (k := 1) rfl rfl dX5_copyFrom_169 ?_
  refine og_0_18 C (hW.ok (k0 hj2)) (congrFun (congrFun (show (S26, Ω.2).1 = S26 from rfl) j2) 0) wm1_166 dX5_copyFrom_170 ?_
  obtain ⟨S27, eS27, hF⟩ := lt_e hF
  refine op_0_18 C hW.x (Or.inl (k0 hj)) (hW.fr (k0 hj)) (congrFun (congrFun (show (S26, Ω.2).1 = S26 from rfl) j) 0) wm1_166 dX5_copyFrom_173 (congrArg (fun z => (z, Ω.2)) eS27) ?_
  cases hF
  exact r_return C dX5_copyFrom_176
theorem dX5_plantByHand_0 : decode cX5_plantByHand 0 = .ok (.aload_n 0, 1) := by decide +kernel
theorem dX5_plantByHand_1 : decode cX5_plantByHand 1 = .ok (.iload_n 1, 1) := by decide +kernel
theorem dX5_plantByHand_2 : decode cX5_plantByHand 2 = .ok (.iload_n 2, 1) := by decide +kernel
theorem dX5_plantByHand_3 : decode cX5_plantByHand 3 = .ok (.aload_n 0, 1) := by decide +kernel
theorem dX5_plantByHand_4 : decode cX5_plantByHand 4 = .ok (.invokevirtual 182, 3) := by decide +kernel
theorem dX5_plantByHand_7 : decode cX5_plantByHand 7 = .ok (.iconst 1, 1) := by decide +kernel
theorem dX5_plantByHand_8 : decode cX5_plantByHand 8 = .ok (.invokevirtual 203, 3) := by decide +kernel
theorem dX5_plantByHand_11 : decode cX5_plantByHand 11 = .ok (.aload_n 0, 1) := by decide +kernel
theorem dX5_plantByHand_12 : decode cX5_plantByHand 12 = .ok (.dup, 1) := by decide +kernel
theorem dX5_plantByHand_13 : decode cX5_plantByHand 13 = .ok (.getfield 71, 3) := by decide +kernel
theorem dX5_plantByHand_16 : decode cX5_plantByHand 16 = .ok (.iconst 1, 1) := by decide +kernel
theorem dX5_plantByHand_17 : decode cX5_plantByHand 17 = .ok (.isub, 1) := by decide +kernel
theorem dX5_plantByHand_18 : decode cX5_plantByHand 18 = .ok (.putfield 71, 3) := by decide +kernel
theorem dX5_plantByHand_21 : decode cX5_plantByHand 21 = .ok (.return_, 1) := by decide +kernel
def F_X5_plantByHand (a1 : Int32) (a2 : Int32) (h : Nat → HV) : Nat → HV := (lt (F_X5_placeTwig a1 a2 (F_X5_active h) 1 h) fun h2 => (lt (up h2 0 (sS (h2 0) 7 (((h2 0).1 7) - 1))) fun h3 => h3))
theorem c_X5_plantByHand {w : WP} (hW : gW w) {Ω : OM} {j : Nat} (hj : j ≤ 10) {h : Nat → HV} (e : Ω.1 j = h) (a1 : Int32) (a2 : Int32) {h' : Nat → HV} (hF : F_X5_plantByHand a1 a2 h = h') {Ω' : OM} (e2 : (sH Ω j h') = Ω') : gM w 2 yX5_plantByHand cX5_plantByHand 3 none [.ref (wAd w (0, j, 0, 0)), .int a1, .int a2] (cA w Ω) none (cA w Ω') := by
  refine gM_of "HedgeMessages$Hedge" rfl (by decide) (kR rfl) fun X C => ?_
  unfold F_X5_plantByHand at hF
  subst e2
  show gV w X _ _ 0 [(0, .ref (wAd w (0, j, 0, 0))), (1, .int a1), (2, .int a2)] []
  refine r_ct (ct' := cA w (sH Ω j h)) (congrArg (cA w) (sH_i e).symm) ?_
  refine r_aload_n C (k := 0) rfl rfl dX5_plantByHand_0 ?_
  refine r_iload_n C (k := 1) rfl rfl dX5_plantByHand_1 ?_
  refine r_iload_n C (k := 2) rfl rfl dX5_plantByHand_2 ?_
  refine r_aload_n C (k := 0) rfl rfl dX5_plantByHand_3 ?_
  refine r_callV C (d' := 0) [] (c_X5_active hW hj (sH_g (Ω := Ω) (j := j) (h := h)) rfl) myX5_active wm4_15 ⟨_, _, _, _, (hW.ok (k0 hj)), rfl, rfl, rfl, rfl⟩ rfl (kR rfl) (by decide) (kR rfl) rfl dX5_plantByHand_4 ?_
  refine r_iconst C (v := 1) rfl dX5_plantByHand_7 ?_
  obtain ⟨h2, hh2, hF⟩ := lt_e hF
  refine r_callV C (d' := 1) [.int a1, .int a2, .int (F_X5_active h), .int 1] (c_X5_placeTwig hW hj (sH_g (Ω := Ω) (j := j) (h := h)) a1 a2 (F_X5_active h) 1 hh2 sH_H) myX5_placeTwig wm4_19 ⟨_, _, _, _, (hW.ok (k0 hj)), rfl, rfl, rfl, rfl⟩ rfl (kR rfl) (by decide) (kR rfl) rfl dX5_plantByHand_8 ?_
  refine r_aload_n C (k := 0) rfl rfl dX5_plantByHand_11 ?_
  refine r_dup C rfl dX5_plantByHand_12 ?_
  refine og_0_7 C (hW.ok (k0 hj)) (congrFun (sH_g (Ω := Ω) (j := j) (h := h2)) 0) wm1_144 dX5_plantByHand_13 ?_
  refine r_iconst C (v := 1) rfl dX5_plantByHand_16 ?_
  refine r_isub C dX5_plantByHand_17 ?_
  obtain ⟨h3, eh3, hF⟩ := lt_e hF
  refine op_0_7 C hW.x (Or.inl (k0 hj)) (hW.fr (k0 hj)) (congrFun (sH_g (Ω := Ω) (j := j) (h := h2)) 0) wm1_144 dX5_plantByHand_18 (sP_H.trans (congrArg (sH Ω j) eh3)) ?_
  cases hF
  exact r_return C dX5_plantByHand_21
theorem dX5_removeByHand_0 : decode cX5_removeByHand 0 = .ok (.aload_n 0, 1) := by decide +kernel
theorem dX5_removeByHand_1 : decode cX5_removeByHand 1 = .ok (.getfield 23, 3) := by decide +kernel
theorem dX5_removeByHand_4 : decode cX5_removeByHand 4 = .ok (.iload_n 1, 1) := by decide +kernel
theorem dX5_removeByHand_5 : decode cX5_removeByHand 5 = .ok (.iconst 0, 1) := by decide +kernel
theorem dX5_removeByHand_6 : decode cX5_removeByHand 6 = .ok (.invokevirtual 100, 3) := by decide +kernel
theorem dX5_removeByHand_9 : decode cX5_removeByHand 9 = .ok (.aload_n 0, 1) := by decide +kernel
theorem dX5_removeByHand_10 : decode cX5_removeByHand 10 = .ok (.dup, 1) := by decide +kernel
theorem dX5_removeByHand_11 : decode cX5_removeByHand 11 = .ok (.getfield 90, 3) := by decide +kernel
theorem dX5_removeByHand_14 : decode cX5_removeByHand 14 = .ok (.iconst 1, 1) := by decide +kernel
theorem dX5_removeByHand_15 : decode cX5_removeByHand 15 = .ok (.iadd, 1) := by decide +kernel
theorem dX5_removeByHand_16 : decode cX5_removeByHand 16 = .ok (.putfield 90, 3) := by decide +kernel
theorem dX5_removeByHand_19 : decode cX5_removeByHand 19 = .ok (.aload_n 0, 1) := by decide +kernel
theorem dX5_removeByHand_20 : decode cX5_removeByHand 20 = .ok (.dup, 1) := by decide +kernel
theorem dX5_removeByHand_21 : decode cX5_removeByHand 21 = .ok (.getfield 71, 3) := by decide +kernel
theorem dX5_removeByHand_24 : decode cX5_removeByHand 24 = .ok (.iconst 1, 1) := by decide +kernel
theorem dX5_removeByHand_25 : decode cX5_removeByHand 25 = .ok (.isub, 1) := by decide +kernel
theorem dX5_removeByHand_26 : decode cX5_removeByHand 26 = .ok (.putfield 71, 3) := by decide +kernel
theorem dX5_removeByHand_29 : decode cX5_removeByHand 29 = .ok (.return_, 1) := by decide +kernel
def F_X5_removeByHand (a1 : Int32) (h : Nat → HV) : Nat → HV := (lt (up h 0 (sA (h 0) 2 (rset 40 ((h 0).2 2) a1 0))) fun h2 => (lt (up h2 0 (sS (h2 0) 18 (((h2 0).1 18) + 1))) fun h3 => (lt (up h3 0 (sS (h3 0) 7 (((h3 0).1 7) - 1))) fun h4 => h4)))
theorem c_X5_removeByHand {w : WP} (hW : gW w) {Ω : OM} {j : Nat} (hj : j ≤ 10) {h : Nat → HV} (e : Ω.1 j = h) (a1 : Int32) {h' : Nat → HV} (hF : F_X5_removeByHand a1 h = h') {Ω' : OM} (e2 : (sH Ω j h') = Ω') : gM w 1 yX5_removeByHand cX5_removeByHand 2 none [.ref (wAd w (0, j, 0, 0)), .int a1] (cA w Ω) none (cA w Ω') := by
  refine gM_of "HedgeMessages$Hedge" rfl (by decide) (kR rfl) fun X C => ?_
  unfold F_X5_removeByHand at hF
  subst e2
  show gV w X _ _ 0 [(0, .ref (wAd w (0, j, 0, 0))), (1, .int a1)] []
  refine r_ct (ct' := cA w (sH Ω j h)) (congrArg (cA w) (sH_i e).symm) ?_
  refine r_aload_n C (k := 0) rfl rfl dX5_removeByHand_0 ?_
  refine og_0_10 C (hW.ok (k0 hj)) wm1_150 dX5_removeByHand_1 ?_
  refine r_iload_n C (k := 1) rfl rfl dX5_removeByHand_4 ?_
  refine r_iconst C (v := 0) rfl dX5_removeByHand_5 ?_
  obtain ⟨h2, eh2, hF⟩ := lt_e hF
  refine r_callV C (d' := 0) [.int a1, .int 0] (c_rset hW.x (Or.inl (show okC (4, j, 0, 2) from (q0 hj (kR rfl)))) (hW.ok (i := (3, j, 0, 2)) (q0 hj (kR rfl))) (hW.ok (i := (4, j, 0, 2)) (q0 hj (kR rfl))) (hW.fr (i := (4, j, 0, 2)) (q0 hj (kR rfl))) (show rlen 0 2 = 40 from rfl) (by decide) (congrFun (sH_g (Ω := Ω) (j := j) (h := h)) 0) rfl (sP_H.trans (congrArg (sH Ω j) eh2))) myX8_set wm2_76 ⟨_, _, _, _, (hW.ok (i := (3, j, 0, 2)) (q0 hj (kR rfl))), rfl, rfl, rfl, rfl⟩ rfl (kR rfl) (by decide) (kR rfl) rfl dX5_removeByHand_6 ?_
  refine r_aload_n C (k := 0) rfl rfl dX5_removeByHand_9 ?_
  refine r_dup C rfl dX5_removeByHand_10 ?_
  refine og_0_18 C (hW.ok (k0 hj)) (congrFun (sH_g (Ω := Ω) (j := j) (h := h2)) 0) wm1_166 dX5_removeByHand_11 ?_
  refine r_iconst C (v := 1) rfl dX5_removeByHand_14 ?_
  refine r_iadd C dX5_removeByHand_15 ?_
  obtain ⟨h3, eh3, hF⟩ := lt_e hF
  refine op_0_18 C hW.x (Or.inl (k0 hj)) (hW.fr (k0 hj)) (congrFun (sH_g (Ω := Ω) (j := j) (h := h2)) 0) wm1_166 dX5_removeByHand_16 (sP_H.trans (congrArg (sH Ω j) eh3)) ?_
  refine r_aload_n C (k := 0) rfl rfl dX5_removeByHand_19 ?_
  refine r_dup C rfl dX5_removeByHand_20 ?_
  refine og_0_7 C (hW.ok (k0 hj)) (congrFun (sH_g (Ω := Ω) (j := j) (h := h3)) 0) wm1_144 dX5_removeByHand_21 ?_
  refine r_iconst C (v := 1) rfl dX5_removeByHand_24 ?_
  refine r_isub C dX5_removeByHand_25 ?_
  obtain ⟨h4, eh4, hF⟩ := lt_e hF
  refine op_0_7 C hW.x (Or.inl (k0 hj)) (hW.fr (k0 hj)) (congrFun (sH_g (Ω := Ω) (j := j) (h := h3)) 0) wm1_144 dX5_removeByHand_26 (sP_H.trans (congrArg (sH Ω j) eh4)) ?_
  cases hF
  exact r_return C dX5_removeByHand_29
theorem dX5_trimByHand_0 : decode cX5_trimByHand 0 = .ok (.aload_n 0, 1) := by decide +kernel
theorem dX5_trimByHand_1 : decode cX5_trimByHand 1 = .ok (.getfield 23, 3) := by decide +kernel
theorem dX5_trimByHand_4 : decode cX5_trimByHand 4 = .ok (.iload_n 1, 1) := by decide +kernel
theorem dX5_trimByHand_5 : decode cX5_trimByHand 5 = .ok (.invokevirtual 129, 3) := by decide +kernel
theorem dX5_trimByHand_8 : decode cX5_trimByHand 8 = .ok (.iload_n 2, 1) := by decide +kernel
theorem dX5_trimByHand_9 : decode cX5_trimByHand 9 = .ok (.isub, 1) := by decide +kernel
theorem dX5_trimByHand_10 : decode cX5_trimByHand 10 = .ok (.istore_n 3, 1) := by decide +kernel
theorem dX5_trimByHand_11 : decode cX5_trimByHand 11 = .ok (.aload_n 0, 1) := by decide +kernel
theorem dX5_trimByHand_12 : decode cX5_trimByHand 12 = .ok (.getfield 23, 3) := by decide +kernel
theorem dX5_trimByHand_15 : decode cX5_trimByHand 15 = .ok (.iload_n 1, 1) := by decide +kernel
theorem dX5_trimByHand_16 : decode cX5_trimByHand 16 = .ok (.iload_n 3, 1) := by decide +kernel
theorem dX5_trimByHand_17 : decode cX5_trimByHand 17 = .ok (.iconst 1, 1) := by decide +kernel
theorem dX5_trimByHand_18 : decode cX5_trimByHand 18 = .ok (.if_icmp .ge 7, 3) := by decide +kernel
theorem dX5_trimByHand_21 : decode cX5_trimByHand 21 = .ok (.iconst 1, 1) := by decide +kernel
theorem dX5_trimByHand_22 : decode cX5_trimByHand 22 = .ok (.goto 4, 3) := by decide +kernel
theorem dX5_trimByHand_25 : decode cX5_trimByHand 25 = .ok (.iload_n 3, 1) := by decide +kernel
theorem dX5_trimByHand_26 : decode cX5_trimByHand 26 = .ok (.invokevirtual 100, 3) := by decide +kernel
theorem dX5_trimByHand_29 : decode cX5_trimByHand 29 = .ok (.aload_n 0, 1) := by decide +kernel
theorem dX5_trimByHand_30 : decode cX5_trimByHand 30 = .ok (.dup, 1) := by decide +kernel
theorem dX5_trimByHand_31 : decode cX5_trimByHand 31 = .ok (.getfield 71, 3) := by decide +kernel
theorem dX5_trimByHand_34 : decode cX5_trimByHand 34 = .ok (.iconst 1, 1) := by decide +kernel
theorem dX5_trimByHand_35 : decode cX5_trimByHand 35 = .ok (.isub, 1) := by decide +kernel
theorem dX5_trimByHand_36 : decode cX5_trimByHand 36 = .ok (.putfield 71, 3) := by decide +kernel
theorem dX5_trimByHand_39 : decode cX5_trimByHand 39 = .ok (.return_, 1) := by decide +kernel
def F_X5_trimByHand (a1 : Int32) (a2 : Int32) (h : Nat → HV) : Nat → HV := (if 1 ≤ ((rget 40 ((h 0).2 2) a1) - a2) then (lt (up h 0 (sA (h 0) 2 (rset 40 ((h 0).2 2) a1 ((rget 40 ((h 0).2 2) a1) - a2)))) fun h2 => (lt (up h2 0 (sS (h2 0) 7 (((h2 0).1 7) - 1))) fun h3 => h3)) else (lt (up h 0 (sA (h 0) 2 (rset 40 ((h 0).2 2) a1 1))) fun h5 => (lt (up h5 0 (sS (h5 0) 7 (((h5 0).1 7) - 1))) fun h6 => h6)))
theorem c_X5_trimByHand {w : WP} (hW : gW w) {Ω : OM} {j : Nat} (hj : j ≤ 10) {h : Nat → HV} (e : Ω.1 j = h) (a1 : Int32) (a2 : Int32) {h' : Nat → HV} (hF : F_X5_trimByHand a1 a2 h = h') {Ω' : OM} (e2 : (sH Ω j h') = Ω') : gM w 1 yX5_trimByHand cX5_trimByHand 4 none [.ref (wAd w (0, j, 0, 0)), .int a1, .int a2] (cA w Ω) none (cA w Ω') := by
  refine gM_of "HedgeMessages$Hedge" rfl (by decide) (kR rfl) fun X C => ?_
  unfold F_X5_trimByHand at hF
  subst e2
  show gV w X _ _ 0 [(0, .ref (wAd w (0, j, 0, 0))), (1, .int a1), (2, .int a2)] []
  refine r_ct (ct' := cA w (sH Ω j h)) (congrArg (cA w) (sH_i e).symm) ?_
  refine r_aload_n C (k := 0) rfl rfl dX5_trimByHand_0 ?_
  refine og_0_10 C (hW.ok (k0 hj)) wm1_150 dX5_trimByHand_1 ?_
  refine r_iload_n C (k := 1) rfl rfl dX5_trimByHand_4 ?_
  refine r_callV C (d' := 0) [.int a1] (c_rget (hW.ok (i := (3, j, 0, 2)) (q0 hj (kR rfl))) (hW.ok (i := (4, j, 0, 2)) (q0 hj (kR rfl))) (show rlen 0 2 = 40 from rfl) (by decide) (congrArg (fun z => z.2 2) (congrFun (sH_g (Ω := Ω) (j := j) (h := h)) 0)) rfl) myX8_get wm3_163 ⟨_, _, _, _, (hW.ok (i := (3, j, 0, 2)) (q0 hj (kR rfl))), rfl, rfl, rfl, rfl⟩ rfl (kR rfl) (by decide) (kR rfl) rfl dX5_trimByHand_5 ?_
  refine r_iload_n C (k := 2) rfl rfl dX5_trimByHand_8 ?_
  refine r_isub C dX5_trimByHand_9 ?_
  refine r_istore_n C (lo' := [(3, .int ((rget 40 ((h 0).2 2) a1) - a2)), (0, .ref (wAd w (0, j, 0, 0))), (1, .int a1), (2, .int a2)]) rfl (by decide) rfl dX5_trimByHand_10 ?_
  refine r_aload_n C (k := 1) rfl rfl dX5_trimByHand_11 ?_
  refine og_0_10 C (hW.ok (k0 hj)) wm1_150 dX5_trimByHand_12 ?_
  refine r_iload_n C (k := 2) rfl rfl dX5_trimByHand_15 ?_
  refine r_iload_n C (k := 0) rfl rfl dX5_trimByHand_16 ?_
  refine r_iconst C (v := 1) rfl dX5_trimByHand_17 ?_
  refine r_icmp_ge C (tgt := 25) rfl dX5_trimByHand_18 (fun hc => ?_) (fun hc => ?_)
  · rw [if_pos hc] at hF
    refine r_iload_n C (k := 0) rfl rfl dX5_trimByHand_25 ?_
    obtain ⟨h2, eh2, hF⟩ := lt_e hF
    refine r_callV C (d' := 0) [.int a1, .int ((rget 40 ((h 0).2 2) a1) - a2)] (c_rset hW.x (Or.inl (show okC (4, j, 0, 2) from (q0 hj (kR rfl)))) (hW.ok (i := (3, j, 0, 2)) (q0 hj (kR rfl))) (hW.ok (i := (4, j, 0, 2)) (q0 hj (kR rfl))) (hW.fr (i := (4, j, 0, 2)) (q0 hj (kR rfl))) (show rlen 0 2 = 40 from rfl) (by decide) (congrFun (sH_g (Ω := Ω) (j := j) (h := h)) 0) rfl (sP_H.trans (congrArg (sH Ω j) eh2))) myX8_set wm2_76 ⟨_, _, _, _, (hW.ok (i := (3, j, 0, 2)) (q0 hj (kR rfl))), rfl, rfl, rfl, rfl⟩ rfl (kR rfl) (by decide) (kR rfl) rfl dX5_trimByHand_26 ?_
    refine r_aload_n C (k := 1) rfl rfl dX5_trimByHand_29 ?_
    refine r_dup C rfl dX5_trimByHand_30 ?_
    refine og_0_7 C (hW.ok (k0 hj)) (congrFun (sH_g (Ω := Ω) (j := j) (h := h2)) 0) wm1_144 dX5_trimByHand_31 ?_
    refine r_iconst C (v := 1) rfl dX5_trimByHand_34 ?_
    refine r_isub C dX5_trimByHand_35 ?_
    obtain ⟨h3, eh3, hF⟩ := lt_e hF
    refine op_0_7 C hW.x (Or.inl (k0 hj)) (hW.fr (k0 hj)) (congrFun (sH_g (Ω := Ω) (j := j) (h := h2)) 0) wm1_144 dX5_trimByHand_36 (sP_H.trans (congrArg (sH Ω j) eh3)) ?_
    cases hF
    exact r_return C dX5_trimByHand_39
  · rw [if_neg hc] at hF
    refine r_iconst C (v := 1) rfl dX5_trimByHand_21 ?_
    refine r_goto C (tgt := 26) rfl dX5_trimByHand_22 ?_
    obtain ⟨h5, eh5, hF⟩ := lt_e hF
    refine r_callV C (d' := 0) [.int a1, .int 1] (c_rset hW.x (Or.inl (show okC (4, j, 0, 2) from (q0 hj (kR rfl)))) (hW.ok (i := (3, j, 0, 2)) (q0 hj (kR rfl))) (hW.ok (i := (4, j, 0, 2)) (q0 hj (kR rfl))) (hW.fr (i := (4, j, 0, 2)) (q0 hj (kR rfl))) (show rlen 0 2 = 40 from rfl) (by decide) (congrFun (sH_g (Ω := Ω) (j := j) (h := h)) 0) rfl (sP_H.trans (congrArg (sH Ω j) eh5))) myX8_set wm2_76 ⟨_, _, _, _, (hW.ok (i := (3, j, 0, 2)) (q0 hj (kR rfl))), rfl, rfl, rfl, rfl⟩ rfl (kR rfl) (by decide) (kR rfl) rfl dX5_trimByHand_26 ?_
    refine r_aload_n C (k := 1) rfl rfl dX5_trimByHand_29 ?_
    refine r_dup C rfl dX5_trimByHand_30 ?_
    refine og_0_7 C (hW.ok (k0 hj)) (congrFun (sH_g (Ω := Ω) (j := j) (h := h5)) 0) wm1_144 dX5_trimByHand_31 ?_
    refine r_iconst C (v := 1) rfl dX5_trimByHand_34 ?_
    refine r_isub C dX5_trimByHand_35 ?_
    obtain ⟨h6, eh6, hF⟩ := lt_e hF
    refine op_0_7 C hW.x (Or.inl (k0 hj)) (hW.fr (k0 hj)) (congrFun (sH_g (Ω := Ω) (j := j) (h := h5)) 0) wm1_144 dX5_trimByHand_36 (sP_H.trans (congrArg (sH Ω j) eh6)) ?_
    cases hF
    exact r_return C dX5_trimByHand_39
theorem dX5_clearMessage_0 : decode cX5_clearMessage 0 = .ok (.iload_n 1, 1) := by decide +kernel
theorem dX5_clearMessage_1 : decode cX5_clearMessage 1 = .ok (.istore_n 3, 1) := by decide +kernel
theorem dX5_clearMessage_2 : decode cX5_clearMessage 2 = .ok (.iload_n 3, 1) := by decide +kernel
theorem dX5_clearMessage_3 : decode cX5_clearMessage 3 = .ok (.iload_n 1, 1) := by decide +kernel
theorem dX5_clearMessage_4 : decode cX5_clearMessage 4 = .ok (.iload_n 2, 1) := by decide +kernel
theorem dX5_clearMessage_5 : decode cX5_clearMessage 5 = .ok (.iadd, 1) := by decide +kernel
theorem dX5_clearMessage_6 : decode cX5_clearMessage 6 = .ok (.if_icmp .ge 48, 3) := by decide +kernel
theorem dX5_clearMessage_9 : decode cX5_clearMessage 9 = .ok (.aload_n 0, 1) := by decide +kernel
theorem dX5_clearMessage_10 : decode cX5_clearMessage 10 = .ok (.getfield 23, 3) := by decide +kernel
theorem dX5_clearMessage_13 : decode cX5_clearMessage 13 = .ok (.iload_n 3, 1) := by decide +kernel
theorem dX5_clearMessage_14 : decode cX5_clearMessage 14 = .ok (.invokevirtual 129, 3) := by decide +kernel
theorem dX5_clearMessage_17 : decode cX5_clearMessage 17 = .ok (.ifCond .le 22, 3) := by decide +kernel
theorem dX5_clearMessage_20 : decode cX5_clearMessage 20 = .ok (.aload_n 0, 1) := by decide +kernel
theorem dX5_clearMessage_21 : decode cX5_clearMessage 21 = .ok (.getfield 23, 3) := by decide +kernel
theorem dX5_clearMessage_24 : decode cX5_clearMessage 24 = .ok (.iload_n 3, 1) := by decide +kernel
theorem dX5_clearMessage_25 : decode cX5_clearMessage 25 = .ok (.iconst 0, 1) := by decide +kernel
theorem dX5_clearMessage_26 : decode cX5_clearMessage 26 = .ok (.invokevirtual 100, 3) := by decide +kernel
theorem dX5_clearMessage_29 : decode cX5_clearMessage 29 = .ok (.aload_n 0, 1) := by decide +kernel
theorem dX5_clearMessage_30 : decode cX5_clearMessage 30 = .ok (.dup, 1) := by decide +kernel
theorem dX5_clearMessage_31 : decode cX5_clearMessage 31 = .ok (.getfield 90, 3) := by decide +kernel
theorem dX5_clearMessage_34 : decode cX5_clearMessage 34 = .ok (.iconst 1, 1) := by decide +kernel
theorem dX5_clearMessage_35 : decode cX5_clearMessage 35 = .ok (.iadd, 1) := by decide +kernel
theorem dX5_clearMessage_36 : decode cX5_clearMessage 36 = .ok (.putfield 90, 3) := by decide +kernel
theorem dX5_clearMessage_39 : decode cX5_clearMessage 39 = .ok (.aload_n 0, 1) := by decide +kernel
theorem dX5_clearMessage_40 : decode cX5_clearMessage 40 = .ok (.getfield 29, 3) := by decide +kernel
theorem dX5_clearMessage_43 : decode cX5_clearMessage 43 = .ok (.iload_n 3, 1) := by decide +kernel
theorem dX5_clearMessage_44 : decode cX5_clearMessage 44 = .ok (.iconst 0, 1) := by decide +kernel
theorem dX5_clearMessage_45 : decode cX5_clearMessage 45 = .ok (.invokevirtual 100, 3) := by decide +kernel
theorem dX5_clearMessage_48 : decode cX5_clearMessage 48 = .ok (.iinc 3 1, 3) := by decide +kernel
theorem dX5_clearMessage_51 : decode cX5_clearMessage 51 = .ok (.goto (-49), 3) := by decide +kernel
theorem dX5_clearMessage_54 : decode cX5_clearMessage 54 = .ok (.return_, 1) := by decide +kernel
def st_X5_clearMessage_2 (N : Nat) (l1 : Int32) (l2 : Int32) (l3 : Int32) (h : Nat → HV) : Option ((Int32 × (Nat → HV)) ⊕ (Nat → HV)) := (if (l1 + l2) ≤ l3 then some (.inr h) else (if (rget 40 ((h 0).2 2) l3) ≤ 0 then (lt (up h 0 (sA (h 0) 4 (rset 40 ((h 0).2 4) l3 0))) fun h2 => some (.inl ((l3 + 1), h2))) else (lt (up h 0 (sA (h 0) 2 (rset 40 ((h 0).2 2) l3 0))) fun h4 => (lt (up h4 0 (sS (h4 0) 18 (((h4 0).1 18) + 1))) fun h5 => (lt (up h5 0 (sA (h5 0) 4 (rset 40 ((h5 0).2 4) l3 0))) fun h7 => some (.inl ((l3 + 1), h7)))))))
def F_X5_clearMessage (N : Nat) (a1 : Int32) (a2 : Int32) (h : Nat → HV) : Option (Nat → HV) := (lpN N (fun z => st_X5_clearMessage_2 N a1 a2 z.1 z.2) (a1, h))
theorem lp_X5_clearMessage_2 {w : WP} (hW : gW w) {Ω : OM} {j : Nat} (hj : j ≤ 10)  (l1 : Int32) (l2 : Int32) {N : Nat} {X : CX} (C : gC w X cX5_clearMessage "HedgeMessages$Hedge" none 1 4) {h' : Nat → HV}  : ∀ (n : Nat) (l3 : Int32) (h : Nat → HV), lpN n (fun z : Int32 × (Nat → HV) => st_X5_clearMessage_2 N l1 l2 z.1 z.2) (l3, h) = some h' → gV w X (none, cA w (sH Ω j h')) (cA w (sH Ω j h)) 2 [(0, .ref (wAd w (0, j, 0, 0))), (1, .int l1), (2, .int l2), (3, .int l3)] [] := by
  intro n
  induction n with
  | zero => intro l3 h hL; exact lpN_0 hL
  | succ n ih =>
    intro l3 h hL
    obtain ⟨q9, hF, hL⟩ := lpN_e hL
    change st_X5_clearMessage_2 N l1 l2 l3 h = some q9 at hF
    unfold st_X5_clearMessage_2 at hF
    refine r_iload_n C (k := 3) rfl rfl dX5_clearMessage_2 ?_
    refine r_iload_n C (k := 1) rfl rfl dX5_clearMessage_3 ?_
    refine r_iload_n C (k := 2) rfl rfl dX5_clearMessage_4 ?_
    refine r_iadd C dX5_clearMessage_5 ?_
    refine r_icmp_ge C (tgt := 54) rfl dX5_clearMessage_6 (fun hc => ?_) (fun hc => ?_)
    · rw [if_pos hc] at hF
      cases hF
      change some _ = some _ at hL
      cases hL
      exact r_return C dX5_clearMessage_54
    · rw [if_neg hc] at hF
      refine r_aload_n C (k := 0) rfl rfl dX5_clearMessage_9 ?_
      refine og_0_10 C (hW.ok (k0 hj)) wm1_150 dX5_clearMessage_10 ?_
      refine r_iload_n C (k := 3) rfl rfl dX5_clearMessage_13 ?_
      refine r_callV C (d' := 0) [.int l3] (c_rget (hW.ok (i := (3, j, 0, 2)) (q0 hj (kR rfl))) (hW.ok (i := (4, j, 0, 2)) (q0 hj (kR rfl))) (show rlen 0 2 = 40 from rfl) (by decide) (congrArg (fun z => z.2 2) (congrFun (sH_g (Ω := Ω) (j := j) (h := h)) 0)) rfl) myX8_get wm3_163 ⟨_, _, _, _, (hW.ok (i := (3, j, 0, 2)) (q0 hj (kR rfl))), rfl, rfl, rfl, rfl⟩ rfl (kR rfl) (by decide) (kR rfl) rfl dX5_clearMessage_14 ?_
      refine r_if_le C (tgt := 39) rfl dX5_clearMessage_17 (fun hc => ?_) (fun hc => ?_)
      · rw [if_pos hc] at hF
        refine r_aload_n C (k := 0) rfl rfl dX5_clearMessage_39 ?_
        refine og_0_12 C (hW.ok (k0 hj)) wm1_155 dX5_clearMessage_40 ?_
        refine r_iload_n C (k := 3) rfl rfl dX5_clearMessage_43 ?_
        refine r_iconst C (v := 0) rfl dX5_clearMessage_44 ?_
        obtain ⟨h2, eh2, hF⟩ := lt_e hF
        refine r_callV C (d' := 0) [.int l3, .int 0] (c_rset hW.x (Or.inl (show okC (4, j, 0, 4) from (q0 hj (kR rfl)))) (hW.ok (i := (3, j, 0, 4)) (q0 hj (kR rfl))) (hW.ok (i := (4, j, 0, 4)) (q0 hj (kR rfl))) (hW.fr (i := (4, j, 0, 4)) (q0 hj (kR rfl))) (show rlen 0 4 = 40 from rfl) (by decide) (congrFun (sH_g (Ω := Ω) (j := j) (h := h)) 0) rfl (sP_H.trans (congrArg (sH Ω j) eh2))) myX8_set wm2_76 ⟨_, _, _, _, (hW.ok (i := (3, j, 0, 4)) (q0 hj (kR rfl))), rfl, rfl, rfl, rfl⟩ rfl (kR rfl) (by decide) (kR rfl) rfl dX5_clearMessage_45 ?_
        refine r_iinc C (k := 3) (v := (l3 + 1)) (lo' := [(3, .int (l3 + 1)), (0, .ref (wAd w (0, j, 0, 0))), (1, .int l1), (2, .int l2)]) rfl rfl (by decide) rfl dX5_clearMessage_48 ?_
        refine r_goto C (tgt := 2) rfl dX5_clearMessage_51 ?_
        cases hF
        change lpN n _ _ = some _ at hL
        refine r_lo [1, 2, 3, 0] (lo' := [(0, .ref (wAd w (0, j, 0, 0))), (1, .int l1), (2, .int l2), (3, .int (l3 + 1))]) rfl ?_
        exact ih (l3 + 1) h2 hL
      · rw [if_neg hc] at hF
        refine r_aload_n C (k := 0) rfl rfl dX5_clearMessage_20 ?_
        refine og_0_10 C (hW.ok (k0 hj)) wm1_150 dX5_clearMessage_21 ?_
        refine r_iload_n C (k := 3) rfl rfl dX5_clearMessage_24 ?_
        refine r_iconst C (v := 0) rfl dX5_clearMessage_25 ?_
        obtain ⟨h4, eh4, hF⟩ := lt_e hF
        refine r_callV C (d' := 0) [.int l3, .int 0] (c_rset hW.x (Or.inl (show okC (4, j, 0, 2) from (q0 hj (kR rfl)))) (hW.ok (i := (3, j, 0, 2)) (q0 hj (kR rfl))) (hW.ok (i := (4, j, 0, 2)) (q0 hj (kR rfl))) (hW.fr (i := (4, j, 0, 2)) (q0 hj (kR rfl))) (show rlen 0 2 = 40 from rfl) (by decide) (congrFun (sH_g (Ω := Ω) (j := j) (h := h)) 0) rfl (sP_H.trans (congrArg (sH Ω j) eh4))) myX8_set wm2_76 ⟨_, _, _, _, (hW.ok (i := (3, j, 0, 2)) (q0 hj (kR rfl))), rfl, rfl, rfl, rfl⟩ rfl (kR rfl) (by decide) (kR rfl) rfl dX5_clearMessage_26 ?_
        refine r_aload_n C (k := 0) rfl rfl dX5_clearMessage_29 ?_
        refine r_dup C rfl dX5_clearMessage_30 ?_
        refine og_0_18 C (hW.ok (k0 hj)) (congrFun (sH_g (Ω := Ω) (j := j) (h := h4)) 0) wm1_166 dX5_clearMessage_31 ?_
        refine r_iconst C (v := 1) rfl dX5_clearMessage_34 ?_
        refine r_iadd C dX5_clearMessage_35 ?_
        obtain ⟨h5, eh5, hF⟩ := lt_e hF
        refine op_0_18 C hW.x (Or.inl (k0 hj)) (hW.fr (k0 hj)) (congrFun (sH_g (Ω := Ω) (j := j) (h := h4)) 0) wm1_166 dX5_clearMessage_36 (sP_H.trans (congrArg (sH Ω j) eh5)) ?_
        refine r_aload_n C (k := 0) rfl rfl dX5_clearMessage_39 ?_
        refine og_0_12 C (hW.ok (k0 hj)) wm1_155 dX5_clearMessage_40 ?_
        refine r_iload_n C (k := 3) rfl rfl dX5_clearMessage_43 ?_
        refine r_iconst C (v := 0) rfl dX5_clearMessage_44 ?_
        obtain ⟨h7, eh7, hF⟩ := lt_e hF
        refine r_callV C (d' := 0) [.int l3, .int 0] (c_rset hW.x (Or.inl (show okC (4, j, 0, 4) from (q0 hj (kR rfl)))) (hW.ok (i := (3, j, 0, 4)) (q0 hj (kR rfl))) (hW.ok (i := (4, j, 0, 4)) (q0 hj (kR rfl))) (hW.fr (i := (4, j, 0, 4)) (q0 hj (kR rfl))) (show rlen 0 4 = 40 from rfl) (by decide) (congrFun (sH_g (Ω := Ω) (j := j) (h := h5)) 0) rfl (sP_H.trans (congrArg (sH Ω j) eh7))) myX8_set wm2_76 ⟨_, _, _, _, (hW.ok (i := (3, j, 0, 4)) (q0 hj (kR rfl))), rfl, rfl, rfl, rfl⟩ rfl (kR rfl) (by decide) (kR rfl) rfl dX5_clearMessage_45 ?_
        refine r_iinc C (k := 3) (v := (l3 + 1)) (lo' := [(3, .int (l3 + 1)), (0, .ref (wAd w (0, j, 0, 0))), (1, .int l1), (2, .int l2)]) rfl rfl (by decide) rfl dX5_clearMessage_48 ?_
        refine r_goto C (tgt := 2) rfl dX5_clearMessage_51 ?_
        cases hF
        change lpN n _ _ = some _ at hL
        refine r_lo [1, 2, 3, 0] (lo' := [(0, .ref (wAd w (0, j, 0, 0))), (1, .int l1), (2, .int l2), (3, .int (l3 + 1))]) rfl ?_
        exact ih (l3 + 1) h7 hL
theorem c_X5_clearMessage {w : WP} (hW : gW w) {Ω : OM} {j : Nat} (hj : j ≤ 10) {h : Nat → HV} (e : Ω.1 j = h) (N : Nat) (a1 : Int32) (a2 : Int32) {h' : Nat → HV} (hF : F_X5_clearMessage N a1 a2 h = some h') {Ω' : OM} (e2 : (sH Ω j h') = Ω') : gM w 1 yX5_clearMessage cX5_clearMessage 4 none [.ref (wAd w (0, j, 0, 0)), .int a1, .int a2] (cA w Ω) none (cA w Ω') := by
  refine gM_of "HedgeMessages$Hedge" rfl (by decide) (kR rfl) fun X C => ?_
  unfold F_X5_clearMessage at hF
  subst e2
  show gV w X _ _ 0 [(0, .ref (wAd w (0, j, 0, 0))), (1, .int a1), (2, .int a2)] []
  refine r_ct (ct' := cA w (sH Ω j h)) (congrArg (cA w) (sH_i e).symm) ?_
  refine r_iload_n C (k := 1) rfl rfl dX5_clearMessage_0 ?_
  refine r_istore_n C (lo' := [(3, .int a1), (0, .ref (wAd w (0, j, 0, 0))), (1, .int a1), (2, .int a2)]) rfl (by decide) rfl dX5_clearMessage_1 ?_
  refine r_lo [1, 2, 3, 0] (lo' := [(0, .ref (wAd w (0, j, 0, 0))), (1, .int a1), (2, .int a2), (3, .int a1)]) rfl ?_
  exact lp_X5_clearMessage_2 hW hj a1 a2 C N a1 h hF
theorem dX5_deliverPosted_0 : decode cX5_deliverPosted 0 = .ok (.aload_n 0, 1) := by decide +kernel
theorem dX5_deliverPosted_1 : decode cX5_deliverPosted 1 = .ok (.getfield 45, 3) := by decide +kernel
theorem dX5_deliverPosted_4 : decode cX5_deliverPosted 4 = .ok (.invokevirtual 225, 3) := by decide +kernel
theorem dX5_deliverPosted_7 : decode cX5_deliverPosted 7 = .ok (.istore_n 2, 1) := by decide +kernel
theorem dX5_deliverPosted_8 : decode cX5_deliverPosted 8 = .ok (.iconst 0, 1) := by decide +kernel
theorem dX5_deliverPosted_9 : decode cX5_deliverPosted 9 = .ok (.istore_n 3, 1) := by decide +kernel
theorem dX5_deliverPosted_10 : decode cX5_deliverPosted 10 = .ok (.iload_n 3, 1) := by decide +kernel
theorem dX5_deliverPosted_11 : decode cX5_deliverPosted 11 = .ok (.iload_n 2, 1) := by decide +kernel
theorem dX5_deliverPosted_12 : decode cX5_deliverPosted 12 = .ok (.if_icmp .ge 75, 3) := by decide +kernel
theorem dX5_deliverPosted_15 : decode cX5_deliverPosted 15 = .ok (.aload_n 0, 1) := by decide +kernel
theorem dX5_deliverPosted_16 : decode cX5_deliverPosted 16 = .ok (.getfield 45, 3) := by decide +kernel
theorem dX5_deliverPosted_19 : decode cX5_deliverPosted 19 = .ok (.getfield 160, 3) := by decide +kernel
theorem dX5_deliverPosted_22 : decode cX5_deliverPosted 22 = .ok (.iload_n 3, 1) := by decide +kernel
theorem dX5_deliverPosted_23 : decode cX5_deliverPosted 23 = .ok (.invokevirtual 129, 3) := by decide +kernel
theorem dX5_deliverPosted_26 : decode cX5_deliverPosted 26 = .ok (.iload_n 1, 1) := by decide +kernel
theorem dX5_deliverPosted_27 : decode cX5_deliverPosted 27 = .ok (.if_icmp .ne 46, 3) := by decide +kernel
theorem dX5_deliverPosted_30 : decode cX5_deliverPosted 30 = .ok (.aload_n 0, 1) := by decide +kernel
theorem dX5_deliverPosted_31 : decode cX5_deliverPosted 31 = .ok (.aload_n 0, 1) := by decide +kernel
theorem dX5_deliverPosted_32 : decode cX5_deliverPosted 32 = .ok (.getfield 45, 3) := by decide +kernel
theorem dX5_deliverPosted_35 : decode cX5_deliverPosted 35 = .ok (.getfield 163, 3) := by decide +kernel
theorem dX5_deliverPosted_38 : decode cX5_deliverPosted 38 = .ok (.iload_n 3, 1) := by decide +kernel
theorem dX5_deliverPosted_39 : decode cX5_deliverPosted 39 = .ok (.invokevirtual 129, 3) := by decide +kernel
theorem dX5_deliverPosted_42 : decode cX5_deliverPosted 42 = .ok (.aload_n 0, 1) := by decide +kernel
theorem dX5_deliverPosted_43 : decode cX5_deliverPosted 43 = .ok (.getfield 45, 3) := by decide +kernel
theorem dX5_deliverPosted_46 : decode cX5_deliverPosted 46 = .ok (.getfield 166, 3) := by decide +kernel
theorem dX5_deliverPosted_49 : decode cX5_deliverPosted 49 = .ok (.iload_n 3, 1) := by decide +kernel
theorem dX5_deliverPosted_50 : decode cX5_deliverPosted 50 = .ok (.invokevirtual 129, 3) := by decide +kernel
theorem dX5_deliverPosted_53 : decode cX5_deliverPosted 53 = .ok (.invokevirtual 228, 3) := by decide +kernel
theorem dX5_deliverPosted_56 : decode cX5_deliverPosted 56 = .ok (.aload_n 0, 1) := by decide +kernel
theorem dX5_deliverPosted_57 : decode cX5_deliverPosted 57 = .ok (.iload_n 1, 1) := by decide +kernel
theorem dX5_deliverPosted_58 : decode cX5_deliverPosted 58 = .ok (.invokevirtual 104, 3) := by decide +kernel
theorem dX5_deliverPosted_61 : decode cX5_deliverPosted 61 = .ok (.dup, 1) := by decide +kernel
theorem dX5_deliverPosted_62 : decode cX5_deliverPosted 62 = .ok (.getfield 231, 3) := by decide +kernel
theorem dX5_deliverPosted_65 : decode cX5_deliverPosted 65 = .ok (.iconst 1, 1) := by decide +kernel
theorem dX5_deliverPosted_66 : decode cX5_deliverPosted 66 = .ok (.iadd, 1) := by decide +kernel
theorem dX5_deliverPosted_67 : decode cX5_deliverPosted 67 = .ok (.putfield 231, 3) := by decide +kernel
theorem dX5_deliverPosted_70 : decode cX5_deliverPosted 70 = .ok (.goto 11, 3) := by decide +kernel
theorem dX5_deliverPosted_73 : decode cX5_deliverPosted 73 = .ok (.aload_n 0, 1) := by decide +kernel
theorem dX5_deliverPosted_74 : decode cX5_deliverPosted 74 = .ok (.getfield 45, 3) := by decide +kernel
theorem dX5_deliverPosted_77 : decode cX5_deliverPosted 77 = .ok (.iload_n 3, 1) := by decide +kernel
theorem dX5_deliverPosted_78 : decode cX5_deliverPosted 78 = .ok (.invokevirtual 234, 3) := by decide +kernel
theorem dX5_deliverPosted_81 : decode cX5_deliverPosted 81 = .ok (.iinc 3 1, 3) := by decide +kernel
theorem dX5_deliverPosted_84 : decode cX5_deliverPosted 84 = .ok (.goto (-74), 3) := by decide +kernel
theorem dX5_deliverPosted_87 : decode cX5_deliverPosted 87 = .ok (.return_, 1) := by decide +kernel
def st_X5_deliverPosted_10 (N : Nat) (l1 : Int32) (l2 : Int32) (l3 : Int32) (h : Nat → HV) : Option ((Int32 × (Nat → HV)) ⊕ (Nat → HV)) := (if l2 ≤ l3 then some (.inr h) else (if (rget 20 ((h 3).2 0) l3) = l1 then (ob1 (F_X5_clearMessage N (rget 20 ((h 3).2 1) l3) (rget 20 ((h 3).2 2) l3) h) fun h8 => (lt (up h8 (gsel l1) (sS (h8 (gsel l1)) 7 (((h8 (gsel l1)).1 7) + 1))) fun h9 => some (.inl ((l3 + 1), h9)))) else (lt (F_X7_keep l3 (h 3)) fun g5 => (lt (up h 3 g5) fun h6 => some (.inl ((l3 + 1), h6))))))
def F_X5_deliverPosted (N : Nat) (a1 : Int32) (h : Nat → HV) : Option (Nat → HV) := (lt2 (F_X7_startSifting (h 3)) fun v1 g2 => (lt (up h 3 g2) fun h3 => (lpN N (fun z => st_X5_deliverPosted_10 N a1 v1 z.1 z.2) (0, h3))))
theorem lp_X5_deliverPosted_10 {w : WP} (hW : gW w) {Ω : OM} {j : Nat} (hj : j ≤ 10)  (l1 : Int32) (l2 : Int32) {N : Nat} {X : CX} (C : gC w X cX5_deliverPosted "HedgeMessages$Hedge" none 3 4) {h' : Nat → HV}  : ∀ (n : Nat) (l3 : Int32) (h : Nat → HV), lpN n (fun z : Int32 × (Nat → HV) => st_X5_deliverPosted_10 N l1 l2 z.1 z.2) (l3, h) = some h' → gV w X (none, cA w (sH Ω j h')) (cA w (sH Ω j h)) 10 [(0, .ref (wAd w (0, j, 0, 0))), (1, .int l1), (2, .int l2), (3, .int l3)] [] := by
  intro n
  induction n with
  | zero => intro l3 h hL; exact lpN_0 hL
  | succ n ih =>
    intro l3 h hL
    obtain ⟨q9, hF, hL⟩ := lpN_e hL
    change st_X5_deliverPosted_10 N l1 l2 l3 h = some q9 at hF
    unfold st_X5_deliverPosted_10 at hF
    refine r_iload_n C (k := 3) rfl rfl dX5_deliverPosted_10 ?_
    refine r_iload_n C (k := 2) rfl rfl dX5_deliverPosted_11 ?_
    refine r_icmp_ge C (tgt := 87) rfl dX5_deliverPosted_12 (fun hc => ?_) (fun hc => ?_)
    · rw [if_pos hc] at hF
      cases hF
      change some _ = some _ at hL
      cases hL
      exact r_return C dX5_deliverPosted_87
    · rw [if_neg hc] at hF
      refine r_aload_n C (k := 0) rfl rfl dX5_deliverPosted_15 ?_
      refine og_0_15 C (hW.ok (k0 hj)) wm1_160 dX5_deliverPosted_16 ?_
      refine ogN_2_0 C (hW.ok (k2 hj)) wm1_116 dX5_deliverPosted_19 ?_
      refine r_iload_n C (k := 3) rfl rfl dX5_deliverPosted_22 ?_
      refine r_callV C (d' := 0) [.int l3] (c_rget (hW.ok (i := (3, j, 3, 0)) (q3 hj (kR rfl))) (hW.ok (i := (4, j, 3, 0)) (q3 hj (kR rfl))) (show rlen 3 0 = 20 from rfl) (by decide) (congrArg (fun z => z.2 0) (congrFun (sH_g (Ω := Ω) (j := j) (h := h)) 3)) rfl) myX8_get wm3_163 ⟨_, _, _, _, (hW.ok (i := (3, j, 3, 0)) (q3 hj (kR rfl))), rfl, rfl, rfl, rfl⟩ rfl (kR rfl) (by decide) (kR rfl) rfl dX5_deliverPosted_23 ?_
      refine r_iload_n C (k := 1) rfl rfl dX5_deliverPosted_26 ?_
      refine r_icmp_ne C (tgt := 73) rfl dX5_deliverPosted_27 (fun hc => ?_) (fun hc => ?_)
      · rw [if_neg hc] at hF
        refine r_aload_n C (k := 0) rfl rfl dX5_deliverPosted_73 ?_
        refine og_0_15 C (hW.ok (k0 hj)) wm1_160 dX5_deliverPosted_74 ?_
        refine r_iload_n C (k := 3) rfl rfl dX5_deliverPosted_77 ?_
        obtain ⟨g5, hg5, hF⟩ := lt_e hF
        obtain ⟨h6, eh6, hF⟩ := lt_e hF
        refine r_callV C (d' := 2) [.int l3] (c_X7_keep hW hj (congrFun (sH_g (Ω := Ω) (j := j) (h := h)) 3) l3 hg5 (sP_H.trans (congrArg (sH Ω j) eh6))) myX7_keep wm4_153 ⟨_, _, _, _, (hW.ok (k2 hj)), rfl, rfl, rfl, rfl⟩ rfl (kR rfl) (by decide) (kR rfl) rfl dX5_deliverPosted_78 ?_
        refine r_iinc C (k := 3) (v := (l3 + 1)) (lo' := [(3, .int (l3 + 1)), (0, .ref (wAd w (0, j, 0, 0))), (1, .int l1), (2, .int l2)]) rfl rfl (by decide) rfl dX5_deliverPosted_81 ?_
        refine r_goto C (tgt := 10) rfl dX5_deliverPosted_84 ?_
        cases hF
        change lpN n _ _ = some _ at hL
        refine r_lo [1, 2, 3, 0] (lo' := [(0, .ref (wAd w (0, j, 0, 0))), (1, .int l1), (2, .int l2), (3, .int (l3 + 1))]) rfl ?_
        exact ih (l3 + 1) h6 hL
      · rw [if_pos hc] at hF
        refine r_aload_n C (k := 0) rfl rfl dX5_deliverPosted_30 ?_
        refine r_aload_n C (k := 0) rfl rfl dX5_deliverPosted_31 ?_
        refine og_0_15 C (hW.ok (k0 hj)) wm1_160 dX5_deliverPosted_32 ?_
        refine ogN_2_1 C (hW.ok (k2 hj)) wm1_118 dX5_deliverPosted_35 ?_
        refine r_iload_n C (k := 3) rfl rfl dX5_deliverPosted_38 ?_
        refine r_callV C (d' := 0) [.int l3] (c_rget (hW.ok (i := (3, j, 3, 1)) (q3 hj (kR rfl))) (hW.ok (i := (4, j, 3, 1)) (q3 hj (kR rfl))) (show rlen 3 1 = 20 from rfl) (by decide) (congrArg (fun z => z.2 1) (congrFun (sH_g (Ω := Ω) (j := j) (h := h)) 3)) rfl) myX8_get wm3_163 ⟨_, _, _, _, (hW.ok (i := (3, j, 3, 1)) (q3 hj (kR rfl))), rfl, rfl, rfl, rfl⟩ rfl (kR rfl) (by decide) (kR rfl) rfl dX5_deliverPosted_39 ?_
        refine r_aload_n C (k := 0) rfl rfl dX5_deliverPosted_42 ?_
        refine og_0_15 C (hW.ok (k0 hj)) wm1_160 dX5_deliverPosted_43 ?_
        refine ogN_2_2 C (hW.ok (k2 hj)) wm1_120 dX5_deliverPosted_46 ?_
        refine r_iload_n C (k := 3) rfl rfl dX5_deliverPosted_49 ?_
        refine r_callV C (d' := 0) [.int l3] (c_rget (hW.ok (i := (3, j, 3, 2)) (q3 hj (kR rfl))) (hW.ok (i := (4, j, 3, 2)) (q3 hj (kR rfl))) (show rlen 3 2 = 20 from rfl) (by decide) (congrArg (fun z => z.2 2) (congrFun (sH_g (Ω := Ω) (j := j) (h := h)) 3)) rfl) myX8_get wm3_163 ⟨_, _, _, _, (hW.ok (i := (3, j, 3, 2)) (q3 hj (kR rfl))), rfl, rfl, rfl, rfl⟩ rfl (kR rfl) (by decide) (kR rfl) rfl dX5_deliverPosted_50 ?_
        obtain ⟨h8, hh8, hF⟩ := ob1_e hF
        refine r_callV C (d' := 1) [.int (rget 20 ((h 3).2 1) l3), .int (rget 20 ((h 3).2 2) l3)] (c_X5_clearMessage hW hj (sH_g (Ω := Ω) (j := j) (h := h)) N (rget 20 ((h 3).2 1) l3) (rget 20 ((h 3).2 2) l3) hh8 sH_H) myX5_clearMessage wm4_149 ⟨_, _, _, _, (hW.ok (k0 hj)), rfl, rfl, rfl, rfl⟩ rfl (kR rfl) (by decide) (kR rfl) rfl dX5_deliverPosted_53 ?_
        refine r_aload_n C (k := 0) rfl rfl dX5_deliverPosted_56 ?_
        refine r_iload_n C (k := 1) rfl rfl dX5_deliverPosted_57 ?_
        refine r_callV C (d' := 0) [.int l1] (c_X5_gardener hW hj l1) myX5_gardener wm2_141 ⟨_, _, _, _, (hW.ok (k0 hj)), rfl, rfl, rfl, rfl⟩ rfl (kR rfl) (by decide) (kR rfl) rfl dX5_deliverPosted_58 ?_
        refine r_dup C rfl dX5_deliverPosted_61 ?_
        refine ogN_1_7 C (hW.ok (k1 hj gsel_12)) (congrFun (sH_g (Ω := Ω) (j := j) (h := h8)) (gsel l1)) wm1_79 dX5_deliverPosted_62 ?_
        refine r_iconst C (v := 1) rfl dX5_deliverPosted_65 ?_
        refine r_iadd C dX5_deliverPosted_66 ?_
        obtain ⟨h9, eh9, hF⟩ := lt_e hF
        refine opN_1_7 C hW.x (Or.inl (k1 hj gsel_12)) (hW.fr (k1 hj gsel_12)) (congrFun (sH_g (Ω := Ω) (j := j) (h := h8)) (gsel l1)) wm1_79 dX5_deliverPosted_67 (sP_H.trans (congrArg (sH Ω j) eh9)) ?_
        refine r_goto C (tgt := 81) rfl dX5_deliverPosted_70 ?_
        refine r_iinc C (k := 3) (v := (l3 + 1)) (lo' := [(3, .int (l3 + 1)), (0, .ref (wAd w (0, j, 0, 0))), (1, .int l1), (2, .int l2)]) rfl rfl (by decide) rfl dX5_deliverPosted_81 ?_
        refine r_goto C (tgt := 10) rfl dX5_deliverPosted_84 ?_
        cases hF
        change lpN n _ _ = some _ at hL
        refine r_lo [1, 2, 3, 0] (lo' := [(0, .ref (wAd w (0, j, 0, 0))), (1, .int l1), (2, .int l2), (3, .int (l3 + 1))]) rfl ?_
        exact ih (l3 + 1) h9 hL
theorem c_X5_deliverPosted {w : WP} (hW : gW w) {Ω : OM} {j : Nat} (hj : j ≤ 10) {h : Nat → HV} (e : Ω.1 j = h) (N : Nat) (a1 : Int32) {h' : Nat → HV} (hF : F_X5_deliverPosted N a1 h = some h') {Ω' : OM} (e2 : (sH Ω j h') = Ω') : gM w 3 yX5_deliverPosted cX5_deliverPosted 4 none [.ref (wAd w (0, j, 0, 0)), .int a1] (cA w Ω) none (cA w Ω') := by
  refine gM_of "HedgeMessages$Hedge" rfl (by decide) (kR rfl) fun X C => ?_
  unfold F_X5_deliverPosted at hF
  subst e2
  show gV w X _ _ 0 [(0, .ref (wAd w (0, j, 0, 0))), (1, .int a1)] []
  refine r_ct (ct' := cA w (sH Ω j h)) (congrArg (cA w) (sH_i e).symm) ?_
  refine r_aload_n C (k := 0) rfl rfl dX5_deliverPosted_0 ?_
  refine og_0_15 C (hW.ok (k0 hj)) wm1_160 dX5_deliverPosted_1 ?_
  obtain ⟨v1, g2, hg2, hF⟩ := lt2_e hF
  obtain ⟨h3, eh3, hF⟩ := lt_e hF
  refine r_callV C (d' := 0) [] (c_X7_startSifting hW hj (congrFun (sH_g (Ω := Ω) (j := j) (h := h)) 3) hg2 (sP_H.trans (congrArg (sH Ω j) eh3))) myX7_startSifting wm4_145 ⟨_, _, _, _, (hW.ok (k2 hj)), rfl, rfl, rfl, rfl⟩ rfl (kR rfl) (by decide) (kR rfl) rfl dX5_deliverPosted_4 ?_
  refine r_istore_n C (lo' := [(2, .int v1), (0, .ref (wAd w (0, j, 0, 0))), (1, .int a1)]) rfl (by decide) rfl dX5_deliverPosted_7 ?_
  refine r_iconst C (v := 0) rfl dX5_deliverPosted_8 ?_
  refine r_istore_n C (lo' := [(3, .int 0), (2, .int v1), (0, .ref (wAd w (0, j, 0, 0))), (1, .int a1)]) rfl (by decide) rfl dX5_deliverPosted_9 ?_
  refine r_lo [2, 3, 1, 0] (lo' := [(0, .ref (wAd w (0, j, 0, 0))), (1, .int a1), (2, .int v1), (3, .int 0)]) rfl ?_
  exact lp_X5_deliverPosted_10 hW hj a1 v1 C N 0 h3 hF
theorem dX5_fail_0 : decode cX5_fail 0 = .ok (.aload_n 0, 1) := by decide +kernel
theorem dX5_fail_1 : decode cX5_fail 1 = .ok (.iload_n 1, 1) := by decide +kernel
theorem dX5_fail_2 : decode cX5_fail 2 = .ok (.invokevirtual 104, 3) := by decide +kernel
theorem dX5_fail_5 : decode cX5_fail 5 = .ok (.astore 4, 2) := by decide +kernel
theorem dX5_fail_7 : decode cX5_fail 7 = .ok (.aload 4, 2) := by decide +kernel
theorem dX5_fail_9 : decode cX5_fail 9 = .ok (.dup, 1) := by decide +kernel
theorem dX5_fail_10 : decode cX5_fail 10 = .ok (.getfield 265, 3) := by decide +kernel
theorem dX5_fail_13 : decode cX5_fail 13 = .ok (.iconst 1, 1) := by decide +kernel
theorem dX5_fail_14 : decode cX5_fail 14 = .ok (.iadd, 1) := by decide +kernel
theorem dX5_fail_15 : decode cX5_fail 15 = .ok (.putfield 265, 3) := by decide +kernel
theorem dX5_fail_18 : decode cX5_fail 18 = .ok (.aload 4, 2) := by decide +kernel
theorem dX5_fail_20 : decode cX5_fail 20 = .ok (.getfield 140, 3) := by decide +kernel
theorem dX5_fail_23 : decode cX5_fail 23 = .ok (.bipush 8, 2) := by decide +kernel
theorem dX5_fail_25 : decode cX5_fail 25 = .ok (.if_icmp .ge 17, 3) := by decide +kernel
theorem dX5_fail_28 : decode cX5_fail 28 = .ok (.aload 4, 2) := by decide +kernel
theorem dX5_fail_30 : decode cX5_fail 30 = .ok (.aload_n 0, 1) := by decide +kernel
theorem dX5_fail_31 : decode cX5_fail 31 = .ok (.getfield 29, 3) := by decide +kernel
theorem dX5_fail_34 : decode cX5_fail 34 = .ok (.iload_n 2, 1) := by decide +kernel
theorem dX5_fail_35 : decode cX5_fail 35 = .ok (.iload_n 3, 1) := by decide +kernel
theorem dX5_fail_36 : decode cX5_fail 36 = .ok (.invokevirtual 108, 3) := by decide +kernel
theorem dX5_fail_39 : decode cX5_fail 39 = .ok (.goto 14, 3) := by decide +kernel
theorem dX5_fail_42 : decode cX5_fail 42 = .ok (.aload 4, 2) := by decide +kernel
theorem dX5_fail_44 : decode cX5_fail 44 = .ok (.dup, 1) := by decide +kernel
theorem dX5_fail_45 : decode cX5_fail 45 = .ok (.getfield 268, 3) := by decide +kernel
theorem dX5_fail_48 : decode cX5_fail 48 = .ok (.iconst 1, 1) := by decide +kernel
theorem dX5_fail_49 : decode cX5_fail 49 = .ok (.iadd, 1) := by decide +kernel
theorem dX5_fail_50 : decode cX5_fail 50 = .ok (.putfield 268, 3) := by decide +kernel
theorem dX5_fail_53 : decode cX5_fail 53 = .ok (.aload_n 0, 1) := by decide +kernel
theorem dX5_fail_54 : decode cX5_fail 54 = .ok (.iload_n 2, 1) := by decide +kernel
theorem dX5_fail_55 : decode cX5_fail 55 = .ok (.iload_n 3, 1) := by decide +kernel
theorem dX5_fail_56 : decode cX5_fail 56 = .ok (.invokevirtual 228, 3) := by decide +kernel
theorem dX5_fail_59 : decode cX5_fail 59 = .ok (.return_, 1) := by decide +kernel
def F_X5_fail (N : Nat) (a1 : Int32) (a2 : Int32) (a3 : Int32) (h : Nat → HV) : Option (Nat → HV) := (lt (up h (gsel a1) (sS (h (gsel a1)) 8 (((h (gsel a1)).1 8) + 1))) fun h1 => (if 8 ≤ ((h1 (gsel a1)).1 2) then (lt (up h1 (gsel a1) (sS (h1 (gsel a1)) 9 (((h1 (gsel a1)).1 9) + 1))) fun h2 => (ob1 (F_X5_clearMessage N a2 a3 h2) fun h4 => some h4)) else (lt (F_X4_enqueue ((h1 0).2 4) 40 a2 a3 (h1 (gsel a1))) fun g6 => (lt (up h1 (gsel a1) g6) fun h7 => (ob1 (F_X5_clearMessage N a2 a3 h7) fun h9 => some h9)))))
theorem c_X5_fail {w : WP} (hW : gW w) {Ω : OM} {j : Nat} (hj : j ≤ 10) {h : Nat → HV} (e : Ω.1 j = h) (N : Nat) (a1 : Int32) (a2 : Int32) (a3 : Int32) {h' : Nat → HV} (hF : F_X5_fail N a1 a2 a3 h = some h') {Ω' : OM} (e2 : (sH Ω j h') = Ω') : gM w 3 yX5_fail cX5_fail 5 none [.ref (wAd w (0, j, 0, 0)), .int a1, .int a2, .int a3] (cA w Ω) none (cA w Ω') := by
  refine gM_of "HedgeMessages$Hedge" rfl (by decide) (kR rfl) fun X C => ?_
  unfold F_X5_fail at hF
  subst e2
  show gV w X _ _ 0 [(0, .ref (wAd w (0, j, 0, 0))), (1, .int a1), (2, .int a2), (3, .int a3)] []
  refine r_ct (ct' := cA w (sH Ω j h)) (congrArg (cA w) (sH_i e).symm) ?_
  refine r_aload_n C (k := 0) rfl rfl dX5_fail_0 ?_
  refine r_iload_n C (k := 1) rfl rfl dX5_fail_1 ?_
  refine r_callV C (d' := 0) [.int a1] (c_X5_gardener hW hj a1) myX5_gardener wm2_141 ⟨_, _, _, _, (hW.ok (k0 hj)), rfl, rfl, rfl, rfl⟩ rfl (kR rfl) (by decide) (kR rfl) rfl dX5_fail_2 ?_
  refine r_astore C (lo' := [(4, .ref (wAd w (1, j, (gsel a1), 0))), (0, .ref (wAd w (0, j, 0, 0))), (1, .int a1), (2, .int a2), (3, .int a3)]) (by decide) rfl dX5_fail_5 ?_
  refine r_aload C (k := 0) rfl dX5_fail_7 ?_
  refine r_dup C rfl dX5_fail_9 ?_
  refine ogN_1_8 C (hW.ok (k1 hj gsel_12)) (congrFun (sH_g (Ω := Ω) (j := j) (h := h)) (gsel a1)) wm1_82 dX5_fail_10 ?_
  refine r_iconst C (v := 1) rfl dX5_fail_13 ?_
  refine r_iadd C dX5_fail_14 ?_
  obtain ⟨h1, eh1, hF⟩ := lt_e hF
  refine opN_1_8 C hW.x (Or.inl (k1 hj gsel_12)) (hW.fr (k1 hj gsel_12)) (congrFun (sH_g (Ω := Ω) (j := j) (h := h)) (gsel a1)) wm1_82 dX5_fail_15 (sP_H.trans (congrArg (sH Ω j) eh1)) ?_
  refine r_aload C (k := 0) rfl dX5_fail_18 ?_
  refine ogN_1_2 C (hW.ok (k1 hj gsel_12)) (congrFun (sH_g (Ω := Ω) (j := j) (h := h1)) (gsel a1)) wm1_64 dX5_fail_20 ?_
  refine r_bipush C (v := 8) rfl dX5_fail_23 ?_
  refine r_icmp_ge C (tgt := 42) rfl dX5_fail_25 (fun hc => ?_) (fun hc => ?_)
  · rw [if_pos hc] at hF
    refine r_aload C (k := 0) rfl dX5_fail_42 ?_
    refine r_dup C rfl dX5_fail_44 ?_
    refine ogN_1_9 C (hW.ok (k1 hj gsel_12)) (congrFun (sH_g (Ω := Ω) (j := j) (h := h1)) (gsel a1)) wm1_85 dX5_fail_45 ?_
    refine r_iconst C (v := 1) rfl dX5_fail_48 ?_
    refine r_iadd C dX5_fail_49 ?_
    obtain ⟨h2, eh2, hF⟩ := lt_e hF
    refine opN_1_9 C hW.x (Or.inl (k1 hj gsel_12)) (hW.fr (k1 hj gsel_12)) (congrFun (sH_g (Ω := Ω) (j := j) (h := h1)) (gsel a1)) wm1_85 dX5_fail_50 (sP_H.trans (congrArg (sH Ω j) eh2)) ?_
    refine r_aload_n C (k := 1) rfl rfl dX5_fail_53 ?_
    refine r_iload_n C (k := 3) rfl rfl dX5_fail_54 ?_
    refine r_iload_n C (k := 4) rfl rfl dX5_fail_55 ?_
    obtain ⟨h4, hh4, hF⟩ := ob1_e hF
    refine r_callV C (d' := 1) [.int a2, .int a3] (c_X5_clearMessage hW hj (sH_g (Ω := Ω) (j := j) (h := h2)) N a2 a3 hh4 sH_H) myX5_clearMessage wm4_149 ⟨_, _, _, _, (hW.ok (k0 hj)), rfl, rfl, rfl, rfl⟩ rfl (kR rfl) (by decide) (kR rfl) rfl dX5_fail_56 ?_
    cases hF
    exact r_return C dX5_fail_59
  · rw [if_neg hc] at hF
    refine r_aload C (k := 0) rfl dX5_fail_28 ?_
    refine r_aload_n C (k := 1) rfl rfl dX5_fail_30 ?_
    refine og_0_12 C (hW.ok (k0 hj)) wm1_155 dX5_fail_31 ?_
    refine r_iload_n C (k := 3) rfl rfl dX5_fail_34 ?_
    refine r_iload_n C (k := 4) rfl rfl dX5_fail_35 ?_
    obtain ⟨g6, hg6, hF⟩ := lt_e hF
    obtain ⟨h7, eh7, hF⟩ := lt_e hF
    refine r_callV C (d' := 2) [.ref (wAd w (3, j, 0, 4)), .int a2, .int a3] (c_X4_enqueue hW hj gsel_12 (congrFun (sH_g (Ω := Ω) (j := j) (h := h1)) (gsel a1)) (hW.ok (i := (3, j, 0, 4)) (q0 hj (kR rfl))) (hW.ok (i := (4, j, 0, 4)) (q0 hj (kR rfl))) (show rlen 0 4 = 40 from rfl) (by decide) (congrArg (fun z => z.2 4) (congrFun (sH_g (Ω := Ω) (j := j) (h := h1)) 0)) a2 a3 hg6 (sP_H.trans (congrArg (sH Ω j) eh7))) myX4_enqueue wm2_145 ⟨_, _, _, _, (hW.ok (k1 hj gsel_12)), rfl, rfl, rfl, rfl⟩ rfl (kR rfl) (by decide) (kR rfl) rfl dX5_fail_36 ?_
    refine r_goto C (tgt := 53) rfl dX5_fail_39 ?_
    refine r_aload_n C (k := 1) rfl rfl dX5_fail_53 ?_
    refine r_iload_n C (k := 3) rfl rfl dX5_fail_54 ?_
    refine r_iload_n C (k := 4) rfl rfl dX5_fail_55 ?_
    obtain ⟨h9, hh9, hF⟩ := ob1_e hF
    refine r_callV C (d' := 1) [.int a2, .int a3] (c_X5_clearMessage hW hj (sH_g (Ω := Ω) (j := j) (h := h7)) N a2 a3 hh9 sH_H) myX5_clearMessage wm4_149 ⟨_, _, _, _, (hW.ok (k0 hj)), rfl, rfl, rfl, rfl⟩ rfl (kR rfl) (by decide) (kR rfl) rfl dX5_fail_56 ?_
    cases hF
    exact r_return C dX5_fail_59
theorem dX5_lostTwig_0 : decode cX5_lostTwig 0 = .ok (.iload_n 1, 1) := by decide +kernel
theorem dX5_lostTwig_1 : decode cX5_lostTwig 1 = .ok (.istore_n 3, 1) := by decide +kernel
theorem dX5_lostTwig_2 : decode cX5_lostTwig 2 = .ok (.iload_n 3, 1) := by decide +kernel
theorem dX5_lostTwig_3 : decode cX5_lostTwig 3 = .ok (.iload_n 1, 1) := by decide +kernel
theorem dX5_lostTwig_4 : decode cX5_lostTwig 4 = .ok (.iload_n 2, 1) := by decide +kernel
theorem dX5_lostTwig_5 : decode cX5_lostTwig 5 = .ok (.iadd, 1) := by decide +kernel
theorem dX5_lostTwig_6 : decode cX5_lostTwig 6 = .ok (.if_icmp .ge 22, 3) := by decide +kernel
theorem dX5_lostTwig_9 : decode cX5_lostTwig 9 = .ok (.aload_n 0, 1) := by decide +kernel
theorem dX5_lostTwig_10 : decode cX5_lostTwig 10 = .ok (.getfield 23, 3) := by decide +kernel
theorem dX5_lostTwig_13 : decode cX5_lostTwig 13 = .ok (.iload_n 3, 1) := by decide +kernel
theorem dX5_lostTwig_14 : decode cX5_lostTwig 14 = .ok (.invokevirtual 129, 3) := by decide +kernel
theorem dX5_lostTwig_17 : decode cX5_lostTwig 17 = .ok (.ifCond .ne 5, 3) := by decide +kernel
theorem dX5_lostTwig_20 : decode cX5_lostTwig 20 = .ok (.iconst 1, 1) := by decide +kernel
theorem dX5_lostTwig_21 : decode cX5_lostTwig 21 = .ok (.ireturn, 1) := by decide +kernel
theorem dX5_lostTwig_22 : decode cX5_lostTwig 22 = .ok (.iinc 3 1, 3) := by decide +kernel
theorem dX5_lostTwig_25 : decode cX5_lostTwig 25 = .ok (.goto (-23), 3) := by decide +kernel
theorem dX5_lostTwig_28 : decode cX5_lostTwig 28 = .ok (.iconst 0, 1) := by decide +kernel
theorem dX5_lostTwig_29 : decode cX5_lostTwig 29 = .ok (.ireturn, 1) := by decide +kernel
def st_X5_lostTwig_2 (N : Nat) (l1 : Int32) (l2 : Int32) (l3 : Int32) (h : Nat → HV) : Option ((Int32) ⊕ (Bool)) := (if (l1 + l2) ≤ l3 then some (.inr false) else (if (rget 40 ((h 0).2 2) l3) = 0 then some (.inr true) else some (.inl (l3 + 1))))
def F_X5_lostTwig (N : Nat) (a1 : Int32) (a2 : Int32) (h : Nat → HV) : Option (Bool) := (lpN N (fun z => st_X5_lostTwig_2 N a1 a2 z h) (a1))
theorem lp_X5_lostTwig_2 {w : WP} (hW : gW w) {Ω : OM} {j : Nat} (hj : j ≤ 10) {h : Nat → HV} (e : Ω.1 j = h)  (l1 : Int32) (l2 : Int32) {N : Nat} {X : CX} (C : gC w X cX5_lostTwig "HedgeMessages$Hedge" (some .boolean) 1 4) {v : Bool}  : ∀ (n : Nat) (l3 : Int32), lpN n (fun z : Int32 => st_X5_lostTwig_2 N l1 l2 z h) (l3) = some v → gV w X (some (.int (b2i v)), cA w Ω) (cA w Ω) 2 [(0, .ref (wAd w (0, j, 0, 0))), (1, .int l1), (2, .int l2), (3, .int l3)] [] := by
  intro n
  induction n with
  | zero => intro l3 hL; exact lpN_0 hL
  | succ n ih =>
    intro l3 hL
    obtain ⟨q9, hF, hL⟩ := lpN_e hL
    change st_X5_lostTwig_2 N l1 l2 l3 h = some q9 at hF
    unfold st_X5_lostTwig_2 at hF
    refine r_iload_n C (k := 3) rfl rfl dX5_lostTwig_2 ?_
    refine r_iload_n C (k := 1) rfl rfl dX5_lostTwig_3 ?_
    refine r_iload_n C (k := 2) rfl rfl dX5_lostTwig_4 ?_
    refine r_iadd C dX5_lostTwig_5 ?_
    refine r_icmp_ge C (tgt := 28) rfl dX5_lostTwig_6 (fun hc => ?_) (fun hc => ?_)
    · rw [if_pos hc] at hF
      refine r_iconst C (v := 0) rfl dX5_lostTwig_28 ?_
      cases hF
      change some _ = some _ at hL
      cases hL
      exact r_zreturn C false rfl dX5_lostTwig_29
    · rw [if_neg hc] at hF
      refine r_aload_n C (k := 0) rfl rfl dX5_lostTwig_9 ?_
      refine og_0_10 C (hW.ok (k0 hj)) wm1_150 dX5_lostTwig_10 ?_
      refine r_iload_n C (k := 3) rfl rfl dX5_lostTwig_13 ?_
      refine r_callV C (d' := 0) [.int l3] (c_rget (hW.ok (i := (3, j, 0, 2)) (q0 hj (kR rfl))) (hW.ok (i := (4, j, 0, 2)) (q0 hj (kR rfl))) (show rlen 0 2 = 40 from rfl) (by decide) (congrArg (fun z => z.2 2) (congrFun e 0)) rfl) myX8_get wm3_163 ⟨_, _, _, _, (hW.ok (i := (3, j, 0, 2)) (q0 hj (kR rfl))), rfl, rfl, rfl, rfl⟩ rfl (kR rfl) (by decide) (kR rfl) rfl dX5_lostTwig_14 ?_
      refine r_if_ne C (tgt := 22) rfl dX5_lostTwig_17 (fun hc => ?_) (fun hc => ?_)
      · rw [if_neg hc] at hF
        refine r_iinc C (k := 3) (v := (l3 + 1)) (lo' := [(3, .int (l3 + 1)), (0, .ref (wAd w (0, j, 0, 0))), (1, .int l1), (2, .int l2)]) rfl rfl (by decide) rfl dX5_lostTwig_22 ?_
        refine r_goto C (tgt := 2) rfl dX5_lostTwig_25 ?_
        cases hF
        change lpN n _ _ = some _ at hL
        refine r_lo [1, 2, 3, 0] (lo' := [(0, .ref (wAd w (0, j, 0, 0))), (1, .int l1), (2, .int l2), (3, .int (l3 + 1))]) rfl ?_
        exact ih (l3 + 1) hL
      · rw [if_pos hc] at hF
        refine r_iconst C (v := 1) rfl dX5_lostTwig_20 ?_
        cases hF
        change some _ = some _ at hL
        cases hL
        exact r_zreturn C true rfl dX5_lostTwig_21
theorem c_X5_lostTwig {w : WP} (hW : gW w) {Ω : OM} {j : Nat} (hj : j ≤ 10) {h : Nat → HV} (e : Ω.1 j = h) (N : Nat) (a1 : Int32) (a2 : Int32) {v : Bool} (hF : F_X5_lostTwig N a1 a2 h = some v) : gM w 1 yX5_lostTwig cX5_lostTwig 4 (some .boolean) [.ref (wAd w (0, j, 0, 0)), .int a1, .int a2] (cA w Ω) (some (.int (b2i v))) (cA w Ω) := by
  refine gM_of "HedgeMessages$Hedge" rfl (by decide) (kR rfl) fun X C => ?_
  unfold F_X5_lostTwig at hF
  show gV w X _ _ 0 [(0, .ref (wAd w (0, j, 0, 0))), (1, .int a1), (2, .int a2)] []
  refine r_iload_n C (k := 1) rfl rfl dX5_lostTwig_0 ?_
  refine r_istore_n C (lo' := [(3, .int a1), (0, .ref (wAd w (0, j, 0, 0))), (1, .int a1), (2, .int a2)]) rfl (by decide) rfl dX5_lostTwig_1 ?_
  refine r_lo [1, 2, 3, 0] (lo' := [(0, .ref (wAd w (0, j, 0, 0))), (1, .int a1), (2, .int a2), (3, .int a1)]) rfl ?_
  exact lp_X5_lostTwig_2 hW hj e a1 a2 C N a1 hF
theorem dX5_failInProgress_0 : decode cX5_failInProgress 0 = .ok (.aload_n 0, 1) := by decide +kernel
theorem dX5_failInProgress_1 : decode cX5_failInProgress 1 = .ok (.iload_n 1, 1) := by decide +kernel
theorem dX5_failInProgress_2 : decode cX5_failInProgress 2 = .ok (.invokevirtual 104, 3) := by decide +kernel
theorem dX5_failInProgress_5 : decode cX5_failInProgress 5 = .ok (.astore_n 2, 1) := by decide +kernel
theorem dX5_failInProgress_6 : decode cX5_failInProgress 6 = .ok (.aload_n 0, 1) := by decide +kernel
theorem dX5_failInProgress_7 : decode cX5_failInProgress 7 = .ok (.aload_n 2, 1) := by decide +kernel
theorem dX5_failInProgress_8 : decode cX5_failInProgress 8 = .ok (.getfield 150, 3) := by decide +kernel
theorem dX5_failInProgress_11 : decode cX5_failInProgress 11 = .ok (.aload_n 2, 1) := by decide +kernel
theorem dX5_failInProgress_12 : decode cX5_failInProgress 12 = .ok (.getfield 153, 3) := by decide +kernel
theorem dX5_failInProgress_15 : decode cX5_failInProgress 15 = .ok (.invokevirtual 258, 3) := by decide +kernel
theorem dX5_failInProgress_18 : decode cX5_failInProgress 18 = .ok (.ifCond .eq 20, 3) := by decide +kernel
theorem dX5_failInProgress_21 : decode cX5_failInProgress 21 = .ok (.aload_n 0, 1) := by decide +kernel
theorem dX5_failInProgress_22 : decode cX5_failInProgress 22 = .ok (.iload_n 1, 1) := by decide +kernel
theorem dX5_failInProgress_23 : decode cX5_failInProgress 23 = .ok (.aload_n 2, 1) := by decide +kernel
theorem dX5_failInProgress_24 : decode cX5_failInProgress 24 = .ok (.getfield 150, 3) := by decide +kernel
theorem dX5_failInProgress_27 : decode cX5_failInProgress 27 = .ok (.aload_n 2, 1) := by decide +kernel
theorem dX5_failInProgress_28 : decode cX5_failInProgress 28 = .ok (.getfield 241, 3) := by decide +kernel
theorem dX5_failInProgress_31 : decode cX5_failInProgress 31 = .ok (.invokevirtual 262, 3) := by decide +kernel
theorem dX5_failInProgress_34 : decode cX5_failInProgress 34 = .ok (.aload_n 2, 1) := by decide +kernel
theorem dX5_failInProgress_35 : decode cX5_failInProgress 35 = .ok (.invokevirtual 247, 3) := by decide +kernel
theorem dX5_failInProgress_38 : decode cX5_failInProgress 38 = .ok (.return_, 1) := by decide +kernel
def F_X5_failInProgress (N : Nat) (a1 : Int32) (h : Nat → HV) : Option (Nat → HV) := (ob1 (F_X5_lostTwig N ((h (gsel a1)).1 3) ((h (gsel a1)).1 5) h) fun v1 => (if v1 = true then (ob1 (F_X5_fail N a1 ((h (gsel a1)).1 3) ((h (gsel a1)).1 4) h) fun h3 => (lt (F_X4_stopWriting (h3 (gsel a1))) fun g5 => (lt (up h3 (gsel a1) g5) fun h6 => some h6))) else some h))
theorem c_X5_failInProgress {w : WP} (hW : gW w) {Ω : OM} {j : Nat} (hj : j ≤ 10) {h : Nat → HV} (e : Ω.1 j = h) (N : Nat) (a1 : Int32) {h' : Nat → HV} (hF : F_X5_failInProgress N a1 h = some h') {Ω' : OM} (e2 : (sH Ω j h') = Ω') : gM w 4 yX5_failInProgress cX5_failInProgress 3 none [.ref (wAd w (0, j, 0, 0)), .int a1] (cA w Ω) none (cA w Ω') := by
  refine gM_of "HedgeMessages$Hedge" rfl (by decide) (kR rfl) fun X C => ?_
  unfold F_X5_failInProgress at hF
  subst e2
  show gV w X _ _ 0 [(0, .ref (wAd w (0, j, 0, 0))), (1, .int a1)] []
  refine r_ct (ct' := cA w (sH Ω j h)) (congrArg (cA w) (sH_i e).symm) ?_
  refine r_aload_n C (k := 0) rfl rfl dX5_failInProgress_0 ?_
  refine r_iload_n C (k := 1) rfl rfl dX5_failInProgress_1 ?_
  refine r_callV C (d' := 0) [.int a1] (c_X5_gardener hW hj a1) myX5_gardener wm2_141 ⟨_, _, _, _, (hW.ok (k0 hj)), rfl, rfl, rfl, rfl⟩ rfl (kR rfl) (by decide) (kR rfl) rfl dX5_failInProgress_2 ?_
  refine r_astore_n C (lo' := [(2, .ref (wAd w (1, j, (gsel a1), 0))), (0, .ref (wAd w (0, j, 0, 0))), (1, .int a1)]) rfl (by decide) rfl dX5_failInProgress_5 ?_
  refine r_aload_n C (k := 1) rfl rfl dX5_failInProgress_6 ?_
  refine r_aload_n C (k := 0) rfl rfl dX5_failInProgress_7 ?_
  refine ogN_1_3 C (hW.ok (k1 hj gsel_12)) (congrFun (sH_g (Ω := Ω) (j := j) (h := h)) (gsel a1)) wm1_67 dX5_failInProgress_8 ?_
  refine r_aload_n C (k := 0) rfl rfl dX5_failInProgress_11 ?_
  refine ogN_1_5 C (hW.ok (k1 hj gsel_12)) (congrFun (sH_g (Ω := Ω) (j := j) (h := h)) (gsel a1)) wm1_73 dX5_failInProgress_12 ?_
  obtain ⟨v1, hv1, hF⟩ := ob1_e hF
  refine r_callV C (d' := 1) [.int ((h (gsel a1)).1 3), .int ((h (gsel a1)).1 5)] (c_X5_lostTwig hW hj (sH_g (Ω := Ω) (j := j) (h := h)) N ((h (gsel a1)).1 3) ((h (gsel a1)).1 5) hv1) myX5_lostTwig wm4_200 ⟨_, _, _, _, (hW.ok (k0 hj)), rfl, rfl, rfl, rfl⟩ rfl (kR rfl) (by decide) (kR rfl) rfl dX5_failInProgress_15 ?_
  refine r_if_eq C (tgt := 38) rfl dX5_failInProgress_18 (fun hc => ?_) (fun hc => ?_)
  · rw [if_neg (b2i_f hc)] at hF
    cases hF
    exact r_return C dX5_failInProgress_38
  · rw [if_pos (b2i_t hc)] at hF
    refine r_aload_n C (k := 1) rfl rfl dX5_failInProgress_21 ?_
    refine r_iload_n C (k := 2) rfl rfl dX5_failInProgress_22 ?_
    refine r_aload_n C (k := 0) rfl rfl dX5_failInProgress_23 ?_
    refine ogN_1_3 C (hW.ok (k1 hj gsel_12)) (congrFun (sH_g (Ω := Ω) (j := j) (h := h)) (gsel a1)) wm1_67 dX5_failInProgress_24 ?_
    refine r_aload_n C (k := 0) rfl rfl dX5_failInProgress_27 ?_
    refine ogN_1_4 C (hW.ok (k1 hj gsel_12)) (congrFun (sH_g (Ω := Ω) (j := j) (h := h)) (gsel a1)) wm1_70 dX5_failInProgress_28 ?_
    obtain ⟨h3, hh3, hF⟩ := ob1_e hF
    refine r_callV C (d' := 3) [.int a1, .int ((h (gsel a1)).1 3), .int ((h (gsel a1)).1 4)] (c_X5_fail hW hj (sH_g (Ω := Ω) (j := j) (h := h)) N a1 ((h (gsel a1)).1 3) ((h (gsel a1)).1 4) hh3 sH_H) myX5_fail wm4_204 ⟨_, _, _, _, (hW.ok (k0 hj)), rfl, rfl, rfl, rfl⟩ rfl (kR rfl) (by decide) (kR rfl) rfl dX5_failInProgress_31 ?_
    refine r_aload_n C (k := 0) rfl rfl dX5_failInProgress_34 ?_
    obtain ⟨g5, hg5, hF⟩ := lt_e hF
    obtain ⟨h6, eh6, hF⟩ := lt_e hF
    refine r_callV C (d' := 0) [] (c_X4_stopWriting hW hj gsel_12 (congrFun (sH_g (Ω := Ω) (j := j) (h := h3)) (gsel a1)) hg5 (sP_H.trans (congrArg (sH Ω j) eh6))) myX4_stopWriting wm4_183 ⟨_, _, _, _, (hW.ok (k1 hj gsel_12)), rfl, rfl, rfl, rfl⟩ rfl (kR rfl) (by decide) (kR rfl) rfl dX5_failInProgress_35 ?_
    cases hF
    exact r_return C dX5_failInProgress_38
theorem dX5_failPosted_0 : decode cX5_failPosted 0 = .ok (.aload_n 0, 1) := by decide +kernel
theorem dX5_failPosted_1 : decode cX5_failPosted 1 = .ok (.getfield 45, 3) := by decide +kernel
theorem dX5_failPosted_4 : decode cX5_failPosted 4 = .ok (.invokevirtual 225, 3) := by decide +kernel
theorem dX5_failPosted_7 : decode cX5_failPosted 7 = .ok (.istore_n 1, 1) := by decide +kernel
theorem dX5_failPosted_8 : decode cX5_failPosted 8 = .ok (.iconst 0, 1) := by decide +kernel
theorem dX5_failPosted_9 : decode cX5_failPosted 9 = .ok (.istore_n 2, 1) := by decide +kernel
theorem dX5_failPosted_10 : decode cX5_failPosted 10 = .ok (.iload_n 2, 1) := by decide +kernel
theorem dX5_failPosted_11 : decode cX5_failPosted 11 = .ok (.iload_n 1, 1) := by decide +kernel
theorem dX5_failPosted_12 : decode cX5_failPosted 12 = .ok (.if_icmp .ge 73, 3) := by decide +kernel
theorem dX5_failPosted_15 : decode cX5_failPosted 15 = .ok (.aload_n 0, 1) := by decide +kernel
theorem dX5_failPosted_16 : decode cX5_failPosted 16 = .ok (.getfield 45, 3) := by decide +kernel
theorem dX5_failPosted_19 : decode cX5_failPosted 19 = .ok (.getfield 163, 3) := by decide +kernel
theorem dX5_failPosted_22 : decode cX5_failPosted 22 = .ok (.iload_n 2, 1) := by decide +kernel
theorem dX5_failPosted_23 : decode cX5_failPosted 23 = .ok (.invokevirtual 129, 3) := by decide +kernel
theorem dX5_failPosted_26 : decode cX5_failPosted 26 = .ok (.istore_n 3, 1) := by decide +kernel
theorem dX5_failPosted_27 : decode cX5_failPosted 27 = .ok (.aload_n 0, 1) := by decide +kernel
theorem dX5_failPosted_28 : decode cX5_failPosted 28 = .ok (.getfield 45, 3) := by decide +kernel
theorem dX5_failPosted_31 : decode cX5_failPosted 31 = .ok (.getfield 166, 3) := by decide +kernel
theorem dX5_failPosted_34 : decode cX5_failPosted 34 = .ok (.iload_n 2, 1) := by decide +kernel
theorem dX5_failPosted_35 : decode cX5_failPosted 35 = .ok (.invokevirtual 129, 3) := by decide +kernel
theorem dX5_failPosted_38 : decode cX5_failPosted 38 = .ok (.istore 4, 2) := by decide +kernel
theorem dX5_failPosted_40 : decode cX5_failPosted 40 = .ok (.aload_n 0, 1) := by decide +kernel
theorem dX5_failPosted_41 : decode cX5_failPosted 41 = .ok (.iload_n 3, 1) := by decide +kernel
theorem dX5_failPosted_42 : decode cX5_failPosted 42 = .ok (.iload 4, 2) := by decide +kernel
theorem dX5_failPosted_44 : decode cX5_failPosted 44 = .ok (.invokevirtual 258, 3) := by decide +kernel
theorem dX5_failPosted_47 : decode cX5_failPosted 47 = .ok (.ifCond .eq 24, 3) := by decide +kernel
theorem dX5_failPosted_50 : decode cX5_failPosted 50 = .ok (.aload_n 0, 1) := by decide +kernel
theorem dX5_failPosted_51 : decode cX5_failPosted 51 = .ok (.aload_n 0, 1) := by decide +kernel
theorem dX5_failPosted_52 : decode cX5_failPosted 52 = .ok (.getfield 45, 3) := by decide +kernel
theorem dX5_failPosted_55 : decode cX5_failPosted 55 = .ok (.getfield 160, 3) := by decide +kernel
theorem dX5_failPosted_58 : decode cX5_failPosted 58 = .ok (.iload_n 2, 1) := by decide +kernel
theorem dX5_failPosted_59 : decode cX5_failPosted 59 = .ok (.invokevirtual 129, 3) := by decide +kernel
theorem dX5_failPosted_62 : decode cX5_failPosted 62 = .ok (.iload_n 3, 1) := by decide +kernel
theorem dX5_failPosted_63 : decode cX5_failPosted 63 = .ok (.iload 4, 2) := by decide +kernel
theorem dX5_failPosted_65 : decode cX5_failPosted 65 = .ok (.invokevirtual 262, 3) := by decide +kernel
theorem dX5_failPosted_68 : decode cX5_failPosted 68 = .ok (.goto 11, 3) := by decide +kernel
theorem dX5_failPosted_71 : decode cX5_failPosted 71 = .ok (.aload_n 0, 1) := by decide +kernel
theorem dX5_failPosted_72 : decode cX5_failPosted 72 = .ok (.getfield 45, 3) := by decide +kernel
theorem dX5_failPosted_75 : decode cX5_failPosted 75 = .ok (.iload_n 2, 1) := by decide +kernel
theorem dX5_failPosted_76 : decode cX5_failPosted 76 = .ok (.invokevirtual 234, 3) := by decide +kernel
theorem dX5_failPosted_79 : decode cX5_failPosted 79 = .ok (.iinc 2 1, 3) := by decide +kernel
theorem dX5_failPosted_82 : decode cX5_failPosted 82 = .ok (.goto (-72), 3) := by decide +kernel
theorem dX5_failPosted_85 : decode cX5_failPosted 85 = .ok (.return_, 1) := by decide +kernel
def st_X5_failPosted_10 (N : Nat) (l1 : Int32) (l2 : Int32) (h : Nat → HV) : Option ((Int32 × (Nat → HV)) ⊕ (Nat → HV)) := (if l1 ≤ l2 then some (.inr h) else (ob1 (F_X5_lostTwig N (rget 20 ((h 3).2 1) l2) (rget 20 ((h 3).2 2) l2) h) fun v4 => (if v4 = true then (ob1 (F_X5_fail N (rget 20 ((h 3).2 0) l2) (rget 20 ((h 3).2 1) l2) (rget 20 ((h 3).2 2) l2) h) fun h9 => some (.inl ((l2 + 1), h9))) else (lt (F_X7_keep l2 (h 3)) fun g6 => (lt (up h 3 g6) fun h7 => some (.inl ((l2 + 1), h7)))))))
def F_X5_failPosted (N : Nat) (h : Nat → HV) : Option (Nat → HV) := (lt2 (F_X7_startSifting (h 3)) fun v1 g2 => (lt (up h 3 g2) fun h3 => (lpN N (fun z => st_X5_failPosted_10 N v1 z.1 z.2) (0, h3))))
theorem lp_X5_failPosted_10 {w : WP} (hW : gW w) {Ω : OM} {j : Nat} (hj : j ≤ 10)  (l1 : Int32) {N : Nat} {X : CX} (C : gC w X cX5_failPosted "HedgeMessages$Hedge" none 4 5) {h' : Nat → HV}  : ∀ (n : Nat) (l2 : Int32) (h : Nat → HV), lpN n (fun z : Int32 × (Nat → HV) => st_X5_failPosted_10 N l1 z.1 z.2) (l2, h) = some h' → gV w X (none, cA w (sH Ω j h')) (cA w (sH Ω j h)) 10 [(0, .ref (wAd w (0, j, 0, 0))), (1, .int l1), (2, .int l2)] [] := by
  intro n
  induction n with
  | zero => intro l2 h hL; exact lpN_0 hL
  | succ n ih =>
    intro l2 h hL
    obtain ⟨q9, hF, hL⟩ := lpN_e hL
    change st_X5_failPosted_10 N l1 l2 h = some q9 at hF
    unfold st_X5_failPosted_10 at hF
    refine r_iload_n C (k := 2) rfl rfl dX5_failPosted_10 ?_
    refine r_iload_n C (k := 1) rfl rfl dX5_failPosted_11 ?_
    refine r_icmp_ge C (tgt := 85) rfl dX5_failPosted_12 (fun hc => ?_) (fun hc => ?_)
    · rw [if_pos hc] at hF
      cases hF
      change some _ = some _ at hL
      cases hL
      exact r_return C dX5_failPosted_85
    · rw [if_neg hc] at hF
      refine r_aload_n C (k := 0) rfl rfl dX5_failPosted_15 ?_
      refine og_0_15 C (hW.ok (k0 hj)) wm1_160 dX5_failPosted_16 ?_
      refine ogN_2_1 C (hW.ok (k2 hj)) wm1_118 dX5_failPosted_19 ?_
      refine r_iload_n C (k := 2) rfl rfl dX5_failPosted_22 ?_
      refine r_callV C (d' := 0) [.int l2] (c_rget (hW.ok (i := (3, j, 3, 1)) (q3 hj (kR rfl))) (hW.ok (i := (4, j, 3, 1)) (q3 hj (kR rfl))) (show rlen 3 1 = 20 from rfl) (by decide) (congrArg (fun z => z.2 1) (congrFun (sH_g (Ω := Ω) (j := j) (h := h)) 3)) rfl) myX8_get wm3_163 ⟨_, _, _, _, (hW.ok (i := (3, j, 3, 1)) (q3 hj (kR rfl))), rfl, rfl, rfl, rfl⟩ rfl (kR rfl) (by decide) (kR rfl) rfl dX5_failPosted_23 ?_
      refine r_istore_n C (lo' := [(3, .int (rget 20 ((h 3).2 1) l2)), (0, .ref (wAd w (0, j, 0, 0))), (1, .int l1), (2, .int l2)]) rfl (by decide) rfl dX5_failPosted_26 ?_
      refine r_aload_n C (k := 1) rfl rfl dX5_failPosted_27 ?_
      refine og_0_15 C (hW.ok (k0 hj)) wm1_160 dX5_failPosted_28 ?_
      refine ogN_2_2 C (hW.ok (k2 hj)) wm1_120 dX5_failPosted_31 ?_
      refine r_iload_n C (k := 3) rfl rfl dX5_failPosted_34 ?_
      refine r_callV C (d' := 0) [.int l2] (c_rget (hW.ok (i := (3, j, 3, 2)) (q3 hj (kR rfl))) (hW.ok (i := (4, j, 3, 2)) (q3 hj (kR rfl))) (show rlen 3 2 = 20 from rfl) (by decide) (congrArg (fun z => z.2 2) (congrFun (sH_g (Ω := Ω) (j := j) (h := h)) 3)) rfl) myX8_get wm3_163 ⟨_, _, _, _, (hW.ok (i := (3, j, 3, 2)) (q3 hj (kR rfl))), rfl, rfl, rfl, rfl⟩ rfl (kR rfl) (by decide) (kR rfl) rfl dX5_failPosted_35 ?_
      refine r_istore C (lo' := [(4, .int (rget 20 ((h 3).2 2) l2)), (3, .int (rget 20 ((h 3).2 1) l2)), (0, .ref (wAd w (0, j, 0, 0))), (1, .int l1), (2, .int l2)]) (by decide) rfl dX5_failPosted_38 ?_
      refine r_aload_n C (k := 2) rfl rfl dX5_failPosted_40 ?_
      refine r_iload_n C (k := 1) rfl rfl dX5_failPosted_41 ?_
      refine r_iload C (k := 0) rfl dX5_failPosted_42 ?_
      obtain ⟨v4, hv4, hF⟩ := ob1_e hF
      refine r_callV C (d' := 1) [.int (rget 20 ((h 3).2 1) l2), .int (rget 20 ((h 3).2 2) l2)] (c_X5_lostTwig hW hj (sH_g (Ω := Ω) (j := j) (h := h)) N (rget 20 ((h 3).2 1) l2) (rget 20 ((h 3).2 2) l2) hv4) myX5_lostTwig wm4_200 ⟨_, _, _, _, (hW.ok (k0 hj)), rfl, rfl, rfl, rfl⟩ rfl (kR rfl) (by decide) (kR rfl) rfl dX5_failPosted_44 ?_
      refine r_if_eq C (tgt := 71) rfl dX5_failPosted_47 (fun hc => ?_) (fun hc => ?_)
      · rw [if_neg (b2i_f hc)] at hF
        refine r_aload_n C (k := 2) rfl rfl dX5_failPosted_71 ?_
        refine og_0_15 C (hW.ok (k0 hj)) wm1_160 dX5_failPosted_72 ?_
        refine r_iload_n C (k := 4) rfl rfl dX5_failPosted_75 ?_
        obtain ⟨g6, hg6, hF⟩ := lt_e hF
        obtain ⟨h7, eh7, hF⟩ := lt_e hF
        refine r_callV C (d' := 2) [.int l2] (c_X7_keep hW hj (congrFun (sH_g (Ω := Ω) (j := j) (h := h)) 3) l2 hg6 (sP_H.trans (congrArg (sH Ω j) eh7))) myX7_keep wm4_153 ⟨_, _, _, _, (hW.ok (k2 hj)), rfl, rfl, rfl, rfl⟩ rfl (kR rfl) (by decide) (kR rfl) rfl dX5_failPosted_76 ?_
        refine r_iinc C (k := 4) (v := (l2 + 1)) (lo' := [(2, .int (l2 + 1)), (4, .int (rget 20 ((h 3).2 2) l2)), (3, .int (rget 20 ((h 3).2 1) l2)), (0, .ref (wAd w (0, j, 0, 0))), (1, .int l1)]) rfl rfl (by decide) rfl dX5_failPosted_79 ?_
        refine r_goto C (tgt := 10) rfl dX5_failPosted_82 ?_
        cases hF
        change lpN n _ _ = some _ at hL
        refine r_lo [3, 4, 0] (lo' := [(0, .ref (wAd w (0, j, 0, 0))), (1, .int l1), (2, .int (l2 + 1))]) rfl ?_
        exact ih (l2 + 1) h7 hL
      · rw [if_pos (b2i_t hc)] at hF
        refine r_aload_n C (k := 2) rfl rfl dX5_failPosted_50 ?_
        refine r_aload_n C (k := 2) rfl rfl dX5_failPosted_51 ?_
        refine og_0_15 C (hW.ok (k0 hj)) wm1_160 dX5_failPosted_52 ?_
        refine ogN_2_0 C (hW.ok (k2 hj)) wm1_116 dX5_failPosted_55 ?_
        refine r_iload_n C (k := 4) rfl rfl dX5_failPosted_58 ?_
        refine r_callV C (d' := 0) [.int l2] (c_rget (hW.ok (i := (3, j, 3, 0)) (q3 hj (kR rfl))) (hW.ok (i := (4, j, 3, 0)) (q3 hj (kR rfl))) (show rlen 3 0 = 20 from rfl) (by decide) (congrArg (fun z => z.2 0) (congrFun (sH_g (Ω := Ω) (j := j) (h := h)) 3)) rfl) myX8_get wm3_163 ⟨_, _, _, _, (hW.ok (i := (3, j, 3, 0)) (q3 hj (kR rfl))), rfl, rfl, rfl, rfl⟩ rfl (kR rfl) (by decide) (kR rfl) rfl dX5_failPosted_59 ?_
        refine r_iload_n C (k := 1) rfl rfl dX5_failPosted_62 ?_
        refine r_iload C (k := 0) rfl dX5_failPosted_63 ?_
        obtain ⟨h9, hh9, hF⟩ := ob1_e hF
        refine r_callV C (d' := 3) [.int (rget 20 ((h 3).2 0) l2), .int (rget 20 ((h 3).2 1) l2), .int (rget 20 ((h 3).2 2) l2)] (c_X5_fail hW hj (sH_g (Ω := Ω) (j := j) (h := h)) N (rget 20 ((h 3).2 0) l2) (rget 20 ((h 3).2 1) l2) (rget 20 ((h 3).2 2) l2) hh9 sH_H) myX5_fail wm4_204 ⟨_, _, _, _, (hW.ok (k0 hj)), rfl, rfl, rfl, rfl⟩ rfl (kR rfl) (by decide) (kR rfl) rfl dX5_failPosted_65 ?_
        refine r_goto C (tgt := 79) rfl dX5_failPosted_68 ?_
        refine r_iinc C (k := 4) (v := (l2 + 1)) (lo' := [(2, .int (l2 + 1)), (4, .int (rget 20 ((h 3).2 2) l2)), (3, .int (rget 20 ((h 3).2 1) l2)), (0, .ref (wAd w (0, j, 0, 0))), (1, .int l1)]) rfl rfl (by decide) rfl dX5_failPosted_79 ?_
        refine r_goto C (tgt := 10) rfl dX5_failPosted_82 ?_
        cases hF
        change lpN n _ _ = some _ at hL
        refine r_lo [3, 4, 0] (lo' := [(0, .ref (wAd w (0, j, 0, 0))), (1, .int l1), (2, .int (l2 + 1))]) rfl ?_
        exact ih (l2 + 1) h9 hL
theorem c_X5_failPosted {w : WP} (hW : gW w) {Ω : OM} {j : Nat} (hj : j ≤ 10) {h : Nat → HV} (e : Ω.1 j = h) (N : Nat)  {h' : Nat → HV} (hF : F_X5_failPosted N h = some h') {Ω' : OM} (e2 : (sH Ω j h') = Ω') : gM w 4 yX5_failPosted cX5_failPosted 5 none [.ref (wAd w (0, j, 0, 0))] (cA w Ω) none (cA w Ω') := by
  refine gM_of "HedgeMessages$Hedge" rfl (by decide) (kR rfl) fun X C => ?_
  unfold F_X5_failPosted at hF
  subst e2
  show gV w X _ _ 0 [(0, .ref (wAd w (0, j, 0, 0)))] []
  refine r_ct (ct' := cA w (sH Ω j h)) (congrArg (cA w) (sH_i e).symm) ?_
  refine r_aload_n C (k := 0) rfl rfl dX5_failPosted_0 ?_
  refine og_0_15 C (hW.ok (k0 hj)) wm1_160 dX5_failPosted_1 ?_
  obtain ⟨v1, g2, hg2, hF⟩ := lt2_e hF
  obtain ⟨h3, eh3, hF⟩ := lt_e hF
  refine r_callV C (d' := 0) [] (c_X7_startSifting hW hj (congrFun (sH_g (Ω := Ω) (j := j) (h := h)) 3) hg2 (sP_H.trans (congrArg (sH Ω j) eh3))) myX7_startSifting wm4_145 ⟨_, _, _, _, (hW.ok (k2 hj)), rfl, rfl, rfl, rfl⟩ rfl (kR rfl) (by decide) (kR rfl) rfl dX5_failPosted_4 ?_
  refine r_istore_n C (lo' := [(1, .int v1), (0, .ref (wAd w (0, j, 0, 0)))]) rfl (by decide) rfl dX5_failPosted_7 ?_
  refine r_iconst C (v := 0) rfl dX5_failPosted_8 ?_
  refine r_istore_n C (lo' := [(2, .int 0), (1, .int v1), (0, .ref (wAd w (0, j, 0, 0)))]) rfl (by decide) rfl dX5_failPosted_9 ?_
  refine r_lo [2, 1, 0] (lo' := [(0, .ref (wAd w (0, j, 0, 0))), (1, .int v1), (2, .int 0)]) rfl ?_
  exact lp_X5_failPosted_10 hW hj v1 C N 0 h3 hF
theorem dX5_grow_0 : decode cX5_grow 0 = .ok (.iconst 0, 1) := by decide +kernel
theorem dX5_grow_1 : decode cX5_grow 1 = .ok (.istore_n 1, 1) := by decide +kernel
theorem dX5_grow_2 : decode cX5_grow 2 = .ok (.iload_n 1, 1) := by decide +kernel
theorem dX5_grow_3 : decode cX5_grow 3 = .ok (.aload_n 0, 1) := by decide +kernel
theorem dX5_grow_4 : decode cX5_grow 4 = .ok (.getfield 49, 3) := by decide +kernel
theorem dX5_grow_7 : decode cX5_grow 7 = .ok (.if_icmp .ge 60, 3) := by decide +kernel
theorem dX5_grow_10 : decode cX5_grow 10 = .ok (.aload_n 0, 1) := by decide +kernel
theorem dX5_grow_11 : decode cX5_grow 11 = .ok (.getfield 23, 3) := by decide +kernel
theorem dX5_grow_14 : decode cX5_grow 14 = .ok (.iload_n 1, 1) := by decide +kernel
theorem dX5_grow_15 : decode cX5_grow 15 = .ok (.invokevirtual 129, 3) := by decide +kernel
theorem dX5_grow_18 : decode cX5_grow 18 = .ok (.istore_n 2, 1) := by decide +kernel
theorem dX5_grow_19 : decode cX5_grow 19 = .ok (.iload_n 2, 1) := by decide +kernel
theorem dX5_grow_20 : decode cX5_grow 20 = .ok (.ifCond .le 17, 3) := by decide +kernel
theorem dX5_grow_23 : decode cX5_grow 23 = .ok (.aload_n 0, 1) := by decide +kernel
theorem dX5_grow_24 : decode cX5_grow 24 = .ok (.getfield 23, 3) := by decide +kernel
theorem dX5_grow_27 : decode cX5_grow 27 = .ok (.iload_n 1, 1) := by decide +kernel
theorem dX5_grow_28 : decode cX5_grow 28 = .ok (.iload_n 2, 1) := by decide +kernel
theorem dX5_grow_29 : decode cX5_grow 29 = .ok (.aload_n 0, 1) := by decide +kernel
theorem dX5_grow_30 : decode cX5_grow 30 = .ok (.getfield 56, 3) := by decide +kernel
theorem dX5_grow_33 : decode cX5_grow 33 = .ok (.iadd, 1) := by decide +kernel
theorem dX5_grow_34 : decode cX5_grow 34 = .ok (.invokevirtual 100, 3) := by decide +kernel
theorem dX5_grow_37 : decode cX5_grow 37 = .ok (.aload_n 0, 1) := by decide +kernel
theorem dX5_grow_38 : decode cX5_grow 38 = .ok (.getfield 26, 3) := by decide +kernel
theorem dX5_grow_41 : decode cX5_grow 41 = .ok (.iload_n 1, 1) := by decide +kernel
theorem dX5_grow_42 : decode cX5_grow 42 = .ok (.invokevirtual 129, 3) := by decide +kernel
theorem dX5_grow_45 : decode cX5_grow 45 = .ok (.istore_n 3, 1) := by decide +kernel
theorem dX5_grow_46 : decode cX5_grow 46 = .ok (.iload_n 3, 1) := by decide +kernel
theorem dX5_grow_47 : decode cX5_grow 47 = .ok (.ifCond .le 14, 3) := by decide +kernel
theorem dX5_grow_50 : decode cX5_grow 50 = .ok (.aload_n 0, 1) := by decide +kernel
theorem dX5_grow_51 : decode cX5_grow 51 = .ok (.getfield 26, 3) := by decide +kernel
theorem dX5_grow_54 : decode cX5_grow 54 = .ok (.iload_n 1, 1) := by decide +kernel
theorem dX5_grow_55 : decode cX5_grow 55 = .ok (.iload_n 3, 1) := by decide +kernel
theorem dX5_grow_56 : decode cX5_grow 56 = .ok (.iconst 1, 1) := by decide +kernel
theorem dX5_grow_57 : decode cX5_grow 57 = .ok (.isub, 1) := by decide +kernel
theorem dX5_grow_58 : decode cX5_grow 58 = .ok (.invokevirtual 100, 3) := by decide +kernel
theorem dX5_grow_61 : decode cX5_grow 61 = .ok (.iinc 1 1, 3) := by decide +kernel
theorem dX5_grow_64 : decode cX5_grow 64 = .ok (.goto (-62), 3) := by decide +kernel
theorem dX5_grow_67 : decode cX5_grow 67 = .ok (.return_, 1) := by decide +kernel
def st_X5_grow_2 (N : Nat) (l1 : Int32) (h : Nat → HV) : Option ((Int32 × (Nat → HV)) ⊕ (Nat → HV)) := (if ((h 0).1 0) ≤ l1 then some (.inr h) else (if (rget 40 ((h 0).2 2) l1) ≤ 0 then (if (rget 40 ((h 0).2 3) l1) ≤ 0 then some (.inl ((l1 + 1), h)) else (lt (up h 0 (sA (h 0) 3 (rset 40 ((h 0).2 3) l1 ((rget 40 ((h 0).2 3) l1) - 1)))) fun h2 => some (.inl ((l1 + 1), h2)))) else (lt (up h 0 (sA (h 0) 2 (rset 40 ((h 0).2 2) l1 ((rget 40 ((h 0).2 2) l1) + ((h 0).1 2))))) fun h4 => (if (rget 40 ((h4 0).2 3) l1) ≤ 0 then some (.inl ((l1 + 1), h4)) else (lt (up h4 0 (sA (h4 0) 3 (rset 40 ((h4 0).2 3) l1 ((rget 40 ((h4 0).2 3) l1) - 1)))) fun h6 => some (.inl ((l1 + 1), h6)))))))
def F_X5_grow (N : Nat) (h : Nat → HV) : Option (Nat → HV) := (lpN N (fun z => st_X5_grow_2 N z.1 z.2) (0, h))
theorem lp_X5_grow_2 {w : WP} (hW : gW w) {Ω : OM} {j : Nat} (hj : j ≤ 10)   {N : Nat} {X : CX} (C : gC w X cX5_grow "HedgeMessages$Hedge" none 1 4) {h' : Nat → HV}  : ∀ (n : Nat) (l1 : Int32) (h : Nat → HV), lpN n (fun z : Int32 × (Nat → HV) => st_X5_grow_2 N z.1 z.2) (l1, h) = some h' → gV w X (none, cA w (sH Ω j h')) (cA w (sH Ω j h)) 2 [(0, .ref (wAd w (0, j, 0, 0))), (1, .int l1)] [] := by
  intro n
  induction n with
  | zero => intro l1 h hL; exact lpN_0 hL
  | succ n ih =>
    intro l1 h hL
    obtain ⟨q9, hF, hL⟩ := lpN_e hL
    change st_X5_grow_2 N l1 h = some q9 at hF
    unfold st_X5_grow_2 at hF
    refine r_iload_n C (k := 1) rfl rfl dX5_grow_2 ?_
    refine r_aload_n C (k := 0) rfl rfl dX5_grow_3 ?_
    refine og_0_0 C (hW.ok (k0 hj)) (congrFun (sH_g (Ω := Ω) (j := j) (h := h)) 0) wm1_133 dX5_grow_4 ?_
    refine r_icmp_ge C (tgt := 67) rfl dX5_grow_7 (fun hc => ?_) (fun hc => ?_)
    · rw [if_pos hc] at hF
      cases hF
      change some _ = some _ at hL
      cases hL
      exact r_return C dX5_grow_67
    · rw [if_neg hc] at hF
      refine r_aload_n C (k := 0) rfl rfl dX5_grow_10 ?_
      refine og_0_10 C (hW.ok (k0 hj)) wm1_150 dX5_grow_11 ?_
      refine r_iload_n C (k := 1) rfl rfl dX5_grow_14 ?_
      refine r_callV C (d' := 0) [.int l1] (c_rget (hW.ok (i := (3, j, 0, 2)) (q0 hj (kR rfl))) (hW.ok (i := (4, j, 0, 2)) (q0 hj (kR rfl))) (show rlen 0 2 = 40 from rfl) (by decide) (congrArg (fun z => z.2 2) (congrFun (sH_g (Ω := Ω) (j := j) (h := h)) 0)) rfl) myX8_get wm3_163 ⟨_, _, _, _, (hW.ok (i := (3, j, 0, 2)) (q0 hj (kR rfl))), rfl, rfl, rfl, rfl⟩ rfl (kR rfl) (by decide) (kR rfl) rfl dX5_grow_15 ?_
      refine r_istore_n C (lo' := [(2, .int (rget 40 ((h 0).2 2) l1)), (0, .ref (wAd w (0, j, 0, 0))), (1, .int l1)]) rfl (by decide) rfl dX5_grow_18 ?_
      refine r_iload_n C (k := 0) rfl rfl dX5_grow_19 ?_
      refine r_if_le C (tgt := 37) rfl dX5_grow_20 (fun hc => ?_) (fun hc => ?_)
      · rw [if_pos hc] at hF
        refine r_aload_n C (k := 1) rfl rfl dX5_grow_37 ?_
        refine og_0_11 C (hW.ok (k0 hj)) wm1_152 dX5_grow_38 ?_
        refine r_iload_n C (k := 2) rfl rfl dX5_grow_41 ?_
        refine r_callV C (d' := 0) [.int l1] (c_rget (hW.ok (i := (3, j, 0, 3)) (q0 hj (kR rfl))) (hW.ok (i := (4, j, 0, 3)) (q0 hj (kR rfl))) (show rlen 0 3 = 40 from rfl) (by decide) (congrArg (fun z => z.2 3) (congrFun (sH_g (Ω := Ω) (j := j) (h := h)) 0)) rfl) myX8_get wm3_163 ⟨_, _, _, _, (hW.ok (i := (3, j, 0, 3)) (q0 hj (kR rfl))), rfl, rfl, rfl, rfl⟩ rfl (kR rfl) (by decide) (kR rfl) rfl dX5_grow_42 ?_
        refine r_istore_n C (lo' := [(3, .int (rget 40 ((h 0).2 3) l1)), (2, .int (rget 40 ((h 0).2 2) l1)), (0, .ref (wAd w (0, j, 0, 0))), (1, .int l1)]) rfl (by decide) rfl dX5_grow_45 ?_
        refine r_iload_n C (k := 0) rfl rfl dX5_grow_46 ?_
        refine r_if_le C (tgt := 61) rfl dX5_grow_47 (fun hc => ?_) (fun hc => ?_)
        · rw [if_pos hc] at hF
          refine r_iinc C (k := 3) (v := (l1 + 1)) (lo' := [(1, .int (l1 + 1)), (3, .int (rget 40 ((h 0).2 3) l1)), (2, .int (rget 40 ((h 0).2 2) l1)), (0, .ref (wAd w (0, j, 0, 0)))]) rfl rfl (by decide) rfl dX5_grow_61 ?_
          refine r_goto C (tgt := 2) rfl dX5_grow_64 ?_
          cases hF
          change lpN n _ _ = some _ at hL
          refine r_lo [3, 0] (lo' := [(0, .ref (wAd w (0, j, 0, 0))), (1, .int (l1 + 1))]) rfl ?_
          exact ih (l1 + 1) h hL
        · rw [if_neg hc] at hF
          refine r_aload_n C (k := 2) rfl rfl dX5_grow_50 ?_
          refine og_0_11 C (hW.ok (k0 hj)) wm1_152 dX5_grow_51 ?_
          refine r_iload_n C (k := 3) rfl rfl dX5_grow_54 ?_
          refine r_iload_n C (k := 0) rfl rfl dX5_grow_55 ?_
          refine r_iconst C (v := 1) rfl dX5_grow_56 ?_
          refine r_isub C dX5_grow_57 ?_
          obtain ⟨h2, eh2, hF⟩ := lt_e hF
          refine r_callV C (d' := 0) [.int l1, .int ((rget 40 ((h 0).2 3) l1) - 1)] (c_rset hW.x (Or.inl (show okC (4, j, 0, 3) from (q0 hj (kR rfl)))) (hW.ok (i := (3, j, 0, 3)) (q0 hj (kR rfl))) (hW.ok (i := (4, j, 0, 3)) (q0 hj (kR rfl))) (hW.fr (i := (4, j, 0, 3)) (q0 hj (kR rfl))) (show rlen 0 3 = 40 from rfl) (by decide) (congrFun (sH_g (Ω := Ω) (j := j) (h := h)) 0) rfl (sP_H.trans (congrArg (sH Ω j) eh2))) myX8_set wm2_76 ⟨_, _, _, _, (hW.ok (i := (3, j, 0, 3)) (q0 hj (kR rfl))), rfl, rfl, rfl, rfl⟩ rfl (kR rfl) (by decide) (kR rfl) rfl dX5_grow_58 ?_
          refine r_iinc C (k := 3) (v := (l1 + 1)) (lo' := [(1, .int (l1 + 1)), (3, .int (rget 40 ((h 0).2 3) l1)), (2, .int (rget 40 ((h 0).2 2) l1)), (0, .ref (wAd w (0, j, 0, 0)))]) rfl rfl (by decide) rfl dX5_grow_61 ?_
          refine r_goto C (tgt := 2) rfl dX5_grow_64 ?_
          cases hF
          change lpN n _ _ = some _ at hL
          refine r_lo [3, 0] (lo' := [(0, .ref (wAd w (0, j, 0, 0))), (1, .int (l1 + 1))]) rfl ?_
          exact ih (l1 + 1) h2 hL
      · rw [if_neg hc] at hF
        refine r_aload_n C (k := 1) rfl rfl dX5_grow_23 ?_
        refine og_0_10 C (hW.ok (k0 hj)) wm1_150 dX5_grow_24 ?_
        refine r_iload_n C (k := 2) rfl rfl dX5_grow_27 ?_
        refine r_iload_n C (k := 0) rfl rfl dX5_grow_28 ?_
        refine r_aload_n C (k := 1) rfl rfl dX5_grow_29 ?_
        refine og_0_2 C (hW.ok (k0 hj)) (congrFun (sH_g (Ω := Ω) (j := j) (h := h)) 0) wm1_138 dX5_grow_30 ?_
        refine r_iadd C dX5_grow_33 ?_
        obtain ⟨h4, eh4, hF⟩ := lt_e hF
        refine r_callV C (d' := 0) [.int l1, .int ((rget 40 ((h 0).2 2) l1) + ((h 0).1 2))] (c_rset hW.x (Or.inl (show okC (4, j, 0, 2) from (q0 hj (kR rfl)))) (hW.ok (i := (3, j, 0, 2)) (q0 hj (kR rfl))) (hW.ok (i := (4, j, 0, 2)) (q0 hj (kR rfl))) (hW.fr (i := (4, j, 0, 2)) (q0 hj (kR rfl))) (show rlen 0 2 = 40 from rfl) (by decide) (congrFun (sH_g (Ω := Ω) (j := j) (h := h)) 0) rfl (sP_H.trans (congrArg (sH Ω j) eh4))) myX8_set wm2_76 ⟨_, _, _, _, (hW.ok (i := (3, j, 0, 2)) (q0 hj (kR rfl))), rfl, rfl, rfl, rfl⟩ rfl (kR rfl) (by decide) (kR rfl) rfl dX5_grow_34 ?_
        refine r_aload_n C (k := 1) rfl rfl dX5_grow_37 ?_
        refine og_0_11 C (hW.ok (k0 hj)) wm1_152 dX5_grow_38 ?_
        refine r_iload_n C (k := 2) rfl rfl dX5_grow_41 ?_
        refine r_callV C (d' := 0) [.int l1] (c_rget (hW.ok (i := (3, j, 0, 3)) (q0 hj (kR rfl))) (hW.ok (i := (4, j, 0, 3)) (q0 hj (kR rfl))) (show rlen 0 3 = 40 from rfl) (by decide) (congrArg (fun z => z.2 3) (congrFun (sH_g (Ω := Ω) (j := j) (h := h4)) 0)) rfl) myX8_get wm3_163 ⟨_, _, _, _, (hW.ok (i := (3, j, 0, 3)) (q0 hj (kR rfl))), rfl, rfl, rfl, rfl⟩ rfl (kR rfl) (by decide) (kR rfl) rfl dX5_grow_42 ?_
        refine r_istore_n C (lo' := [(3, .int (rget 40 ((h4 0).2 3) l1)), (2, .int (rget 40 ((h 0).2 2) l1)), (0, .ref (wAd w (0, j, 0, 0))), (1, .int l1)]) rfl (by decide) rfl dX5_grow_45 ?_
        refine r_iload_n C (k := 0) rfl rfl dX5_grow_46 ?_
        refine r_if_le C (tgt := 61) rfl dX5_grow_47 (fun hc => ?_) (fun hc => ?_)
        · rw [if_pos hc] at hF
          refine r_iinc C (k := 3) (v := (l1 + 1)) (lo' := [(1, .int (l1 + 1)), (3, .int (rget 40 ((h4 0).2 3) l1)), (2, .int (rget 40 ((h 0).2 2) l1)), (0, .ref (wAd w (0, j, 0, 0)))]) rfl rfl (by decide) rfl dX5_grow_61 ?_
          refine r_goto C (tgt := 2) rfl dX5_grow_64 ?_
          cases hF
          change lpN n _ _ = some _ at hL
          refine r_lo [3, 0] (lo' := [(0, .ref (wAd w (0, j, 0, 0))), (1, .int (l1 + 1))]) rfl ?_
          exact ih (l1 + 1) h4 hL
        · rw [if_neg hc] at hF
          refine r_aload_n C (k := 2) rfl rfl dX5_grow_50 ?_
          refine og_0_11 C (hW.ok (k0 hj)) wm1_152 dX5_grow_51 ?_
          refine r_iload_n C (k := 3) rfl rfl dX5_grow_54 ?_
          refine r_iload_n C (k := 0) rfl rfl dX5_grow_55 ?_
          refine r_iconst C (v := 1) rfl dX5_grow_56 ?_
          refine r_isub C dX5_grow_57 ?_
          obtain ⟨h6, eh6, hF⟩ := lt_e hF
          refine r_callV C (d' := 0) [.int l1, .int ((rget 40 ((h4 0).2 3) l1) - 1)] (c_rset hW.x (Or.inl (show okC (4, j, 0, 3) from (q0 hj (kR rfl)))) (hW.ok (i := (3, j, 0, 3)) (q0 hj (kR rfl))) (hW.ok (i := (4, j, 0, 3)) (q0 hj (kR rfl))) (hW.fr (i := (4, j, 0, 3)) (q0 hj (kR rfl))) (show rlen 0 3 = 40 from rfl) (by decide) (congrFun (sH_g (Ω := Ω) (j := j) (h := h4)) 0) rfl (sP_H.trans (congrArg (sH Ω j) eh6))) myX8_set wm2_76 ⟨_, _, _, _, (hW.ok (i := (3, j, 0, 3)) (q0 hj (kR rfl))), rfl, rfl, rfl, rfl⟩ rfl (kR rfl) (by decide) (kR rfl) rfl dX5_grow_58 ?_
          refine r_iinc C (k := 3) (v := (l1 + 1)) (lo' := [(1, .int (l1 + 1)), (3, .int (rget 40 ((h4 0).2 3) l1)), (2, .int (rget 40 ((h 0).2 2) l1)), (0, .ref (wAd w (0, j, 0, 0)))]) rfl rfl (by decide) rfl dX5_grow_61 ?_
          refine r_goto C (tgt := 2) rfl dX5_grow_64 ?_
          cases hF
          change lpN n _ _ = some _ at hL
          refine r_lo [3, 0] (lo' := [(0, .ref (wAd w (0, j, 0, 0))), (1, .int (l1 + 1))]) rfl ?_
          exact ih (l1 + 1) h6 hL
theorem c_X5_grow {w : WP} (hW : gW w) {Ω : OM} {j : Nat} (hj : j ≤ 10) {h : Nat → HV} (e : Ω.1 j = h) (N : Nat)  {h' : Nat → HV} (hF : F_X5_grow N h = some h') {Ω' : OM} (e2 : (sH Ω j h') = Ω') : gM w 1 yX5_grow cX5_grow 4 none [.ref (wAd w (0, j, 0, 0))] (cA w Ω) none (cA w Ω') := by
  refine gM_of "HedgeMessages$Hedge" rfl (by decide) (kR rfl) fun X C => ?_
  unfold F_X5_grow at hF
  subst e2
  show gV w X _ _ 0 [(0, .ref (wAd w (0, j, 0, 0)))] []
  refine r_ct (ct' := cA w (sH Ω j h)) (congrArg (cA w) (sH_i e).symm) ?_
  refine r_iconst C (v := 0) rfl dX5_grow_0 ?_
  refine r_istore_n C (lo' := [(1, .int 0), (0, .ref (wAd w (0, j, 0, 0)))]) rfl (by decide) rfl dX5_grow_1 ?_
  refine r_lo [1, 0] (lo' := [(0, .ref (wAd w (0, j, 0, 0))), (1, .int 0)]) rfl ?_
  exact lp_X5_grow_2 hW hj C N 0 h hF
theorem dX5_prune_0 : decode cX5_prune 0 = .ok (.iconst 0, 1) := by decide +kernel
theorem dX5_prune_1 : decode cX5_prune 1 = .ok (.istore_n 1, 1) := by decide +kernel
theorem dX5_prune_2 : decode cX5_prune 2 = .ok (.iload_n 1, 1) := by decide +kernel
theorem dX5_prune_3 : decode cX5_prune 3 = .ok (.aload_n 0, 1) := by decide +kernel
theorem dX5_prune_4 : decode cX5_prune 4 = .ok (.getfield 49, 3) := by decide +kernel
theorem dX5_prune_7 : decode cX5_prune 7 = .ok (.if_icmp .ge 36, 3) := by decide +kernel
theorem dX5_prune_10 : decode cX5_prune 10 = .ok (.aload_n 0, 1) := by decide +kernel
theorem dX5_prune_11 : decode cX5_prune 11 = .ok (.iload_n 1, 1) := by decide +kernel
theorem dX5_prune_12 : decode cX5_prune 12 = .ok (.invokevirtual 173, 3) := by decide +kernel
theorem dX5_prune_15 : decode cX5_prune 15 = .ok (.ifCond .ne 22, 3) := by decide +kernel
theorem dX5_prune_18 : decode cX5_prune 18 = .ok (.aload_n 0, 1) := by decide +kernel
theorem dX5_prune_19 : decode cX5_prune 19 = .ok (.getfield 23, 3) := by decide +kernel
theorem dX5_prune_22 : decode cX5_prune 22 = .ok (.iload_n 1, 1) := by decide +kernel
theorem dX5_prune_23 : decode cX5_prune 23 = .ok (.iconst 0, 1) := by decide +kernel
theorem dX5_prune_24 : decode cX5_prune 24 = .ok (.invokevirtual 100, 3) := by decide +kernel
theorem dX5_prune_27 : decode cX5_prune 27 = .ok (.aload_n 0, 1) := by decide +kernel
theorem dX5_prune_28 : decode cX5_prune 28 = .ok (.dup, 1) := by decide +kernel
theorem dX5_prune_29 : decode cX5_prune 29 = .ok (.getfield 87, 3) := by decide +kernel
theorem dX5_prune_32 : decode cX5_prune 32 = .ok (.iconst 1, 1) := by decide +kernel
theorem dX5_prune_33 : decode cX5_prune 33 = .ok (.iadd, 1) := by decide +kernel
theorem dX5_prune_34 : decode cX5_prune 34 = .ok (.putfield 87, 3) := by decide +kernel
theorem dX5_prune_37 : decode cX5_prune 37 = .ok (.iinc 1 1, 3) := by decide +kernel
theorem dX5_prune_40 : decode cX5_prune 40 = .ok (.goto (-38), 3) := by decide +kernel
theorem dX5_prune_43 : decode cX5_prune 43 = .ok (.return_, 1) := by decide +kernel
def st_X5_prune_2 (N : Nat) (l1 : Int32) (h : Nat → HV) : Option ((Int32 × (Nat → HV)) ⊕ (Nat → HV)) := (if ((h 0).1 0) ≤ l1 then some (.inr h) else (if (F_X5_reasonNotToPrune l1 h) = 0 then (lt (up h 0 (sA (h 0) 2 (rset 40 ((h 0).2 2) l1 0))) fun h2 => (lt (up h2 0 (sS (h2 0) 17 (((h2 0).1 17) + 1))) fun h3 => some (.inl ((l1 + 1), h3)))) else some (.inl ((l1 + 1), h))))
def F_X5_prune (N : Nat) (h : Nat → HV) : Option (Nat → HV) := (lpN N (fun z => st_X5_prune_2 N z.1 z.2) (0, h))
theorem lp_X5_prune_2 {w : WP} (hW : gW w) {Ω : OM} {j : Nat} (hj : j ≤ 10)   {N : Nat} {X : CX} (C : gC w X cX5_prune "HedgeMessages$Hedge" none 3 2) {h' : Nat → HV}  : ∀ (n : Nat) (l1 : Int32) (h : Nat → HV), lpN n (fun z : Int32 × (Nat → HV) => st_X5_prune_2 N z.1 z.2) (l1, h) = some h' → gV w X (none, cA w (sH Ω j h')) (cA w (sH Ω j h)) 2 [(0, .ref (wAd w (0, j, 0, 0))), (1, .int l1)] [] := by
  intro n
  induction n with
  | zero => intro l1 h hL; exact lpN_0 hL
  | succ n ih =>
    intro l1 h hL
    obtain ⟨q9, hF, hL⟩ := lpN_e hL
    change st_X5_prune_2 N l1 h = some q9 at hF
    unfold st_X5_prune_2 at hF
    refine r_iload_n C (k := 1) rfl rfl dX5_prune_2 ?_
    refine r_aload_n C (k := 0) rfl rfl dX5_prune_3 ?_
    refine og_0_0 C (hW.ok (k0 hj)) (congrFun (sH_g (Ω := Ω) (j := j) (h := h)) 0) wm1_133 dX5_prune_4 ?_
    refine r_icmp_ge C (tgt := 43) rfl dX5_prune_7 (fun hc => ?_) (fun hc => ?_)
    · rw [if_pos hc] at hF
      cases hF
      change some _ = some _ at hL
      cases hL
      exact r_return C dX5_prune_43
    · rw [if_neg hc] at hF
      refine r_aload_n C (k := 0) rfl rfl dX5_prune_10 ?_
      refine r_iload_n C (k := 1) rfl rfl dX5_prune_11 ?_
      refine r_callV C (d' := 2) [.int l1] (c_X5_reasonNotToPrune hW hj (sH_g (Ω := Ω) (j := j) (h := h)) l1 rfl) myX5_reasonNotToPrune wm4_192 ⟨_, _, _, _, (hW.ok (k0 hj)), rfl, rfl, rfl, rfl⟩ rfl (kR rfl) (by decide) (kR rfl) rfl dX5_prune_12 ?_
      refine r_if_ne C (tgt := 37) rfl dX5_prune_15 (fun hc => ?_) (fun hc => ?_)
      · rw [if_neg hc] at hF
        refine r_iinc C (k := 1) (v := (l1 + 1)) (lo' := [(1, .int (l1 + 1)), (0, .ref (wAd w (0, j, 0, 0)))]) rfl rfl (by decide) rfl dX5_prune_37 ?_
        refine r_goto C (tgt := 2) rfl dX5_prune_40 ?_
        cases hF
        change lpN n _ _ = some _ at hL
        refine r_lo [1, 0] (lo' := [(0, .ref (wAd w (0, j, 0, 0))), (1, .int (l1 + 1))]) rfl ?_
        exact ih (l1 + 1) h hL
      · rw [if_pos hc] at hF
        refine r_aload_n C (k := 0) rfl rfl dX5_prune_18 ?_
        refine og_0_10 C (hW.ok (k0 hj)) wm1_150 dX5_prune_19 ?_
        refine r_iload_n C (k := 1) rfl rfl dX5_prune_22 ?_
        refine r_iconst C (v := 0) rfl dX5_prune_23 ?_
        obtain ⟨h2, eh2, hF⟩ := lt_e hF
        refine r_callV C (d' := 0) [.int l1, .int 0] (c_rset hW.x (Or.inl (show okC (4, j, 0, 2) from (q0 hj (kR rfl)))) (hW.ok (i := (3, j, 0, 2)) (q0 hj (kR rfl))) (hW.ok (i := (4, j, 0, 2)) (q0 hj (kR rfl))) (hW.fr (i := (4, j, 0, 2)) (q0 hj (kR rfl))) (show rlen 0 2 = 40 from rfl) (by decide) (congrFun (sH_g (Ω := Ω) (j := j) (h := h)) 0) rfl (sP_H.trans (congrArg (sH Ω j) eh2))) myX8_set wm2_76 ⟨_, _, _, _, (hW.ok (i := (3, j, 0, 2)) (q0 hj (kR rfl))), rfl, rfl, rfl, rfl⟩ rfl (kR rfl) (by decide) (kR rfl) rfl dX5_prune_24 ?_
        refine r_aload_n C (k := 0) rfl rfl dX5_prune_27 ?_
        refine r_dup C rfl dX5_prune_28 ?_
        refine og_0_17 C (hW.ok (k0 hj)) (congrFun (sH_g (Ω := Ω) (j := j) (h := h2)) 0) wm1_164 dX5_prune_29 ?_
        refine r_iconst C (v := 1) rfl dX5_prune_32 ?_
        refine r_iadd C dX5_prune_33 ?_
        obtain ⟨h3, eh3, hF⟩ := lt_e hF
        refine op_0_17 C hW.x (Or.inl (k0 hj)) (hW.fr (k0 hj)) (congrFun (sH_g (Ω := Ω) (j := j) (h := h2)) 0) wm1_164 dX5_prune_34 (sP_H.trans (congrArg (sH Ω j) eh3)) ?_
        refine r_iinc C (k := 1) (v := (l1 + 1)) (lo' := [(1, .int (l1 + 1)), (0, .ref (wAd w (0, j, 0, 0)))]) rfl rfl (by decide) rfl dX5_prune_37 ?_
        refine r_goto C (tgt := 2) rfl dX5_prune_40 ?_
        cases hF
        change lpN n _ _ = some _ at hL
        refine r_lo [1, 0] (lo' := [(0, .ref (wAd w (0, j, 0, 0))), (1, .int (l1 + 1))]) rfl ?_
        exact ih (l1 + 1) h3 hL
theorem c_X5_prune {w : WP} (hW : gW w) {Ω : OM} {j : Nat} (hj : j ≤ 10) {h : Nat → HV} (e : Ω.1 j = h) (N : Nat)  {h' : Nat → HV} (hF : F_X5_prune N h = some h') {Ω' : OM} (e2 : (sH Ω j h') = Ω') : gM w 3 yX5_prune cX5_prune 2 none [.ref (wAd w (0, j, 0, 0))] (cA w Ω) none (cA w Ω') := by
  refine gM_of "HedgeMessages$Hedge" rfl (by decide) (kR rfl) fun X C => ?_
  unfold F_X5_prune at hF
  subst e2
  show gV w X _ _ 0 [(0, .ref (wAd w (0, j, 0, 0)))] []
  refine r_ct (ct' := cA w (sH Ω j h)) (congrArg (cA w) (sH_i e).symm) ?_
  refine r_iconst C (v := 0) rfl dX5_prune_0 ?_
  refine r_istore_n C (lo' := [(1, .int 0), (0, .ref (wAd w (0, j, 0, 0)))]) rfl (by decide) rfl dX5_prune_1 ?_
  refine r_lo [1, 0] (lo' := [(0, .ref (wAd w (0, j, 0, 0))), (1, .int 0)]) rfl ?_
  exact lp_X5_prune_2 hW hj C N 0 h hF
theorem dX5_startNext_0 : decode cX5_startNext 0 = .ok (.aload_n 1, 1) := by decide +kernel
theorem dX5_startNext_1 : decode cX5_startNext 1 = .ok (.iconst 0, 1) := by decide +kernel
theorem dX5_startNext_2 : decode cX5_startNext 2 = .ok (.invokevirtual 185, 3) := by decide +kernel
theorem dX5_startNext_5 : decode cX5_startNext 5 = .ok (.istore_n 2, 1) := by decide +kernel
theorem dX5_startNext_6 : decode cX5_startNext 6 = .ok (.aload_n 0, 1) := by decide +kernel
theorem dX5_startNext_7 : decode cX5_startNext 7 = .ok (.iload_n 2, 1) := by decide +kernel
theorem dX5_startNext_8 : decode cX5_startNext 8 = .ok (.invokevirtual 188, 3) := by decide +kernel
theorem dX5_startNext_11 : decode cX5_startNext 11 = .ok (.istore_n 3, 1) := by decide +kernel
theorem dX5_startNext_12 : decode cX5_startNext 12 = .ok (.iload_n 3, 1) := by decide +kernel
theorem dX5_startNext_13 : decode cX5_startNext 13 = .ok (.iconst (-1), 1) := by decide +kernel
theorem dX5_startNext_14 : decode cX5_startNext 14 = .ok (.if_icmp .ne 5, 3) := by decide +kernel
theorem dX5_startNext_17 : decode cX5_startNext 17 = .ok (.iconst 0, 1) := by decide +kernel
theorem dX5_startNext_18 : decode cX5_startNext 18 = .ok (.ireturn, 1) := by decide +kernel
theorem dX5_startNext_19 : decode cX5_startNext 19 = .ok (.aload_n 0, 1) := by decide +kernel
theorem dX5_startNext_20 : decode cX5_startNext 20 = .ok (.getfield 29, 3) := by decide +kernel
theorem dX5_startNext_23 : decode cX5_startNext 23 = .ok (.aload_n 1, 1) := by decide +kernel
theorem dX5_startNext_24 : decode cX5_startNext 24 = .ok (.getfield 250, 3) := by decide +kernel
theorem dX5_startNext_27 : decode cX5_startNext 27 = .ok (.iconst 0, 1) := by decide +kernel
theorem dX5_startNext_28 : decode cX5_startNext 28 = .ok (.iload_n 3, 1) := by decide +kernel
theorem dX5_startNext_29 : decode cX5_startNext 29 = .ok (.iload_n 2, 1) := by decide +kernel
theorem dX5_startNext_30 : decode cX5_startNext 30 = .ok (.invokevirtual 251, 3) := by decide +kernel
theorem dX5_startNext_33 : decode cX5_startNext 33 = .ok (.aload_n 1, 1) := by decide +kernel
theorem dX5_startNext_34 : decode cX5_startNext 34 = .ok (.iload_n 3, 1) := by decide +kernel
theorem dX5_startNext_35 : decode cX5_startNext 35 = .ok (.putfield 150, 3) := by decide +kernel
theorem dX5_startNext_38 : decode cX5_startNext 38 = .ok (.aload_n 1, 1) := by decide +kernel
theorem dX5_startNext_39 : decode cX5_startNext 39 = .ok (.iload_n 2, 1) := by decide +kernel
theorem dX5_startNext_40 : decode cX5_startNext 40 = .ok (.putfield 241, 3) := by decide +kernel
theorem dX5_startNext_43 : decode cX5_startNext 43 = .ok (.aload_n 1, 1) := by decide +kernel
theorem dX5_startNext_44 : decode cX5_startNext 44 = .ok (.iconst 0, 1) := by decide +kernel
theorem dX5_startNext_45 : decode cX5_startNext 45 = .ok (.invokevirtual 255, 3) := by decide +kernel
theorem dX5_startNext_48 : decode cX5_startNext 48 = .ok (.iconst 1, 1) := by decide +kernel
theorem dX5_startNext_49 : decode cX5_startNext 49 = .ok (.ireturn, 1) := by decide +kernel
def F_X5_startNext (N : Nat) (q : Nat) (h : Nat → HV) : Option (Bool × (Nat → HV)) := (ob1 (F_X5_findStart N (F_X4_lengthOf 0 (h q)) h) fun v1 => (if v1 = (-1) then some (false, h) else (lt (up h 0 (sA (h 0) 4 (rcpy 96 ((h q).2 0) 40 ((h 0).2 4) 0 v1 (F_X4_lengthOf 0 (h q))))) fun h3 => (lt (up h3 q (sS (h3 q) 3 v1)) fun h4 => (lt (up h4 q (sS (h4 q) 4 (F_X4_lengthOf 0 (h q)))) fun h5 => (lt (F_X4_dequeue 0 (h5 q)) fun g7 => (lt (up h5 q g7) fun h8 => some (true, h8))))))))
theorem c_X5_startNext {w : WP} (hW : gW w) {Ω : OM} {j : Nat} (hj : j ≤ 10) {h : Nat → HV} (e : Ω.1 j = h) (N : Nat) (q : Nat) (hq : q = 1 ∨ q = 2) {v : Bool} {h' : Nat → HV} (hF : F_X5_startNext N q h = some (v, h')) {Ω' : OM} (e2 : (sH Ω j h') = Ω') : gM w 3 yX5_startNext cX5_startNext 4 (some .boolean) [.ref (wAd w (0, j, 0, 0)), .ref (wAd w (1, j, q, 0))] (cA w Ω) (some (.int (b2i v))) (cA w Ω') := by
  refine gM_of "HedgeMessages$Hedge" rfl (by decide) (kR rfl) fun X C => ?_
  unfold F_X5_startNext at hF
  subst e2
  show gV w X _ _ 0 [(0, .ref (wAd w (0, j, 0, 0))), (1, .ref (wAd w (1, j, q, 0)))] []
  refine r_ct (ct' := cA w (sH Ω j h)) (congrArg (cA w) (sH_i e).symm) ?_
  refine r_aload_n C (k := 1) rfl rfl dX5_startNext_0 ?_
  refine r_iconst C (v := 0) rfl dX5_startNext_1 ?_
  refine r_callV C (d' := 1) [.int 0] (c_X4_lengthOf hW hj hq (congrFun (sH_g (Ω := Ω) (j := j) (h := h)) q) 0 rfl) myX4_lengthOf wm4_175 ⟨_, _, _, _, (hW.ok (k1 hj hq)), rfl, rfl, rfl, rfl⟩ rfl (kR rfl) (by decide) (kR rfl) rfl dX5_startNext_2 ?_
  refine r_istore_n C (lo' := [(2, .int (F_X4_lengthOf 0 (h q))), (0, .ref (wAd w (0, j, 0, 0))), (1, .ref (wAd w (1, j, q, 0)))]) rfl (by decide) rfl dX5_startNext_5 ?_
  refine r_aload_n C (k := 1) rfl rfl dX5_startNext_6 ?_
  refine r_iload_n C (k := 0) rfl rfl dX5_startNext_7 ?_
  obtain ⟨v1, hv1, hF⟩ := ob1_e hF
  refine r_callV C (d' := 1) [.int (F_X4_lengthOf 0 (h q))] (c_X5_findStart hW hj (sH_g (Ω := Ω) (j := j) (h := h)) N (F_X4_lengthOf 0 (h q)) hv1) myX5_findStart wm4_176 ⟨_, _, _, _, (hW.ok (k0 hj)), rfl, rfl, rfl, rfl⟩ rfl (kR rfl) (by decide) (kR rfl) rfl dX5_startNext_8 ?_
  refine r_istore_n C (lo' := [(3, .int v1), (2, .int (F_X4_lengthOf 0 (h q))), (0, .ref (wAd w (0, j, 0, 0))), (1, .ref (wAd w (1, j, q, 0)))]) rfl (by decide) rfl dX5_startNext_11 ?_
  refine r_iload_n C (k := 0) rfl rfl dX5_startNext_12 ?_
  refine r_iconst C (v := (-1)) (by decide) dX5_startNext_13 ?_
  refine r_icmp_ne C (tgt := 19) rfl dX5_startNext_14 (fun hc => ?_) (fun hc => ?_)
  · rw [if_neg hc] at hF
    refine r_aload_n C (k := 2) rfl rfl dX5_startNext_19 ?_
    refine og_0_12 C (hW.ok (k0 hj)) wm1_155 dX5_startNext_20 ?_
    refine r_aload_n C (k := 3) rfl rfl dX5_startNext_23 ?_
    refine ogN_1_0 C (hW.ok (k1 hj hq)) wm1_61 dX5_startNext_24 ?_
    refine r_iconst C (v := 0) rfl dX5_startNext_27 ?_
    refine r_iload_n C (k := 0) rfl rfl dX5_startNext_28 ?_
    refine r_iload_n C (k := 1) rfl rfl dX5_startNext_29 ?_
    obtain ⟨h3, eh3, hF⟩ := lt_e hF
    refine r_callV C (d' := 1) [.ref (wAd w (3, j, q, 0)), .int 0, .int v1, .int (F_X4_lengthOf 0 (h q))] (c_rcpy hW.x (Or.inl (show okC (4, j, 0, 4) from (q0 hj (kR rfl)))) (hW.ok (i := (3, j, 0, 4)) (q0 hj (kR rfl))) (hW.ok (i := (4, j, 0, 4)) (q0 hj (kR rfl))) (hW.fr (i := (4, j, 0, 4)) (q0 hj (kR rfl))) (hW.ok (i := (3, j, q, 0)) (q1 hj hq (kR rfl))) (hW.ok (i := (4, j, q, 0)) (q1 hj hq (kR rfl))) (show rlen 0 4 = 40 from rfl) (by decide) (rl0 hq) (by decide) (congrFun (sH_g (Ω := Ω) (j := j) (h := h)) 0) (congrArg (fun z => z.2 0) (congrFun (sH_g (Ω := Ω) (j := j) (h := h)) q)) rfl (sP_H.trans (congrArg (sH Ω j) eh3))) myX8_copyPart wm4_180 ⟨_, _, _, _, (hW.ok (i := (3, j, 0, 4)) (q0 hj (kR rfl))), rfl, rfl, rfl, rfl⟩ rfl (kR rfl) (by decide) (kR rfl) rfl dX5_startNext_30 ?_
    refine r_aload_n C (k := 3) rfl rfl dX5_startNext_33 ?_
    refine r_iload_n C (k := 0) rfl rfl dX5_startNext_34 ?_
    obtain ⟨h4, eh4, hF⟩ := lt_e hF
    refine opN_1_3 C hW.x (Or.inl (k1 hj hq)) (hW.fr (k1 hj hq)) (congrFun (sH_g (Ω := Ω) (j := j) (h := h3)) q) wm1_67 dX5_startNext_35 (sP_H.trans (congrArg (sH Ω j) eh4)) ?_
    refine r_aload_n C (k := 3) rfl rfl dX5_startNext_38 ?_
    refine r_iload_n C (k := 1) rfl rfl dX5_startNext_39 ?_
    obtain ⟨h5, eh5, hF⟩ := lt_e hF
    refine opN_1_4 C hW.x (Or.inl (k1 hj hq)) (hW.fr (k1 hj hq)) (congrFun (sH_g (Ω := Ω) (j := j) (h := h4)) q) wm1_70 dX5_startNext_40 (sP_H.trans (congrArg (sH Ω j) eh5)) ?_
    refine r_aload_n C (k := 3) rfl rfl dX5_startNext_43 ?_
    refine r_iconst C (v := 0) rfl dX5_startNext_44 ?_
    obtain ⟨g7, hg7, hF⟩ := lt_e hF
    obtain ⟨h8, eh8, hF⟩ := lt_e hF
    refine r_callV C (d' := 2) [.int 0] (c_X4_dequeue hW hj hq (congrFun (sH_g (Ω := Ω) (j := j) (h := h5)) q) 0 hg7 (sP_H.trans (congrArg (sH Ω j) eh8))) myX4_dequeue wm4_181 ⟨_, _, _, _, (hW.ok (k1 hj hq)), rfl, rfl, rfl, rfl⟩ rfl (kR rfl) (by decide) (kR rfl) rfl dX5_startNext_45 ?_
    refine r_iconst C (v := 1) rfl dX5_startNext_48 ?_
    cases hF
    exact r_zreturn C true rfl dX5_startNext_49
  · rw [if_pos hc] at hF
    refine r_iconst C (v := 0) rfl dX5_startNext_17 ?_
    cases hF
    exact r_zreturn C false rfl dX5_startNext_18
theorem dX5_writeLetters_0 : decode cX5_writeLetters 0 = .ok (.aload_n 0, 1) := by decide +kernel
theorem dX5_writeLetters_1 : decode cX5_writeLetters 1 = .ok (.iload_n 1, 1) := by decide +kernel
theorem dX5_writeLetters_2 : decode cX5_writeLetters 2 = .ok (.invokevirtual 104, 3) := by decide +kernel
theorem dX5_writeLetters_5 : decode cX5_writeLetters 5 = .ok (.astore_n 2, 1) := by decide +kernel
theorem dX5_writeLetters_6 : decode cX5_writeLetters 6 = .ok (.aload_n 0, 1) := by decide +kernel
theorem dX5_writeLetters_7 : decode cX5_writeLetters 7 = .ok (.getfield 71, 3) := by decide +kernel
theorem dX5_writeLetters_10 : decode cX5_writeLetters 10 = .ok (.ifCond .le 97, 3) := by decide +kernel
theorem dX5_writeLetters_13 : decode cX5_writeLetters 13 = .ok (.aload_n 2, 1) := by decide +kernel
theorem dX5_writeLetters_14 : decode cX5_writeLetters 14 = .ok (.invokevirtual 143, 3) := by decide +kernel
theorem dX5_writeLetters_17 : decode cX5_writeLetters 17 = .ok (.ifCond .ne 11, 3) := by decide +kernel
theorem dX5_writeLetters_20 : decode cX5_writeLetters 20 = .ok (.aload_n 0, 1) := by decide +kernel
theorem dX5_writeLetters_21 : decode cX5_writeLetters 21 = .ok (.aload_n 2, 1) := by decide +kernel
theorem dX5_writeLetters_22 : decode cX5_writeLetters 22 = .ok (.invokevirtual 237, 3) := by decide +kernel
theorem dX5_writeLetters_25 : decode cX5_writeLetters 25 = .ok (.ifCond .eq 82, 3) := by decide +kernel
theorem dX5_writeLetters_28 : decode cX5_writeLetters 28 = .ok (.aload_n 2, 1) := by decide +kernel
theorem dX5_writeLetters_29 : decode cX5_writeLetters 29 = .ok (.getfield 150, 3) := by decide +kernel
theorem dX5_writeLetters_32 : decode cX5_writeLetters 32 = .ok (.aload_n 2, 1) := by decide +kernel
theorem dX5_writeLetters_33 : decode cX5_writeLetters 33 = .ok (.getfield 153, 3) := by decide +kernel
theorem dX5_writeLetters_36 : decode cX5_writeLetters 36 = .ok (.iadd, 1) := by decide +kernel
theorem dX5_writeLetters_37 : decode cX5_writeLetters 37 = .ok (.istore_n 3, 1) := by decide +kernel
theorem dX5_writeLetters_38 : decode cX5_writeLetters 38 = .ok (.aload_n 0, 1) := by decide +kernel
theorem dX5_writeLetters_39 : decode cX5_writeLetters 39 = .ok (.iload_n 3, 1) := by decide +kernel
theorem dX5_writeLetters_40 : decode cX5_writeLetters 40 = .ok (.aload_n 0, 1) := by decide +kernel
theorem dX5_writeLetters_41 : decode cX5_writeLetters 41 = .ok (.getfield 29, 3) := by decide +kernel
theorem dX5_writeLetters_44 : decode cX5_writeLetters 44 = .ok (.iload_n 3, 1) := by decide +kernel
theorem dX5_writeLetters_45 : decode cX5_writeLetters 45 = .ok (.invokevirtual 129, 3) := by decide +kernel
theorem dX5_writeLetters_48 : decode cX5_writeLetters 48 = .ok (.iload_n 1, 1) := by decide +kernel
theorem dX5_writeLetters_49 : decode cX5_writeLetters 49 = .ok (.iconst 1, 1) := by decide +kernel
theorem dX5_writeLetters_50 : decode cX5_writeLetters 50 = .ok (.invokevirtual 203, 3) := by decide +kernel
theorem dX5_writeLetters_53 : decode cX5_writeLetters 53 = .ok (.aload_n 2, 1) := by decide +kernel
theorem dX5_writeLetters_54 : decode cX5_writeLetters 54 = .ok (.dup, 1) := by decide +kernel
theorem dX5_writeLetters_55 : decode cX5_writeLetters 55 = .ok (.getfield 153, 3) := by decide +kernel
theorem dX5_writeLetters_58 : decode cX5_writeLetters 58 = .ok (.iconst 1, 1) := by decide +kernel
theorem dX5_writeLetters_59 : decode cX5_writeLetters 59 = .ok (.iadd, 1) := by decide +kernel
theorem dX5_writeLetters_60 : decode cX5_writeLetters 60 = .ok (.putfield 153, 3) := by decide +kernel
theorem dX5_writeLetters_63 : decode cX5_writeLetters 63 = .ok (.aload_n 2, 1) := by decide +kernel
theorem dX5_writeLetters_64 : decode cX5_writeLetters 64 = .ok (.getfield 153, 3) := by decide +kernel
theorem dX5_writeLetters_67 : decode cX5_writeLetters 67 = .ok (.aload_n 2, 1) := by decide +kernel
theorem dX5_writeLetters_68 : decode cX5_writeLetters 68 = .ok (.getfield 241, 3) := by decide +kernel
theorem dX5_writeLetters_71 : decode cX5_writeLetters 71 = .ok (.if_icmp .lt 23, 3) := by decide +kernel
theorem dX5_writeLetters_74 : decode cX5_writeLetters 74 = .ok (.aload_n 0, 1) := by decide +kernel
theorem dX5_writeLetters_75 : decode cX5_writeLetters 75 = .ok (.getfield 45, 3) := by decide +kernel
theorem dX5_writeLetters_78 : decode cX5_writeLetters 78 = .ok (.iload_n 1, 1) := by decide +kernel
theorem dX5_writeLetters_79 : decode cX5_writeLetters 79 = .ok (.aload_n 2, 1) := by decide +kernel
theorem dX5_writeLetters_80 : decode cX5_writeLetters 80 = .ok (.getfield 150, 3) := by decide +kernel
theorem dX5_writeLetters_83 : decode cX5_writeLetters 83 = .ok (.aload_n 2, 1) := by decide +kernel
theorem dX5_writeLetters_84 : decode cX5_writeLetters 84 = .ok (.getfield 241, 3) := by decide +kernel
theorem dX5_writeLetters_87 : decode cX5_writeLetters 87 = .ok (.invokevirtual 243, 3) := by decide +kernel
theorem dX5_writeLetters_90 : decode cX5_writeLetters 90 = .ok (.aload_n 2, 1) := by decide +kernel
theorem dX5_writeLetters_91 : decode cX5_writeLetters 91 = .ok (.invokevirtual 247, 3) := by decide +kernel
theorem dX5_writeLetters_94 : decode cX5_writeLetters 94 = .ok (.aload_n 0, 1) := by decide +kernel
theorem dX5_writeLetters_95 : decode cX5_writeLetters 95 = .ok (.dup, 1) := by decide +kernel
theorem dX5_writeLetters_96 : decode cX5_writeLetters 96 = .ok (.getfield 71, 3) := by decide +kernel
theorem dX5_writeLetters_99 : decode cX5_writeLetters 99 = .ok (.iconst 1, 1) := by decide +kernel
theorem dX5_writeLetters_100 : decode cX5_writeLetters 100 = .ok (.isub, 1) := by decide +kernel
theorem dX5_writeLetters_101 : decode cX5_writeLetters 101 = .ok (.putfield 71, 3) := by decide +kernel
theorem dX5_writeLetters_104 : decode cX5_writeLetters 104 = .ok (.goto (-98), 3) := by decide +kernel
theorem dX5_writeLetters_107 : decode cX5_writeLetters 107 = .ok (.return_, 1) := by decide +kernel
def st_X5_writeLetters_6 (N : Nat) (l1 : Int32) (q2 : Nat) (h : Nat → HV) : Option (((Nat → HV)) ⊕ (Nat → HV)) := (if ((h 0).1 7) ≤ 0 then some (.inr h) else (if (F_X4_isWriting (h q2)) = true then (lt (F_X5_placeTwig (((h q2).1 3) + ((h q2).1 5)) (rget 40 ((h 0).2 4) (((h q2).1 3) + ((h q2).1 5))) l1 1 h) fun h2 => (lt (up h2 q2 (sS (h2 q2) 5 (((h2 q2).1 5) + 1))) fun h3 => (if ((h3 q2).1 5) < ((h3 q2).1 4) then (lt (up h3 0 (sS (h3 0) 7 (((h3 0).1 7) - 1))) fun h4 => some (.inl h4)) else (lt (F_X7_post l1 ((h3 q2).1 3) ((h3 q2).1 4) (h3 3)) fun g6 => (lt (up h3 3 g6) fun h7 => (lt (F_X4_stopWriting (h7 q2)) fun g9 => (lt (up h7 q2 g9) fun h10 => (lt (up h10 0 (sS (h10 0) 7 (((h10 0).1 7) - 1))) fun h11 => some (.inl h11))))))))) else (ob (F_X5_startNext N q2 h) fun v12 h13 => (if v12 = true then (lt (F_X5_placeTwig (((h13 q2).1 3) + ((h13 q2).1 5)) (rget 40 ((h13 0).2 4) (((h13 q2).1 3) + ((h13 q2).1 5))) l1 1 h13) fun h15 => (lt (up h15 q2 (sS (h15 q2) 5 (((h15 q2).1 5) + 1))) fun h16 => (if ((h16 q2).1 5) < ((h16 q2).1 4) then (lt (up h16 0 (sS (h16 0) 7 (((h16 0).1 7) - 1))) fun h17 => some (.inl h17)) else (lt (F_X7_post l1 ((h16 q2).1 3) ((h16 q2).1 4) (h16 3)) fun g19 => (lt (up h16 3 g19) fun h20 => (lt (F_X4_stopWriting (h20 q2)) fun g22 => (lt (up h20 q2 g22) fun h23 => (lt (up h23 0 (sS (h23 0) 7 (((h23 0).1 7) - 1))) fun h24 => some (.inl h24))))))))) else some (.inr h13)))))
def F_X5_writeLetters (N : Nat) (a1 : Int32) (h : Nat → HV) : Option (Nat → HV) := (lpN N (fun z => st_X5_writeLetters_6 N a1 (gsel a1) z) (h))
theorem lp_X5_writeLetters_6 {w : WP} (hW : gW w) {Ω : OM} {j : Nat} (hj : j ≤ 10)  (l1 : Int32) (q2 : Nat) (hq2 : q2 = 1 ∨ q2 = 2) {N : Nat} {X : CX} (C : gC w X cX5_writeLetters "HedgeMessages$Hedge" none 4 4) {h' : Nat → HV}  : ∀ (n : Nat) (h : Nat → HV), lpN n (fun z : (Nat → HV) => st_X5_writeLetters_6 N l1 q2 z) (h) = some h' → gV w X (none, cA w (sH Ω j h')) (cA w (sH Ω j h)) 6 [(0, .ref (wAd w (0, j, 0, 0))), (1, .int l1), (2, .ref (wAd w (1, j, q2, 0)))] [] := by
  intro n
  induction n with
  | zero => intro h hL; exact lpN_0 hL
  | succ n ih =>
    intro h hL
    obtain ⟨q9, hF, hL⟩ := lpN_e hL
    change st_X5_writeLetters_6 N l1 q2 h = some q9 at hF
    unfold st_X5_writeLetters_6 at hF
    refine r_aload_n C (k := 0) rfl rfl dX5_writeLetters_6 ?_
    refine og_0_7 C (hW.ok (k0 hj)) (congrFun (sH_g (Ω := Ω) (j := j) (h := h)) 0) wm1_144 dX5_writeLetters_7 ?_
    refine r_if_le C (tgt := 107) rfl dX5_writeLetters_10 (fun hc => ?_) (fun hc => ?_)
    · rw [if_pos hc] at hF
      cases hF
      change some _ = some _ at hL
      cases hL
      exact r_return C dX5_writeLetters_107
    · rw [if_neg hc] at hF
      refine r_aload_n C (k := 2) rfl rfl dX5_writeLetters_13 ?_
      refine r_callV C (d' := 0) [] (c_X4_isWriting hW hj hq2 (congrFun (sH_g (Ω := Ω) (j := j) (h := h)) q2) rfl) myX4_isWriting wm4_167 ⟨_, _, _, _, (hW.ok (k1 hj hq2)), rfl, rfl, rfl, rfl⟩ rfl (kR rfl) (by decide) (kR rfl) rfl dX5_writeLetters_14 ?_
      refine r_if_ne C (tgt := 28) rfl dX5_writeLetters_17 (fun hc => ?_) (fun hc => ?_)
      · rw [if_pos (b2i_t hc)] at hF
        refine r_aload_n C (k := 2) rfl rfl dX5_writeLetters_28 ?_
        refine ogN_1_3 C (hW.ok (k1 hj hq2)) (congrFun (sH_g (Ω := Ω) (j := j) (h := h)) q2) wm1_67 dX5_writeLetters_29 ?_
        refine r_aload_n C (k := 2) rfl rfl dX5_writeLetters_32 ?_
        refine ogN_1_5 C (hW.ok (k1 hj hq2)) (congrFun (sH_g (Ω := Ω) (j := j) (h := h)) q2) wm1_73 dX5_writeLetters_33 ?_
        refine r_iadd C dX5_writeLetters_36 ?_
        refine r_istore_n C (lo' := [(3, .int (((h q2).1 3) + ((h q2).1 5))), (0, .ref (wAd w (0, j, 0, 0))), (1, .int l1), (2, .ref (wAd w (1, j, q2, 0)))]) rfl (by decide) rfl dX5_writeLetters_37 ?_
        refine r_aload_n C (k := 1) rfl rfl dX5_writeLetters_38 ?_
        refine r_iload_n C (k := 0) rfl rfl dX5_writeLetters_39 ?_
        refine r_aload_n C (k := 1) rfl rfl dX5_writeLetters_40 ?_
        refine og_0_12 C (hW.ok (k0 hj)) wm1_155 dX5_writeLetters_41 ?_
        refine r_iload_n C (k := 0) rfl rfl dX5_writeLetters_44 ?_
        refine r_callV C (d' := 0) [.int (((h q2).1 3) + ((h q2).1 5))] (c_rget (hW.ok (i := (3, j, 0, 4)) (q0 hj (kR rfl))) (hW.ok (i := (4, j, 0, 4)) (q0 hj (kR rfl))) (show rlen 0 4 = 40 from rfl) (by decide) (congrArg (fun z => z.2 4) (congrFun (sH_g (Ω := Ω) (j := j) (h := h)) 0)) rfl) myX8_get wm3_163 ⟨_, _, _, _, (hW.ok (i := (3, j, 0, 4)) (q0 hj (kR rfl))), rfl, rfl, rfl, rfl⟩ rfl (kR rfl) (by decide) (kR rfl) rfl dX5_writeLetters_45 ?_
        refine r_iload_n C (k := 2) rfl rfl dX5_writeLetters_48 ?_
        refine r_iconst C (v := 1) rfl dX5_writeLetters_49 ?_
        obtain ⟨h2, hh2, hF⟩ := lt_e hF
        refine r_callV C (d' := 1) [.int (((h q2).1 3) + ((h q2).1 5)), .int (rget 40 ((h 0).2 4) (((h q2).1 3) + ((h q2).1 5))), .int l1, .int 1] (c_X5_placeTwig hW hj (sH_g (Ω := Ω) (j := j) (h := h)) (((h q2).1 3) + ((h q2).1 5)) (rget 40 ((h 0).2 4) (((h q2).1 3) + ((h q2).1 5))) l1 1 hh2 sH_H) myX5_placeTwig wm4_19 ⟨_, _, _, _, (hW.ok (k0 hj)), rfl, rfl, rfl, rfl⟩ rfl (kR rfl) (by decide) (kR rfl) rfl dX5_writeLetters_50 ?_
        refine r_aload_n C (k := 3) rfl rfl dX5_writeLetters_53 ?_
        refine r_dup C rfl dX5_writeLetters_54 ?_
        refine ogN_1_5 C (hW.ok (k1 hj hq2)) (congrFun (sH_g (Ω := Ω) (j := j) (h := h2)) q2) wm1_73 dX5_writeLetters_55 ?_
        refine r_iconst C (v := 1) rfl dX5_writeLetters_58 ?_
        refine r_iadd C dX5_writeLetters_59 ?_
        obtain ⟨h3, eh3, hF⟩ := lt_e hF
        refine opN_1_5 C hW.x (Or.inl (k1 hj hq2)) (hW.fr (k1 hj hq2)) (congrFun (sH_g (Ω := Ω) (j := j) (h := h2)) q2) wm1_73 dX5_writeLetters_60 (sP_H.trans (congrArg (sH Ω j) eh3)) ?_
        refine r_aload_n C (k := 3) rfl rfl dX5_writeLetters_63 ?_
        refine ogN_1_5 C (hW.ok (k1 hj hq2)) (congrFun (sH_g (Ω := Ω) (j := j) (h := h3)) q2) wm1_73 dX5_writeLetters_64 ?_
        refine r_aload_n C (k := 3) rfl rfl dX5_writeLetters_67 ?_
        refine ogN_1_4 C (hW.ok (k1 hj hq2)) (congrFun (sH_g (Ω := Ω) (j := j) (h := h3)) q2) wm1_70 dX5_writeLetters_68 ?_
        refine r_icmp_lt C (tgt := 94) rfl dX5_writeLetters_71 (fun hc => ?_) (fun hc => ?_)
        · rw [if_pos hc] at hF
          refine r_aload_n C (k := 1) rfl rfl dX5_writeLetters_94 ?_
          refine r_dup C rfl dX5_writeLetters_95 ?_
          refine og_0_7 C (hW.ok (k0 hj)) (congrFun (sH_g (Ω := Ω) (j := j) (h := h3)) 0) wm1_144 dX5_writeLetters_96 ?_
          refine r_iconst C (v := 1) rfl dX5_writeLetters_99 ?_
          refine r_isub C dX5_writeLetters_100 ?_
          obtain ⟨h4, eh4, hF⟩ := lt_e hF
          refine op_0_7 C hW.x (Or.inl (k0 hj)) (hW.fr (k0 hj)) (congrFun (sH_g (Ω := Ω) (j := j) (h := h3)) 0) wm1_144 dX5_writeLetters_101 (sP_H.trans (congrArg (sH Ω j) eh4)) ?_
          refine r_goto C (tgt := 6) rfl dX5_writeLetters_104 ?_
          cases hF
          change lpN n _ _ = some _ at hL
          refine r_lo [1, 2, 3] (lo' := [(0, .ref (wAd w (0, j, 0, 0))), (1, .int l1), (2, .ref (wAd w (1, j, q2, 0)))]) rfl ?_
          exact ih h4 hL
        · rw [if_neg hc] at hF
          refine r_aload_n C (k := 1) rfl rfl dX5_writeLetters_74 ?_
          refine og_0_15 C (hW.ok (k0 hj)) wm1_160 dX5_writeLetters_75 ?_
          refine r_iload_n C (k := 2) rfl rfl dX5_writeLetters_78 ?_
          refine r_aload_n C (k := 3) rfl rfl dX5_writeLetters_79 ?_
          refine ogN_1_3 C (hW.ok (k1 hj hq2)) (congrFun (sH_g (Ω := Ω) (j := j) (h := h3)) q2) wm1_67 dX5_writeLetters_80 ?_
          refine r_aload_n C (k := 3) rfl rfl dX5_writeLetters_83 ?_
          refine ogN_1_4 C (hW.ok (k1 hj hq2)) (congrFun (sH_g (Ω := Ω) (j := j) (h := h3)) q2) wm1_70 dX5_writeLetters_84 ?_
          obtain ⟨g6, hg6, hF⟩ := lt_e hF
          obtain ⟨h7, eh7, hF⟩ := lt_e hF
          refine r_callV C (d' := 1) [.int l1, .int ((h3 q2).1 3), .int ((h3 q2).1 4)] (c_X7_post hW hj (congrFun (sH_g (Ω := Ω) (j := j) (h := h3)) 3) l1 ((h3 q2).1 3) ((h3 q2).1 4) hg6 (sP_H.trans (congrArg (sH Ω j) eh7))) myX7_post wm4_182 ⟨_, _, _, _, (hW.ok (k2 hj)), rfl, rfl, rfl, rfl⟩ rfl (kR rfl) (by decide) (kR rfl) rfl dX5_writeLetters_87 ?_
          refine r_aload_n C (k := 3) rfl rfl dX5_writeLetters_90 ?_
          obtain ⟨g9, hg9, hF⟩ := lt_e hF
          obtain ⟨h10, eh10, hF⟩ := lt_e hF
          refine r_callV C (d' := 0) [] (c_X4_stopWriting hW hj hq2 (congrFun (sH_g (Ω := Ω) (j := j) (h := h7)) q2) hg9 (sP_H.trans (congrArg (sH Ω j) eh10))) myX4_stopWriting wm4_183 ⟨_, _, _, _, (hW.ok (k1 hj hq2)), rfl, rfl, rfl, rfl⟩ rfl (kR rfl) (by decide) (kR rfl) rfl dX5_writeLetters_91 ?_
          refine r_aload_n C (k := 1) rfl rfl dX5_writeLetters_94 ?_
          refine r_dup C rfl dX5_writeLetters_95 ?_
          refine og_0_7 C (hW.ok (k0 hj)) (congrFun (sH_g (Ω := Ω) (j := j) (h := h10)) 0) wm1_144 dX5_writeLetters_96 ?_
          refine r_iconst C (v := 1) rfl dX5_writeLetters_99 ?_
          refine r_isub C dX5_writeLetters_100 ?_
          obtain ⟨h11, eh11, hF⟩ := lt_e hF
          refine op_0_7 C hW.x (Or.inl (k0 hj)) (hW.fr (k0 hj)) (congrFun (sH_g (Ω := Ω) (j := j) (h := h10)) 0) wm1_144 dX5_writeLetters_101 (sP_H.trans (congrArg (sH Ω j) eh11)) ?_
          refine r_goto C (tgt := 6) rfl dX5_writeLetters_104 ?_
          cases hF
          change lpN n _ _ = some _ at hL
          refine r_lo [1, 2, 3] (lo' := [(0, .ref (wAd w (0, j, 0, 0))), (1, .int l1), (2, .ref (wAd w (1, j, q2, 0)))]) rfl ?_
          exact ih h11 hL
      · rw [if_neg (b2i_f hc)] at hF
        refine r_aload_n C (k := 0) rfl rfl dX5_writeLetters_20 ?_
        refine r_aload_n C (k := 2) rfl rfl dX5_writeLetters_21 ?_
        obtain ⟨v12, h13, hh13, hF⟩ := ob_e hF
        refine r_callV C (d' := 3) [.ref (wAd w (1, j, q2, 0))] (c_X5_startNext hW hj (sH_g (Ω := Ω) (j := j) (h := h)) N q2 hq2 hh13 sH_H) myX5_startNext wm4_171 ⟨_, _, _, _, (hW.ok (k0 hj)), rfl, rfl, rfl, rfl⟩ rfl (kR rfl) (by decide) (kR rfl) rfl dX5_writeLetters_22 ?_
        refine r_if_eq C (tgt := 107) rfl dX5_writeLetters_25 (fun hc => ?_) (fun hc => ?_)
        · rw [if_neg (b2i_f hc)] at hF
          cases hF
          change some _ = some _ at hL
          cases hL
          exact r_return C dX5_writeLetters_107
        · rw [if_pos (b2i_t hc)] at hF
          refine r_aload_n C (k := 2) rfl rfl dX5_writeLetters_28 ?_
          refine ogN_1_3 C (hW.ok (k1 hj hq2)) (congrFun (sH_g (Ω := Ω) (j := j) (h := h13)) q2) wm1_67 dX5_writeLetters_29 ?_
          refine r_aload_n C (k := 2) rfl rfl dX5_writeLetters_32 ?_
          refine ogN_1_5 C (hW.ok (k1 hj hq2)) (congrFun (sH_g (Ω := Ω) (j := j) (h := h13)) q2) wm1_73 dX5_writeLetters_33 ?_
          refine r_iadd C dX5_writeLetters_36 ?_
          refine r_istore_n C (lo' := [(3, .int (((h13 q2).1 3) + ((h13 q2).1 5))), (0, .ref (wAd w (0, j, 0, 0))), (1, .int l1), (2, .ref (wAd w (1, j, q2, 0)))]) rfl (by decide) rfl dX5_writeLetters_37 ?_
          refine r_aload_n C (k := 1) rfl rfl dX5_writeLetters_38 ?_
          refine r_iload_n C (k := 0) rfl rfl dX5_writeLetters_39 ?_
          refine r_aload_n C (k := 1) rfl rfl dX5_writeLetters_40 ?_
          refine og_0_12 C (hW.ok (k0 hj)) wm1_155 dX5_writeLetters_41 ?_
          refine r_iload_n C (k := 0) rfl rfl dX5_writeLetters_44 ?_
          refine r_callV C (d' := 0) [.int (((h13 q2).1 3) + ((h13 q2).1 5))] (c_rget (hW.ok (i := (3, j, 0, 4)) (q0 hj (kR rfl))) (hW.ok (i := (4, j, 0, 4)) (q0 hj (kR rfl))) (show rlen 0 4 = 40 from rfl) (by decide) (congrArg (fun z => z.2 4) (congrFun (sH_g (Ω := Ω) (j := j) (h := h13)) 0)) rfl) myX8_get wm3_163 ⟨_, _, _, _, (hW.ok (i := (3, j, 0, 4)) (q0 hj (kR rfl))), rfl, rfl, rfl, rfl⟩ rfl (kR rfl) (by decide) (kR rfl) rfl dX5_writeLetters_45 ?_
          refine r_iload_n C (k := 2) rfl rfl dX5_writeLetters_48 ?_
          refine r_iconst C (v := 1) rfl dX5_writeLetters_49 ?_
          obtain ⟨h15, hh15, hF⟩ := lt_e hF
          refine r_callV C (d' := 1) [.int (((h13 q2).1 3) + ((h13 q2).1 5)), .int (rget 40 ((h13 0).2 4) (((h13 q2).1 3) + ((h13 q2).1 5))), .int l1, .int 1] (c_X5_placeTwig hW hj (sH_g (Ω := Ω) (j := j) (h := h13)) (((h13 q2).1 3) + ((h13 q2).1 5)) (rget 40 ((h13 0).2 4) (((h13 q2).1 3) + ((h13 q2).1 5))) l1 1 hh15 sH_H) myX5_placeTwig wm4_19 ⟨_, _, _, _, (hW.ok (k0 hj)), rfl, rfl, rfl, rfl⟩ rfl (kR rfl) (by decide) (kR rfl) rfl dX5_writeLetters_50 ?_
          refine r_aload_n C (k := 3) rfl rfl dX5_writeLetters_53 ?_
          refine r_dup C rfl dX5_writeLetters_54 ?_
          refine ogN_1_5 C (hW.ok (k1 hj hq2)) (congrFun (sH_g (Ω := Ω) (j := j) (h := h15)) q2) wm1_73 dX5_writeLetters_55 ?_
          refine r_iconst C (v := 1) rfl dX5_writeLetters_58 ?_
          refine r_iadd C dX5_writeLetters_59 ?_
          obtain ⟨h16, eh16, hF⟩ := lt_e hF
          refine opN_1_5 C hW.x (Or.inl (k1 hj hq2)) (hW.fr (k1 hj hq2)) (congrFun (sH_g (Ω := Ω) (j := j) (h := h15)) q2) wm1_73 dX5_writeLetters_60 (sP_H.trans (congrArg (sH Ω j) eh16)) ?_
          refine r_aload_n C (k := 3) rfl rfl dX5_writeLetters_63 ?_
          refine ogN_1_5 C (hW.ok (k1 hj hq2)) (congrFun (sH_g (Ω := Ω) (j := j) (h := h16)) q2) wm1_73 dX5_writeLetters_64 ?_
          refine r_aload_n C (k := 3) rfl rfl dX5_writeLetters_67 ?_
          refine ogN_1_4 C (hW.ok (k1 hj hq2)) (congrFun (sH_g (Ω := Ω) (j := j) (h := h16)) q2) wm1_70 dX5_writeLetters_68 ?_
          refine r_icmp_lt C (tgt := 94) rfl dX5_writeLetters_71 (fun hc => ?_) (fun hc => ?_)
          · rw [if_pos hc] at hF
            refine r_aload_n C (k := 1) rfl rfl dX5_writeLetters_94 ?_
            refine r_dup C rfl dX5_writeLetters_95 ?_
            refine og_0_7 C (hW.ok (k0 hj)) (congrFun (sH_g (Ω := Ω) (j := j) (h := h16)) 0) wm1_144 dX5_writeLetters_96 ?_
            refine r_iconst C (v := 1) rfl dX5_writeLetters_99 ?_
            refine r_isub C dX5_writeLetters_100 ?_
            obtain ⟨h17, eh17, hF⟩ := lt_e hF
            refine op_0_7 C hW.x (Or.inl (k0 hj)) (hW.fr (k0 hj)) (congrFun (sH_g (Ω := Ω) (j := j) (h := h16)) 0) wm1_144 dX5_writeLetters_101 (sP_H.trans (congrArg (sH Ω j) eh17)) ?_
            refine r_goto C (tgt := 6) rfl dX5_writeLetters_104 ?_
            cases hF
            change lpN n _ _ = some _ at hL
            refine r_lo [1, 2, 3] (lo' := [(0, .ref (wAd w (0, j, 0, 0))), (1, .int l1), (2, .ref (wAd w (1, j, q2, 0)))]) rfl ?_
            exact ih h17 hL
          · rw [if_neg hc] at hF
            refine r_aload_n C (k := 1) rfl rfl dX5_writeLetters_74 ?_
            refine og_0_15 C (hW.ok (k0 hj)) wm1_160 dX5_writeLetters_75 ?_
            refine r_iload_n C (k := 2) rfl rfl dX5_writeLetters_78 ?_
            refine r_aload_n C (k := 3) rfl rfl dX5_writeLetters_79 ?_
            refine ogN_1_3 C (hW.ok (k1 hj hq2)) (congrFun (sH_g (Ω := Ω) (j := j) (h := h16)) q2) wm1_67 dX5_writeLetters_80 ?_
            refine r_aload_n C (k := 3) rfl rfl dX5_writeLetters_83 ?_
            refine ogN_1_4 C (hW.ok (k1 hj hq2)) (congrFun (sH_g (Ω := Ω) (j := j) (h := h16)) q2) wm1_70 dX5_writeLetters_84 ?_
            obtain ⟨g19, hg19, hF⟩ := lt_e hF
            obtain ⟨h20, eh20, hF⟩ := lt_e hF
            refine r_callV C (d' := 1) [.int l1, .int ((h16 q2).1 3), .int ((h16 q2).1 4)] (c_X7_post hW hj (congrFun (sH_g (Ω := Ω) (j := j) (h := h16)) 3) l1 ((h16 q2).1 3) ((h16 q2).1 4) hg19 (sP_H.trans (congrArg (sH Ω j) eh20))) myX7_post wm4_182 ⟨_, _, _, _, (hW.ok (k2 hj)), rfl, rfl, rfl, rfl⟩ rfl (kR rfl) (by decide) (kR rfl) rfl dX5_writeLetters_87 ?_
            refine r_aload_n C (k := 3) rfl rfl dX5_writeLetters_90 ?_
            obtain ⟨g22, hg22, hF⟩ := lt_e hF
            obtain ⟨h23, eh23, hF⟩ := lt_e hF
            refine r_callV C (d' := 0) [] (c_X4_stopWriting hW hj hq2 (congrFun (sH_g (Ω := Ω) (j := j) (h := h20)) q2) hg22 (sP_H.trans (congrArg (sH Ω j) eh23))) myX4_stopWriting wm4_183 ⟨_, _, _, _, (hW.ok (k1 hj hq2)), rfl, rfl, rfl, rfl⟩ rfl (kR rfl) (by decide) (kR rfl) rfl dX5_writeLetters_91 ?_
            refine r_aload_n C (k := 1) rfl rfl dX5_writeLetters_94 ?_
            refine r_dup C rfl dX5_writeLetters_95 ?_
            refine og_0_7 C (hW.ok (k0 hj)) (congrFun (sH_g (Ω := Ω) (j := j) (h := h23)) 0) wm1_144 dX5_writeLetters_96 ?_
            refine r_iconst C (v := 1) rfl dX5_writeLetters_99 ?_
            refine r_isub C dX5_writeLetters_100 ?_
            obtain ⟨h24, eh24, hF⟩ := lt_e hF
            refine op_0_7 C hW.x (Or.inl (k0 hj)) (hW.fr (k0 hj)) (congrFun (sH_g (Ω := Ω) (j := j) (h := h23)) 0) wm1_144 dX5_writeLetters_101 (sP_H.trans (congrArg (sH Ω j) eh24)) ?_
            refine r_goto C (tgt := 6) rfl dX5_writeLetters_104 ?_
            cases hF
            change lpN n _ _ = some _ at hL
            refine r_lo [1, 2, 3] (lo' := [(0, .ref (wAd w (0, j, 0, 0))), (1, .int l1), (2, .ref (wAd w (1, j, q2, 0)))]) rfl ?_
            exact ih h24 hL
theorem c_X5_writeLetters {w : WP} (hW : gW w) {Ω : OM} {j : Nat} (hj : j ≤ 10) {h : Nat → HV} (e : Ω.1 j = h) (N : Nat) (a1 : Int32) {h' : Nat → HV} (hF : F_X5_writeLetters N a1 h = some h') {Ω' : OM} (e2 : (sH Ω j h') = Ω') : gM w 4 yX5_writeLetters cX5_writeLetters 4 none [.ref (wAd w (0, j, 0, 0)), .int a1] (cA w Ω) none (cA w Ω') := by
  refine gM_of "HedgeMessages$Hedge" rfl (by decide) (kR rfl) fun X C => ?_
  unfold F_X5_writeLetters at hF
  subst e2
  show gV w X _ _ 0 [(0, .ref (wAd w (0, j, 0, 0))), (1, .int a1)] []
  refine r_ct (ct' := cA w (sH Ω j h)) (congrArg (cA w) (sH_i e).symm) ?_
  refine r_aload_n C (k := 0) rfl rfl dX5_writeLetters_0 ?_
  refine r_iload_n C (k := 1) rfl rfl dX5_writeLetters_1 ?_
  refine r_callV C (d' := 0) [.int a1] (c_X5_gardener hW hj a1) myX5_gardener wm2_141 ⟨_, _, _, _, (hW.ok (k0 hj)), rfl, rfl, rfl, rfl⟩ rfl (kR rfl) (by decide) (kR rfl) rfl dX5_writeLetters_2 ?_
  refine r_astore_n C (lo' := [(2, .ref (wAd w (1, j, (gsel a1), 0))), (0, .ref (wAd w (0, j, 0, 0))), (1, .int a1)]) rfl (by decide) rfl dX5_writeLetters_5 ?_
  refine r_lo [1, 2, 0] (lo' := [(0, .ref (wAd w (0, j, 0, 0))), (1, .int a1), (2, .ref (wAd w (1, j, (gsel a1), 0)))]) rfl ?_
  exact lp_X5_writeLetters_6 hW hj a1 (gsel a1) gsel_12 C N h hF
theorem dX5_endOneDay_0 : decode cX5_endOneDay 0 = .ok (.aload_n 0, 1) := by decide +kernel
theorem dX5_endOneDay_1 : decode cX5_endOneDay 1 = .ok (.iconst 1, 1) := by decide +kernel
theorem dX5_endOneDay_2 : decode cX5_endOneDay 2 = .ok (.aload_n 0, 1) := by decide +kernel
theorem dX5_endOneDay_3 : decode cX5_endOneDay 3 = .ok (.invokevirtual 182, 3) := by decide +kernel
theorem dX5_endOneDay_6 : decode cX5_endOneDay 6 = .ok (.isub, 1) := by decide +kernel
theorem dX5_endOneDay_7 : decode cX5_endOneDay 7 = .ok (.invokevirtual 207, 3) := by decide +kernel
theorem dX5_endOneDay_10 : decode cX5_endOneDay 10 = .ok (.aload_n 0, 1) := by decide +kernel
theorem dX5_endOneDay_11 : decode cX5_endOneDay 11 = .ok (.aload_n 0, 1) := by decide +kernel
theorem dX5_endOneDay_12 : decode cX5_endOneDay 12 = .ok (.invokevirtual 182, 3) := by decide +kernel
theorem dX5_endOneDay_15 : decode cX5_endOneDay 15 = .ok (.invokevirtual 210, 3) := by decide +kernel
theorem dX5_endOneDay_18 : decode cX5_endOneDay 18 = .ok (.aload_n 0, 1) := by decide +kernel
theorem dX5_endOneDay_19 : decode cX5_endOneDay 19 = .ok (.invokevirtual 213, 3) := by decide +kernel
theorem dX5_endOneDay_22 : decode cX5_endOneDay 22 = .ok (.aload_n 0, 1) := by decide +kernel
theorem dX5_endOneDay_23 : decode cX5_endOneDay 23 = .ok (.dup, 1) := by decide +kernel
theorem dX5_endOneDay_24 : decode cX5_endOneDay 24 = .ok (.getfield 68, 3) := by decide +kernel
theorem dX5_endOneDay_27 : decode cX5_endOneDay 27 = .ok (.iconst 1, 1) := by decide +kernel
theorem dX5_endOneDay_28 : decode cX5_endOneDay 28 = .ok (.iadd, 1) := by decide +kernel
theorem dX5_endOneDay_29 : decode cX5_endOneDay 29 = .ok (.putfield 68, 3) := by decide +kernel
theorem dX5_endOneDay_32 : decode cX5_endOneDay 32 = .ok (.aload_n 0, 1) := by decide +kernel
theorem dX5_endOneDay_33 : decode cX5_endOneDay 33 = .ok (.aload_n 0, 1) := by decide +kernel
theorem dX5_endOneDay_34 : decode cX5_endOneDay 34 = .ok (.getfield 53, 3) := by decide +kernel
theorem dX5_endOneDay_37 : decode cX5_endOneDay 37 = .ok (.putfield 71, 3) := by decide +kernel
theorem dX5_endOneDay_40 : decode cX5_endOneDay 40 = .ok (.aload_n 0, 1) := by decide +kernel
theorem dX5_endOneDay_41 : decode cX5_endOneDay 41 = .ok (.getfield 62, 3) := by decide +kernel
theorem dX5_endOneDay_44 : decode cX5_endOneDay 44 = .ok (.ifCond .le 33, 3) := by decide +kernel
theorem dX5_endOneDay_47 : decode cX5_endOneDay 47 = .ok (.aload_n 0, 1) := by decide +kernel
theorem dX5_endOneDay_48 : decode cX5_endOneDay 48 = .ok (.getfield 68, 3) := by decide +kernel
theorem dX5_endOneDay_51 : decode cX5_endOneDay 51 = .ok (.aload_n 0, 1) := by decide +kernel
theorem dX5_endOneDay_52 : decode cX5_endOneDay 52 = .ok (.getfield 62, 3) := by decide +kernel
theorem dX5_endOneDay_55 : decode cX5_endOneDay 55 = .ok (.irem, 1) := by decide +kernel
theorem dX5_endOneDay_56 : decode cX5_endOneDay 56 = .ok (.ifCond .ne 21, 3) := by decide +kernel
theorem dX5_endOneDay_59 : decode cX5_endOneDay 59 = .ok (.aload_n 0, 1) := by decide +kernel
theorem dX5_endOneDay_60 : decode cX5_endOneDay 60 = .ok (.invokevirtual 216, 3) := by decide +kernel
theorem dX5_endOneDay_63 : decode cX5_endOneDay 63 = .ok (.aload_n 0, 1) := by decide +kernel
theorem dX5_endOneDay_64 : decode cX5_endOneDay 64 = .ok (.iconst 0, 1) := by decide +kernel
theorem dX5_endOneDay_65 : decode cX5_endOneDay 65 = .ok (.invokevirtual 219, 3) := by decide +kernel
theorem dX5_endOneDay_68 : decode cX5_endOneDay 68 = .ok (.aload_n 0, 1) := by decide +kernel
theorem dX5_endOneDay_69 : decode cX5_endOneDay 69 = .ok (.iconst 1, 1) := by decide +kernel
theorem dX5_endOneDay_70 : decode cX5_endOneDay 70 = .ok (.invokevirtual 219, 3) := by decide +kernel
theorem dX5_endOneDay_73 : decode cX5_endOneDay 73 = .ok (.aload_n 0, 1) := by decide +kernel
theorem dX5_endOneDay_74 : decode cX5_endOneDay 74 = .ok (.invokevirtual 222, 3) := by decide +kernel
theorem dX5_endOneDay_77 : decode cX5_endOneDay 77 = .ok (.return_, 1) := by decide +kernel
def F_X5_endOneDay (N : Nat) (h : Nat → HV) : Option (Nat → HV) := (ob1 (F_X5_deliverPosted N (1 - (F_X5_active h)) h) fun h2 => (ob1 (F_X5_writeLetters N (F_X5_active h2) h2) fun h4 => (ob1 (F_X5_grow N h4) fun h6 => (lt (up h6 0 (sS (h6 0) 6 (((h6 0).1 6) + 1))) fun h7 => (lt (up h7 0 (sS (h7 0) 7 ((h7 0).1 1))) fun h8 => (if ((h8 0).1 4) ≤ 0 then some h8 else (if ((h8 0).1 4) = 0 then none else (if (((h8 0).1 6) - ((h8 0).1 6) / ((h8 0).1 4) * ((h8 0).1 4)) = 0 then (ob1 (F_X5_prune N h8) fun h11 => (ob1 (F_X5_failInProgress N 0 h11) fun h13 => (ob1 (F_X5_failInProgress N 1 h13) fun h15 => (ob1 (F_X5_failPosted N h15) fun h17 => some h17)))) else some h8))))))))
theorem c_X5_endOneDay {w : WP} (hW : gW w) {Ω : OM} {j : Nat} (hj : j ≤ 10) {h : Nat → HV} (e : Ω.1 j = h) (N : Nat)  {h' : Nat → HV} (hF : F_X5_endOneDay N h = some h') {Ω' : OM} (e2 : (sH Ω j h') = Ω') : gM w 5 yX5_endOneDay cX5_endOneDay 1 none [.ref (wAd w (0, j, 0, 0))] (cA w Ω) none (cA w Ω') := by
  refine gM_of "HedgeMessages$Hedge" rfl (by decide) (kR rfl) fun X C => ?_
  unfold F_X5_endOneDay at hF
  subst e2
  show gV w X _ _ 0 [(0, .ref (wAd w (0, j, 0, 0)))] []
  refine r_ct (ct' := cA w (sH Ω j h)) (congrArg (cA w) (sH_i e).symm) ?_
  refine r_aload_n C (k := 0) rfl rfl dX5_endOneDay_0 ?_
  refine r_iconst C (v := 1) rfl dX5_endOneDay_1 ?_
  refine r_aload_n C (k := 0) rfl rfl dX5_endOneDay_2 ?_
  refine r_callV C (d' := 0) [] (c_X5_active hW hj (sH_g (Ω := Ω) (j := j) (h := h)) rfl) myX5_active wm4_15 ⟨_, _, _, _, (hW.ok (k0 hj)), rfl, rfl, rfl, rfl⟩ rfl (kR rfl) (by decide) (kR rfl) rfl dX5_endOneDay_3 ?_
  refine r_isub C dX5_endOneDay_6 ?_
  obtain ⟨h2, hh2, hF⟩ := ob1_e hF
  refine r_callV C (d' := 3) [.int (1 - (F_X5_active h))] (c_X5_deliverPosted hW hj (sH_g (Ω := Ω) (j := j) (h := h)) N (1 - (F_X5_active h)) hh2 sH_H) myX5_deliverPosted wm4_141 ⟨_, _, _, _, (hW.ok (k0 hj)), rfl, rfl, rfl, rfl⟩ rfl (kR rfl) (by decide) (kR rfl) rfl dX5_endOneDay_7 ?_
  refine r_aload_n C (k := 0) rfl rfl dX5_endOneDay_10 ?_
  refine r_aload_n C (k := 0) rfl rfl dX5_endOneDay_11 ?_
  refine r_callV C (d' := 0) [] (c_X5_active hW hj (sH_g (Ω := Ω) (j := j) (h := h2)) rfl) myX5_active wm4_15 ⟨_, _, _, _, (hW.ok (k0 hj)), rfl, rfl, rfl, rfl⟩ rfl (kR rfl) (by decide) (kR rfl) rfl dX5_endOneDay_12 ?_
  obtain ⟨h4, hh4, hF⟩ := ob1_e hF
  refine r_callV C (d' := 4) [.int (F_X5_active h2)] (c_X5_writeLetters hW hj (sH_g (Ω := Ω) (j := j) (h := h2)) N (F_X5_active h2) hh4 sH_H) myX5_writeLetters wm4_163 ⟨_, _, _, _, (hW.ok (k0 hj)), rfl, rfl, rfl, rfl⟩ rfl (kR rfl) (by decide) (kR rfl) rfl dX5_endOneDay_15 ?_
  refine r_aload_n C (k := 0) rfl rfl dX5_endOneDay_18 ?_
  obtain ⟨h6, hh6, hF⟩ := ob1_e hF
  refine r_callV C (d' := 1) [] (c_X5_grow hW hj (sH_g (Ω := Ω) (j := j) (h := h4)) N hh6 sH_H) myX5_grow wm4_184 ⟨_, _, _, _, (hW.ok (k0 hj)), rfl, rfl, rfl, rfl⟩ rfl (kR rfl) (by decide) (kR rfl) rfl dX5_endOneDay_19 ?_
  refine r_aload_n C (k := 0) rfl rfl dX5_endOneDay_22 ?_
  refine r_dup C rfl dX5_endOneDay_23 ?_
  refine og_0_6 C (hW.ok (k0 hj)) (congrFun (sH_g (Ω := Ω) (j := j) (h := h6)) 0) wm1_142 dX5_endOneDay_24 ?_
  refine r_iconst C (v := 1) rfl dX5_endOneDay_27 ?_
  refine r_iadd C dX5_endOneDay_28 ?_
  obtain ⟨h7, eh7, hF⟩ := lt_e hF
  refine op_0_6 C hW.x (Or.inl (k0 hj)) (hW.fr (k0 hj)) (congrFun (sH_g (Ω := Ω) (j := j) (h := h6)) 0) wm1_142 dX5_endOneDay_29 (sP_H.trans (congrArg (sH Ω j) eh7)) ?_
  refine r_aload_n C (k := 0) rfl rfl dX5_endOneDay_32 ?_
  refine r_aload_n C (k := 0) rfl rfl dX5_endOneDay_33 ?_
  refine og_0_1 C (hW.ok (k0 hj)) (congrFun (sH_g (Ω := Ω) (j := j) (h := h7)) 0) wm1_136 dX5_endOneDay_34 ?_
  obtain ⟨h8, eh8, hF⟩ := lt_e hF
  refine op_0_7 C hW.x (Or.inl (k0 hj)) (hW.fr (k0 hj)) (congrFun (sH_g (Ω := Ω) (j := j) (h := h7)) 0) wm1_144 dX5_endOneDay_37 (sP_H.trans (congrArg (sH Ω j) eh8)) ?_
  refine r_aload_n C (k := 0) rfl rfl dX5_endOneDay_40 ?_
  refine og_0_4 C (hW.ok (k0 hj)) (congrFun (sH_g (Ω := Ω) (j := j) (h := h8)) 0) wm1_140 dX5_endOneDay_41 ?_
  refine r_if_le C (tgt := 77) rfl dX5_endOneDay_44 (fun hc => ?_) (fun hc => ?_)
  · rw [if_pos hc] at hF
    cases hF
    exact r_return C dX5_endOneDay_77
  · rw [if_neg hc] at hF
    refine r_aload_n C (k := 0) rfl rfl dX5_endOneDay_47 ?_
    refine og_0_6 C (hW.ok (k0 hj)) (congrFun (sH_g (Ω := Ω) (j := j) (h := h8)) 0) wm1_142 dX5_endOneDay_48 ?_
    refine r_aload_n C (k := 0) rfl rfl dX5_endOneDay_51 ?_
    refine og_0_4 C (hW.ok (k0 hj)) (congrFun (sH_g (Ω := Ω) (j := j) (h := h8)) 0) wm1_140 dX5_endOneDay_52 ?_
    obtain ⟨z9, hF⟩ := dz_e hF
    refine r_irem C z9 dX5_endOneDay_55 ?_
    refine r_if_ne C (tgt := 77) rfl dX5_endOneDay_56 (fun hc => ?_) (fun hc => ?_)
    · rw [if_neg hc] at hF
      cases hF
      exact r_return C dX5_endOneDay_77
    · rw [if_pos hc] at hF
      refine r_aload_n C (k := 0) rfl rfl dX5_endOneDay_59 ?_
      obtain ⟨h11, hh11, hF⟩ := ob1_e hF
      refine r_callV C (d' := 3) [] (c_X5_prune hW hj (sH_g (Ω := Ω) (j := j) (h := h8)) N hh11 sH_H) myX5_prune wm4_188 ⟨_, _, _, _, (hW.ok (k0 hj)), rfl, rfl, rfl, rfl⟩ rfl (kR rfl) (by decide) (kR rfl) rfl dX5_endOneDay_60 ?_
      refine r_aload_n C (k := 0) rfl rfl dX5_endOneDay_63 ?_
      refine r_iconst C (v := 0) rfl dX5_endOneDay_64 ?_
      obtain ⟨h13, hh13, hF⟩ := ob1_e hF
      refine r_callV C (d' := 4) [.int 0] (c_X5_failInProgress hW hj (sH_g (Ω := Ω) (j := j) (h := h11)) N 0 hh13 sH_H) myX5_failInProgress wm4_196 ⟨_, _, _, _, (hW.ok (k0 hj)), rfl, rfl, rfl, rfl⟩ rfl (kR rfl) (by decide) (kR rfl) rfl dX5_endOneDay_65 ?_
      refine r_aload_n C (k := 0) rfl rfl dX5_endOneDay_68 ?_
      refine r_iconst C (v := 1) rfl dX5_endOneDay_69 ?_
      obtain ⟨h15, hh15, hF⟩ := ob1_e hF
      refine r_callV C (d' := 4) [.int 1] (c_X5_failInProgress hW hj (sH_g (Ω := Ω) (j := j) (h := h13)) N 1 hh15 sH_H) myX5_failInProgress wm4_196 ⟨_, _, _, _, (hW.ok (k0 hj)), rfl, rfl, rfl, rfl⟩ rfl (kR rfl) (by decide) (kR rfl) rfl dX5_endOneDay_70 ?_
      refine r_aload_n C (k := 0) rfl rfl dX5_endOneDay_73 ?_
      obtain ⟨h17, hh17, hF⟩ := ob1_e hF
      refine r_callV C (d' := 4) [] (c_X5_failPosted hW hj (sH_g (Ω := Ω) (j := j) (h := h15)) N hh17 sH_H) myX5_failPosted wm4_208 ⟨_, _, _, _, (hW.ok (k0 hj)), rfl, rfl, rfl, rfl⟩ rfl (kR rfl) (by decide) (kR rfl) rfl dX5_endOneDay_74 ?_
      cases hF
      exact r_return C dX5_endOneDay_77
