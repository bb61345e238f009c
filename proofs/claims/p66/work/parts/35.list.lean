/-! ===== 35.list: printed by wip/p66/gen.py ===== -/
theorem dX6_forget_0 : decode cX6_forget 0 = .ok (.aload_n 0, 1) := by decide +kernel
theorem dX6_forget_1 : decode cX6_forget 1 = .ok (.iconst 0, 1) := by decide +kernel
theorem dX6_forget_2 : decode cX6_forget 2 = .ok (.putfield 18, 3) := by decide +kernel
theorem dX6_forget_5 : decode cX6_forget 5 = .ok (.return_, 1) := by decide +kernel
def F_X6_forget (S : Nat → Nat → HV) : Nat → Nat → HV := (lt (up S 11 (up (S 11) 7 (sS (S 11 7) 2 0))) fun S1 => S1)
theorem c_X6_forget {w : WP} (hW : gW w) {Ω : OM}  {S : Nat → Nat → HV} (e : Ω.1 = S)  {S' : Nat → Nat → HV} (hF : F_X6_forget S = S') {Ω' : OM} (e2 : (S', Ω.2) = Ω') : gM w 0 yX6_forget cX6_forget 1 none [.ref (wAd w (8, 11, 7, 0))] (cA w Ω) none (cA w Ω') := by
  refine gM_of "HedgeMessages$History" rfl (by decide) (kR rfl) fun X C => ?_
  unfold F_X6_forget at hF
  subst e2
  show gV w X _ _ 0 [(0, .ref (wAd w (8, 11, 7, 0)))] []
  refine r_ct (ct' := cA w (S, Ω.2)) (by rw [← e]) ?_
  refine r_aload_n C (k := 0) rfl rfl dX6_forget_0 ?_
  refine r_iconst C (v := 0) rfl dX6_forget_1 ?_
  obtain ⟨S1, eS1, hF⟩ := lt_e hF
  refine op_8_2 C hW.x (Or.inl k8) (hW.fr k8) (congrFun (congrFun (show (S, Ω.2).1 = S from rfl) 11) 7) wm1_218 dX6_forget_2 (congrArg (fun z => (z, Ω.2)) eS1) ?_
  cases hF
  exact r_return C dX6_forget_5
theorem dX6_remember_0 : decode cX6_remember 0 = .ok (.aload_n 0, 1) := by decide +kernel
theorem dX6_remember_1 : decode cX6_remember 1 = .ok (.aload_n 0, 1) := by decide +kernel
theorem dX6_remember_2 : decode cX6_remember 2 = .ok (.getfield 22, 3) := by decide +kernel
theorem dX6_remember_5 : decode cX6_remember 5 = .ok (.invokevirtual 25, 3) := by decide +kernel
theorem dX6_remember_8 : decode cX6_remember 8 = .ok (.astore_n 2, 1) := by decide +kernel
theorem dX6_remember_9 : decode cX6_remember 9 = .ok (.aload_n 2, 1) := by decide +kernel
theorem dX6_remember_10 : decode cX6_remember 10 = .ok (.ifnull 8, 3) := by decide +kernel
theorem dX6_remember_13 : decode cX6_remember 13 = .ok (.aload_n 2, 1) := by decide +kernel
theorem dX6_remember_14 : decode cX6_remember 14 = .ok (.aload_n 1, 1) := by decide +kernel
theorem dX6_remember_15 : decode cX6_remember 15 = .ok (.invokevirtual 29, 3) := by decide +kernel
theorem dX6_remember_18 : decode cX6_remember 18 = .ok (.aload_n 0, 1) := by decide +kernel
theorem dX6_remember_19 : decode cX6_remember 19 = .ok (.aload_n 0, 1) := by decide +kernel
theorem dX6_remember_20 : decode cX6_remember 20 = .ok (.getfield 22, 3) := by decide +kernel
theorem dX6_remember_23 : decode cX6_remember 23 = .ok (.iconst 1, 1) := by decide +kernel
theorem dX6_remember_24 : decode cX6_remember 24 = .ok (.iadd, 1) := by decide +kernel
theorem dX6_remember_25 : decode cX6_remember 25 = .ok (.bipush 8, 2) := by decide +kernel
theorem dX6_remember_27 : decode cX6_remember 27 = .ok (.if_icmp .ge 12, 3) := by decide +kernel
theorem dX6_remember_30 : decode cX6_remember 30 = .ok (.aload_n 0, 1) := by decide +kernel
theorem dX6_remember_31 : decode cX6_remember 31 = .ok (.getfield 22, 3) := by decide +kernel
theorem dX6_remember_34 : decode cX6_remember 34 = .ok (.iconst 1, 1) := by decide +kernel
theorem dX6_remember_35 : decode cX6_remember 35 = .ok (.iadd, 1) := by decide +kernel
theorem dX6_remember_36 : decode cX6_remember 36 = .ok (.goto 4, 3) := by decide +kernel
theorem dX6_remember_39 : decode cX6_remember 39 = .ok (.iconst 0, 1) := by decide +kernel
theorem dX6_remember_40 : decode cX6_remember 40 = .ok (.putfield 22, 3) := by decide +kernel
theorem dX6_remember_43 : decode cX6_remember 43 = .ok (.aload_n 0, 1) := by decide +kernel
theorem dX6_remember_44 : decode cX6_remember 44 = .ok (.aload_n 0, 1) := by decide +kernel
theorem dX6_remember_45 : decode cX6_remember 45 = .ok (.getfield 18, 3) := by decide +kernel
theorem dX6_remember_48 : decode cX6_remember 48 = .ok (.bipush 8, 2) := by decide +kernel
theorem dX6_remember_50 : decode cX6_remember 50 = .ok (.if_icmp .ge 12, 3) := by decide +kernel
theorem dX6_remember_53 : decode cX6_remember 53 = .ok (.aload_n 0, 1) := by decide +kernel
theorem dX6_remember_54 : decode cX6_remember 54 = .ok (.getfield 18, 3) := by decide +kernel
theorem dX6_remember_57 : decode cX6_remember 57 = .ok (.iconst 1, 1) := by decide +kernel
theorem dX6_remember_58 : decode cX6_remember 58 = .ok (.iadd, 1) := by decide +kernel
theorem dX6_remember_59 : decode cX6_remember 59 = .ok (.goto 7, 3) := by decide +kernel
theorem dX6_remember_62 : decode cX6_remember 62 = .ok (.aload_n 0, 1) := by decide +kernel
theorem dX6_remember_63 : decode cX6_remember 63 = .ok (.getfield 18, 3) := by decide +kernel
theorem dX6_remember_66 : decode cX6_remember 66 = .ok (.putfield 18, 3) := by decide +kernel
theorem dX6_remember_69 : decode cX6_remember 69 = .ok (.return_, 1) := by decide +kernel
def F_X6_remember (y1 : Nat) (S : Nat → Nat → HV) : Option (Nat → Nat → HV) := (if vpb ((S 11 7).1 1) 8 = true then (lt (3 + (((S 11 7).1 1)).toNatClampNeg) fun yx1 => (lt (F_X5_copyFrom yx1 y1 S) fun S9 => (if 8 ≤ (((S9 11 7).1 1) + 1) then (lt (up S9 11 (up (S9 11) 7 (sS (S9 11 7) 1 0))) fun S10 => (if 8 ≤ ((S10 11 7).1 2) then (lt (up S10 11 (up (S10 11) 7 (sS (S10 11 7) 2 ((S10 11 7).1 2)))) fun S11 => some S11) else (lt (up S10 11 (up (S10 11) 7 (sS (S10 11 7) 2 (((S10 11 7).1 2) + 1)))) fun S12 => some S12))) else (lt (up S9 11 (up (S9 11) 7 (sS (S9 11 7) 1 (((S9 11 7).1 1) + 1)))) fun S13 => (if 8 ≤ ((S13 11 7).1 2) then (lt (up S13 11 (up (S13 11) 7 (sS (S13 11 7) 2 ((S13 11 7).1 2)))) fun S14 => some S14) else (lt (up S13 11 (up (S13 11) 7 (sS (S13 11 7) 2 (((S13 11 7).1 2) + 1)))) fun S15 => some S15)))))) else (if 8 ≤ (((S 11 7).1 1) + 1) then (lt (up S 11 (up (S 11) 7 (sS (S 11 7) 1 0))) fun S2 => (if 8 ≤ ((S2 11 7).1 2) then (lt (up S2 11 (up (S2 11) 7 (sS (S2 11 7) 2 ((S2 11 7).1 2)))) fun S3 => some S3) else (lt (up S2 11 (up (S2 11) 7 (sS (S2 11 7) 2 (((S2 11 7).1 2) + 1)))) fun S4 => some S4))) else (lt (up S 11 (up (S 11) 7 (sS (S 11 7) 1 (((S 11 7).1 1) + 1)))) fun S5 => (if 8 ≤ ((S5 11 7).1 2) then (lt (up S5 11 (up (S5 11) 7 (sS (S5 11 7) 2 ((S5 11 7).1 2)))) fun S6 => some S6) else (lt (up S5 11 (up (S5 11) 7 (sS (S5 11 7) 2 (((S5 11 7).1 2) + 1)))) fun S7 => some S7)))))
theorem c_X6_remember {w : WP} (hW : gW w) {Ω : OM}  {S : Nat → Nat → HV} (e : Ω.1 = S) (y1 : Nat) (hy1 : y1 ≤ 10) {S' : Nat → Nat → HV} (hF : F_X6_remember y1 S = some S') {Ω' : OM} (e2 : (S', Ω.2) = Ω') : gM w 5 yX6_remember cX6_remember 3 none [.ref (wAd w (8, 11, 7, 0)), .ref (wAd w (0, y1, 0, 0))] (cA w Ω) none (cA w Ω') := by
  refine gM_of "HedgeMessages$History" rfl (by decide) (kR rfl) fun X C => ?_
  unfold F_X6_remember at hF
  subst e2
  show gV w X _ _ 0 [(0, .ref (wAd w (8, 11, 7, 0))), (1, .ref (wAd w (0, y1, 0, 0)))] []
  refine r_ct (ct' := cA w (S, Ω.2)) (by rw [← e]) ?_
  refine r_aload_n C (k := 0) rfl rfl dX6_remember_0 ?_
  refine r_aload_n C (k := 0) rfl rfl dX6_remember_1 ?_
  refine og_8_1 C (hW.ok k8) (congrFun (congrFun (show (S, Ω.2).1 = S from rfl) 11) 7) wm1_217 dX6_remember_2 ?_
  refine r_callV C (d' := 0) [.int ((S 11 7).1 1)] (c_X6_stateAt hW ((S 11 7).1 1)) myX6_stateAt wm4_6 ⟨_, _, _, _, (hW.ok k8), rfl, rfl, rfl, rfl⟩ rfl (kR rfl) (by decide) (kR rfl) rfl dX6_remember_5 ?_
  refine r_astoreq_n C (lo' := [(2, va_rf (dHist w ((S 11 7).1 1))), (0, .ref (wAd w (8, 11, 7, 0))), (1, .ref (wAd w (0, y1, 0, 0)))]) rfl (by decide) rfl dX6_remember_8 ?_
  refine r_aloadq_n C (k := 0) rfl rfl dX6_remember_9 ?_
  by_cases hc : vpb ((S 11 7).1 1) 8 = true
  · rw [if_pos hc] at hF
    obtain ⟨yx1, eyx1, hF⟩ := lt_e hF
    have hyx1 : yx1 ≤ 10 := by rw [← eyx1]; exact dH_le hc
    rw [dH_s hc, eyx1]
    refine r_ifnull C dX6_remember_10 ?_
    refine r_lq (lo' := [(2, .ref (wAd w (0, yx1, 0, 0))), (0, .ref (wAd w (8, 11, 7, 0))), (1, .ref (wAd w (0, y1, 0, 0)))]) rfl ?_
    refine r_aload_n C (k := 0) rfl rfl dX6_remember_13 ?_
    refine r_aload_n C (k := 2) rfl rfl dX6_remember_14 ?_
    obtain ⟨S9, hS9, hF⟩ := lt_e hF
    refine r_callV C (d' := 4) [.ref (wAd w (0, y1, 0, 0))] (c_X5_copyFrom hW hyx1 hy1 (show (S, Ω.2).1 = S from rfl) hS9 rfl) myX5_copyFrom wm4_10 ⟨_, _, _, _, (hW.ok (k0 hyx1)), rfl, rfl, rfl, rfl⟩ rfl (kR rfl) (by decide) (kR rfl) rfl dX6_remember_15 ?_
    refine r_aload_n C (k := 1) rfl rfl dX6_remember_18 ?_
    refine r_aload_n C (k := 1) rfl rfl dX6_remember_19 ?_
    refine og_8_1 C (hW.ok k8) (congrFun (congrFun (show (S9, Ω.2).1 = S9 from rfl) 11) 7) wm1_217 dX6_remember_20 ?_
    refine r_iconst C (v := 1) rfl dX6_remember_23 ?_
    refine r_iadd C dX6_remember_24 ?_
    refine r_bipush C (v := 8) rfl dX6_remember_25 ?_
    refine r_icmp_ge C (tgt := 39) rfl dX6_remember_27 (fun hc => ?_) (fun hc => ?_)
    · rw [if_pos hc] at hF
      refine r_iconst C (v := 0) rfl dX6_remember_39 ?_
      obtain ⟨S10, eS10, hF⟩ := lt_e hF
      refine op_8_1 C hW.x (Or.inl k8) (hW.fr k8) (congrFun (congrFun (show (S9, Ω.2).1 = S9 from rfl) 11) 7) wm1_217 dX6_remember_40 (congrArg (fun z => (z, Ω.2)) eS10) ?_
      refine r_aload_n C (k := 1) rfl rfl dX6_remember_43 ?_
      refine r_aload_n C (k := 1) rfl rfl dX6_remember_44 ?_
      refine og_8_2 C (hW.ok k8) (congrFun (congrFun (show (S10, Ω.2).1 = S10 from rfl) 11) 7) wm1_218 dX6_remember_45 ?_
      refine r_bipush C (v := 8) rfl dX6_remember_48 ?_
      refine r_icmp_ge C (tgt := 62) rfl dX6_remember_50 (fun hc => ?_) (fun hc => ?_)
      · rw [if_pos hc] at hF
        refine r_aload_n C (k := 1) rfl rfl dX6_remember_62 ?_
        refine og_8_2 C (hW.ok k8) (congrFun (congrFun (show (S10, Ω.2).1 = S10 from rfl) 11) 7) wm1_218 dX6_remember_63 ?_
        obtain ⟨S11, eS11, hF⟩ := lt_e hF
        refine op_8_2 C hW.x (Or.inl k8) (hW.fr k8) (congrFun (congrFun (show (S10, Ω.2).1 = S10 from rfl) 11) 7) wm1_218 dX6_remember_66 (congrArg (fun z => (z, Ω.2)) eS11) ?_
        cases hF
        exact r_return C dX6_remember_69
      · rw [if_neg hc] at hF
        refine r_aload_n C (k := 1) rfl rfl dX6_remember_53 ?_
        refine og_8_2 C (hW.ok k8) (congrFun (congrFun (show (S10, Ω.2).1 = S10 from rfl) 11) 7) wm1_218 dX6_remember_54 ?_
        refine r_iconst C (v := 1) rfl dX6_remember_57 ?_
        refine r_iadd C dX6_remember_58 ?_
        refine r_goto C (tgt := 66) rfl dX6_remember_59 ?_
        obtain ⟨S12, eS12, hF⟩ := lt_e hF
        refine op_8_2 C hW.x (Or.inl k8) (hW.fr k8) (congrFun (congrFun (show (S10, Ω.2).1 = S10 from rfl) 11) 7) wm1_218 dX6_remember_66 (congrArg (fun z => (z, Ω.2)) eS12) ?_
        cases hF
        exact r_return C dX6_remember_69
    · rw [if_neg hc] at hF
      refine r_aload_n C (k := 1) rfl rfl dX6_remember_30 ?_
      refine og_8_1 C (hW.ok k8) (congrFun (congrFun (show (S9, Ω.2).1 = S9 from rfl) 11) 7) wm1_217 dX6_remember_31 ?_
      refine r_iconst C (v := 1) rfl dX6_remember_34 ?_
      refine r_iadd C dX6_remember_35 ?_
      refine r_goto C (tgt := 40) rfl dX6_remember_36 ?_
      obtain ⟨S13, eS13, hF⟩ := lt_e hF
      refine op_8_1 C hW.x (Or.inl k8) (hW.fr k8) (congrFun (congrFun (show (S9, Ω.2).1 = S9 from rfl) 11) 7) wm1_217 dX6_remember_40 (congrArg (fun z => (z, Ω.2)) eS13) ?_
      refine r_aload_n C (k := 1) rfl rfl dX6_remember_43 ?_
      refine r_aload_n C (k := 1) rfl rfl dX6_remember_44 ?_
      refine og_8_2 C (hW.ok k8) (congrFun (congrFun (show (S13, Ω.2).1 = S13 from rfl) 11) 7) wm1_218 dX6_remember_45 ?_
      refine r_bipush C (v := 8) rfl dX6_remember_48 ?_
      refine r_icmp_ge C (tgt := 62) rfl dX6_remember_50 (fun hc => ?_) (fun hc => ?_)
      · rw [if_pos hc] at hF
        refine r_aload_n C (k := 1) rfl rfl dX6_remember_62 ?_
        refine og_8_2 C (hW.ok k8) (congrFun (congrFun (show (S13, Ω.2).1 = S13 from rfl) 11) 7) wm1_218 dX6_remember_63 ?_
        obtain ⟨S14, eS14, hF⟩ := lt_e hF
        refine op_8_2 C hW.x (Or.inl k8) (hW.fr k8) (congrFun (congrFun (show (S13, Ω.2).1 = S13 from rfl) 11) 7) wm1_218 dX6_remember_66 (congrArg (fun z => (z, Ω.2)) eS14) ?_
        cases hF
        exact r_return C dX6_remember_69
      · rw [if_neg hc] at hF
        refine r_aload_n C (k := 1) rfl rfl dX6_remember_53 ?_
        refine og_8_2 C (hW.ok k8) (congrFun (congrFun (show (S13, Ω.2).1 = S13 from rfl) 11) 7) wm1_218 dX6_remember_54 ?_
        refine r_iconst C (v := 1) rfl dX6_remember_57 ?_
        refine r_iadd C dX6_remember_58 ?_
        refine r_goto C (tgt := 66) rfl dX6_remember_59 ?_
        obtain ⟨S15, eS15, hF⟩ := lt_e hF
        refine op_8_2 C hW.x (Or.inl k8) (hW.fr k8) (congrFun (congrFun (show (S13, Ω.2).1 = S13 from rfl) 11) 7) wm1_218 dX6_remember_66 (congrArg (fun z => (z, Ω.2)) eS15) ?_
        cases hF
        exact r_return C dX6_remember_69
  · rw [if_neg hc] at hF
    rw [dH_n hc]
    refine r_ifnullN C (tgt := 18) rfl dX6_remember_10 ?_
    refine r_lq (lo' := [(2, .null), (0, .ref (wAd w (8, 11, 7, 0))), (1, .ref (wAd w (0, y1, 0, 0)))]) rfl ?_
    refine r_aload_n C (k := 1) rfl rfl dX6_remember_18 ?_
    refine r_aload_n C (k := 1) rfl rfl dX6_remember_19 ?_
    refine og_8_1 C (hW.ok k8) (congrFun (congrFun (show (S, Ω.2).1 = S from rfl) 11) 7) wm1_217 dX6_remember_20 ?_
    refine r_iconst C (v := 1) rfl dX6_remember_23 ?_
    refine r_iadd C dX6_remember_24 ?_
    refine r_bipush C (v := 8) rfl dX6_remember_25 ?_
    refine r_icmp_ge C (tgt := 39) rfl dX6_remember_27 (fun hc => ?_) (fun hc => ?_)
    · rw [if_pos hc] at hF
      refine r_iconst C (v := 0) rfl dX6_remember_39 ?_
      obtain ⟨S2, eS2, hF⟩ := lt_e hF
      refine op_8_1 C hW.x (Or.inl k8) (hW.fr k8) (congrFun (congrFun (show (S, Ω.2).1 = S from rfl) 11) 7) wm1_217 dX6_remember_40 (congrArg (fun z => (z, Ω.2)) eS2) ?_
      refine r_aload_n C (k := 1) rfl rfl dX6_remember_43 ?_
      refine r_aload_n C (k := 1) rfl rfl dX6_remember_44 ?_
      refine og_8_2 C (hW.ok k8) (congrFun (congrFun (show (S2, Ω.2).1 = S2 from rfl) 11) 7) wm1_218 dX6_remember_45 ?_
      refine r_bipush C (v := 8) rfl dX6_remember_48 ?_
      refine r_icmp_ge C (tgt := 62) rfl dX6_remember_50 (fun hc => ?_) (fun hc => ?_)
      · rw [if_pos hc] at hF
        refine r_aload_n C (k := 1) rfl rfl dX6_remember_62 ?_
        refine og_8_2 C (hW.ok k8) (congrFun (congrFun (show (S2, Ω.2).1 = S2 from rfl) 11) 7) wm1_218 dX6_remember_63 ?_
        obtain ⟨S3, eS3, hF⟩ := lt_e hF
        refine op_8_2 C hW.x (Or.inl k8) (hW.fr k8) (congrFun (congrFun (show (S2, Ω.2).1 = S2 from rfl) 11) 7) wm1_218 dX6_remember_66 (congrArg (fun z => (z, Ω.2)) eS3) ?_
        cases hF
        exact r_return C dX6_remember_69
      · rw [if_neg hc] at hF
        refine r_aload_n C (k := 1) rfl rfl dX6_remember_53 ?_
        refine og_8_2 C (hW.ok k8) (congrFun (congrFun (show (S2, Ω.2).1 = S2 from rfl) 11) 7) wm1_218 dX6_remember_54 ?_
        refine r_iconst C (v := 1) rfl dX6_remember_57 ?_
        refine r_iadd C dX6_remember_58 ?_
        refine r_goto C (tgt := 66) rfl dX6_remember_59 ?_
        obtain ⟨S4, eS4, hF⟩ := lt_e hF
        refine op_8_2 C hW.x (Or.inl k8) (hW.fr k8) (congrFun (congrFun (show (S2, Ω.2).1 = S2 from rfl) 11) 7) wm1_218 dX6_remember_66 (congrArg (fun z => (z, Ω.2)) eS4) ?_
        cases hF
        exact r_return C dX6_remember_69
    · rw [if_neg hc] at hF
      refine r_aload_n C (k := 1) rfl rfl dX6_remember_30 ?_
      refine og_8_1 C (hW.ok k8) (congrFun (congrFun (show (S, Ω.2).1 = S from rfl) 11) 7) wm1_217 dX6_remember_31 ?_
      refine r_iconst C (v := 1) rfl dX6_remember_34 ?_
      refine r_iadd C dX6_remember_35 ?_
      refine r_goto C (tgt := 40) rfl dX6_remember_36 ?_
      obtain ⟨S5, eS5, hF⟩ := lt_e hF
      refine op_8_1 C hW.x (Or.inl k8) (hW.fr k8) (congrFun (congrFun (show (S, Ω.2).1 = S from rfl) 11) 7) wm1_217 dX6_remember_40 (congrArg (fun z => (z, Ω.2)) eS5) ?_
      refine r_aload_n C (k := 1) rfl rfl dX6_remember_43 ?_
      refine r_aload_n C (k := 1) rfl rfl dX6_remember_44 ?_
      refine og_8_2 C (hW.ok k8) (congrFun (congrFun (show (S5, Ω.2).1 = S5 from rfl) 11) 7) wm1_218 dX6_remember_45 ?_
      refine r_bipush C (v := 8) rfl dX6_remember_48 ?_
      refine r_icmp_ge C (tgt := 62) rfl dX6_remember_50 (fun hc => ?_) (fun hc => ?_)
      · rw [if_pos hc] at hF
        refine r_aload_n C (k := 1) rfl rfl dX6_remember_62 ?_
        refine og_8_2 C (hW.ok k8) (congrFun (congrFun (show (S5, Ω.2).1 = S5 from rfl) 11) 7) wm1_218 dX6_remember_63 ?_
        obtain ⟨S6, eS6, hF⟩ := lt_e hF
        refine op_8_2 C hW.x (Or.inl k8) (hW.fr k8) (congrFun (congrFun (show (S5, Ω.2).1 = S5 from rfl) 11) 7) wm1_218 dX6_remember_66 (congrArg (fun z => (z, Ω.2)) eS6) ?_
        cases hF
        exact r_return C dX6_remember_69
      · rw [if_neg hc] at hF
        refine r_aload_n C (k := 1) rfl rfl dX6_remember_53 ?_
        refine og_8_2 C (hW.ok k8) (congrFun (congrFun (show (S5, Ω.2).1 = S5 from rfl) 11) 7) wm1_218 dX6_remember_54 ?_
        refine r_iconst C (v := 1) rfl dX6_remember_57 ?_
        refine r_iadd C dX6_remember_58 ?_
        refine r_goto C (tgt := 66) rfl dX6_remember_59 ?_
        obtain ⟨S7, eS7, hF⟩ := lt_e hF
        refine op_8_2 C hW.x (Or.inl k8) (hW.fr k8) (congrFun (congrFun (show (S5, Ω.2).1 = S5 from rfl) 11) 7) wm1_218 dX6_remember_66 (congrArg (fun z => (z, Ω.2)) eS7) ?_
        cases hF
        exact r_return C dX6_remember_69
theorem dX6_takeBack_0 : decode cX6_takeBack 0 = .ok (.aload_n 0, 1) := by decide +kernel
theorem dX6_takeBack_1 : decode cX6_takeBack 1 = .ok (.aload_n 0, 1) := by decide +kernel
theorem dX6_takeBack_2 : decode cX6_takeBack 2 = .ok (.getfield 22, 3) := by decide +kernel
theorem dX6_takeBack_5 : decode cX6_takeBack 5 = .ok (.ifCond .le 12, 3) := by decide +kernel
theorem dX6_takeBack_8 : decode cX6_takeBack 8 = .ok (.aload_n 0, 1) := by decide +kernel
theorem dX6_takeBack_9 : decode cX6_takeBack 9 = .ok (.getfield 22, 3) := by decide +kernel
theorem dX6_takeBack_12 : decode cX6_takeBack 12 = .ok (.iconst 1, 1) := by decide +kernel
theorem dX6_takeBack_13 : decode cX6_takeBack 13 = .ok (.isub, 1) := by decide +kernel
theorem dX6_takeBack_14 : decode cX6_takeBack 14 = .ok (.goto 5, 3) := by decide +kernel
theorem dX6_takeBack_17 : decode cX6_takeBack 17 = .ok (.bipush 7, 2) := by decide +kernel
theorem dX6_takeBack_19 : decode cX6_takeBack 19 = .ok (.putfield 22, 3) := by decide +kernel
theorem dX6_takeBack_22 : decode cX6_takeBack 22 = .ok (.aload_n 0, 1) := by decide +kernel
theorem dX6_takeBack_23 : decode cX6_takeBack 23 = .ok (.dup, 1) := by decide +kernel
theorem dX6_takeBack_24 : decode cX6_takeBack 24 = .ok (.getfield 18, 3) := by decide +kernel
theorem dX6_takeBack_27 : decode cX6_takeBack 27 = .ok (.iconst 1, 1) := by decide +kernel
theorem dX6_takeBack_28 : decode cX6_takeBack 28 = .ok (.isub, 1) := by decide +kernel
theorem dX6_takeBack_29 : decode cX6_takeBack 29 = .ok (.putfield 18, 3) := by decide +kernel
theorem dX6_takeBack_32 : decode cX6_takeBack 32 = .ok (.aload_n 0, 1) := by decide +kernel
theorem dX6_takeBack_33 : decode cX6_takeBack 33 = .ok (.aload_n 0, 1) := by decide +kernel
theorem dX6_takeBack_34 : decode cX6_takeBack 34 = .ok (.getfield 22, 3) := by decide +kernel
theorem dX6_takeBack_37 : decode cX6_takeBack 37 = .ok (.invokevirtual 25, 3) := by decide +kernel
theorem dX6_takeBack_40 : decode cX6_takeBack 40 = .ok (.astore_n 2, 1) := by decide +kernel
theorem dX6_takeBack_41 : decode cX6_takeBack 41 = .ok (.aload_n 2, 1) := by decide +kernel
theorem dX6_takeBack_42 : decode cX6_takeBack 42 = .ok (.ifnull 8, 3) := by decide +kernel
theorem dX6_takeBack_45 : decode cX6_takeBack 45 = .ok (.aload_n 1, 1) := by decide +kernel
theorem dX6_takeBack_46 : decode cX6_takeBack 46 = .ok (.aload_n 2, 1) := by decide +kernel
theorem dX6_takeBack_47 : decode cX6_takeBack 47 = .ok (.invokevirtual 29, 3) := by decide +kernel
theorem dX6_takeBack_50 : decode cX6_takeBack 50 = .ok (.return_, 1) := by decide +kernel
def F_X6_takeBack (y1 : Nat) (S : Nat → Nat → HV) : Option (Nat → Nat → HV) := (if ((S 11 7).1 1) ≤ 0 then (lt (up S 11 (up (S 11) 7 (sS (S 11 7) 1 7))) fun S1 => (lt (up S1 11 (up (S1 11) 7 (sS (S1 11 7) 2 (((S1 11 7).1 2) - 1)))) fun S2 => (if vpb ((S2 11 7).1 1) 8 = true then (lt (3 + (((S2 11 7).1 1)).toNatClampNeg) fun yx3 => (lt (F_X5_copyFrom y1 yx3 S2) fun S5 => some S5)) else some S2))) else (lt (up S 11 (up (S 11) 7 (sS (S 11 7) 1 (((S 11 7).1 1) - 1)))) fun S6 => (lt (up S6 11 (up (S6 11) 7 (sS (S6 11 7) 2 (((S6 11 7).1 2) - 1)))) fun S7 => (if vpb ((S7 11 7).1 1) 8 = true then (lt (3 + (((S7 11 7).1 1)).toNatClampNeg) fun yx8 => (lt (F_X5_copyFrom y1 yx8 S7) fun S10 => some S10)) else some S7))))
theorem c_X6_takeBack {w : WP} (hW : gW w) {Ω : OM}  {S : Nat → Nat → HV} (e : Ω.1 = S) (y1 : Nat) (hy1 : y1 ≤ 10) {S' : Nat → Nat → HV} (hF : F_X6_takeBack y1 S = some S') {Ω' : OM} (e2 : (S', Ω.2) = Ω') : gM w 5 yX6_takeBack cX6_takeBack 3 none [.ref (wAd w (8, 11, 7, 0)), .ref (wAd w (0, y1, 0, 0))] (cA w Ω) none (cA w Ω') := by
  refine gM_of "HedgeMessages$History" rfl (by decide) (kR rfl) fun X C => ?_
  unfold F_X6_takeBack at hF
  subst e2
  show gV w X _ _ 0 [(0, .ref (wAd w (8, 11, 7, 0))), (1, .ref (wAd w (0, y1, 0, 0)))] []
  refine r_ct (ct' := cA w (S, Ω.2)) (by rw [← e]) ?_
  refine r_aload_n C (k := 0) rfl rfl dX6_takeBack_0 ?_
  refine r_aload_n C (k := 0) rfl rfl dX6_takeBack_1 ?_
  refine og_8_1 C (hW.ok k8) (congrFun (congrFun (show (S, Ω.2).1 = S from rfl) 11) 7) wm1_217 dX6_takeBack_2 ?_
  refine r_if_le C (tgt := 17) rfl dX6_takeBack_5 (fun hc => ?_) (fun hc => ?_)
  · rw [if_pos hc] at hF
    refine r_bipush C (v := 7) rfl dX6_takeBack_17 ?_
    obtain ⟨S1, eS1, hF⟩ := lt_e hF
    refine op_8_1 C hW.x (Or.inl k8) (hW.fr k8) (congrFun (congrFun (show (S, Ω.2).1 = S from rfl) 11) 7) wm1_217 dX6_takeBack_19 (congrArg (fun z => (z, Ω.2)) eS1) ?_
    refine r_aload_n C (k := 0) rfl rfl dX6_takeBack_22 ?_
    refine r_dup C rfl dX6_takeBack_23 ?_
    refine og_8_2 C (hW.ok k8) (congrFun (congrFun (show (S1, Ω.2).1 = S1 from rfl) 11) 7) wm1_218 dX6_takeBack_24 ?_
    refine r_iconst C (v := 1) rfl dX6_takeBack_27 ?_
    refine r_isub C dX6_takeBack_28 ?_
    obtain ⟨S2, eS2, hF⟩ := lt_e hF
    refine op_8_2 C hW.x (Or.inl k8) (hW.fr k8) (congrFun (congrFun (show (S1, Ω.2).1 = S1 from rfl) 11) 7) wm1_218 dX6_takeBack_29 (congrArg (fun z => (z, Ω.2)) eS2) ?_
    refine r_aload_n C (k := 0) rfl rfl dX6_takeBack_32 ?_
    refine r_aload_n C (k := 0) rfl rfl dX6_takeBack_33 ?_
    refine og_8_1 C (hW.ok k8) (congrFun (congrFun (show (S2, Ω.2).1 = S2 from rfl) 11) 7) wm1_217 dX6_takeBack_34 ?_
    refine r_callV C (d' := 0) [.int ((S2 11 7).1 1)] (c_X6_stateAt hW ((S2 11 7).1 1)) myX6_stateAt wm4_6 ⟨_, _, _, _, (hW.ok k8), rfl, rfl, rfl, rfl⟩ rfl (kR rfl) (by decide) (kR rfl) rfl dX6_takeBack_37 ?_
    refine r_astoreq_n C (lo' := [(2, va_rf (dHist w ((S2 11 7).1 1))), (0, .ref (wAd w (8, 11, 7, 0))), (1, .ref (wAd w (0, y1, 0, 0)))]) rfl (by decide) rfl dX6_takeBack_40 ?_
    refine r_aloadq_n C (k := 0) rfl rfl dX6_takeBack_41 ?_
    by_cases hc : vpb ((S2 11 7).1 1) 8 = true
    · rw [if_pos hc] at hF
      obtain ⟨yx3, eyx3, hF⟩ := lt_e hF
      have hyx3 : yx3 ≤ 10 := by rw [← eyx3]; exact dH_le hc
      rw [dH_s hc, eyx3]
      refine r_ifnull C dX6_takeBack_42 ?_
      refine r_lq (lo' := [(2, .ref (wAd w (0, yx3, 0, 0))), (0, .ref (wAd w (8, 11, 7, 0))), (1, .ref (wAd w (0, y1, 0, 0)))]) rfl ?_
      refine r_aload_n C (k := 2) rfl rfl dX6_takeBack_45 ?_
      refine r_aload_n C (k := 0) rfl rfl dX6_takeBack_46 ?_
      obtain ⟨S5, hS5, hF⟩ := lt_e hF
      refine r_callV C (d' := 4) [.ref (wAd w (0, yx3, 0, 0))] (c_X5_copyFrom hW hy1 hyx3 (show (S2, Ω.2).1 = S2 from rfl) hS5 rfl) myX5_copyFrom wm4_10 ⟨_, _, _, _, (hW.ok (k0 hy1)), rfl, rfl, rfl, rfl⟩ rfl (kR rfl) (by decide) (kR rfl) rfl dX6_takeBack_47 ?_
      cases hF
      exact r_return C dX6_takeBack_50
    · rw [if_neg hc] at hF
      rw [dH_n hc]
      refine r_ifnullN C (tgt := 50) rfl dX6_takeBack_42 ?_
      refine r_lq (lo' := [(2, .null), (0, .ref (wAd w (8, 11, 7, 0))), (1, .ref (wAd w (0, y1, 0, 0)))]) rfl ?_
      cases hF
      exact r_return C dX6_takeBack_50
  · rw [if_neg hc] at hF
    refine r_aload_n C (k := 0) rfl rfl dX6_takeBack_8 ?_
    refine og_8_1 C (hW.ok k8) (congrFun (congrFun (show (S, Ω.2).1 = S from rfl) 11) 7) wm1_217 dX6_takeBack_9 ?_
    refine r_iconst C (v := 1) rfl dX6_takeBack_12 ?_
    refine r_isub C dX6_takeBack_13 ?_
    refine r_goto C (tgt := 19) rfl dX6_takeBack_14 ?_
    obtain ⟨S6, eS6, hF⟩ := lt_e hF
    refine op_8_1 C hW.x (Or.inl k8) (hW.fr k8) (congrFun (congrFun (show (S, Ω.2).1 = S from rfl) 11) 7) wm1_217 dX6_takeBack_19 (congrArg (fun z => (z, Ω.2)) eS6) ?_
    refine r_aload_n C (k := 0) rfl rfl dX6_takeBack_22 ?_
    refine r_dup C rfl dX6_takeBack_23 ?_
    refine og_8_2 C (hW.ok k8) (congrFun (congrFun (show (S6, Ω.2).1 = S6 from rfl) 11) 7) wm1_218 dX6_takeBack_24 ?_
    refine r_iconst C (v := 1) rfl dX6_takeBack_27 ?_
    refine r_isub C dX6_takeBack_28 ?_
    obtain ⟨S7, eS7, hF⟩ := lt_e hF
    refine op_8_2 C hW.x (Or.inl k8) (hW.fr k8) (congrFun (congrFun (show (S6, Ω.2).1 = S6 from rfl) 11) 7) wm1_218 dX6_takeBack_29 (congrArg (fun z => (z, Ω.2)) eS7) ?_
    refine r_aload_n C (k := 0) rfl rfl dX6_takeBack_32 ?_
    refine r_aload_n C (k := 0) rfl rfl dX6_takeBack_33 ?_
    refine og_8_1 C (hW.ok k8) (congrFun (congrFun (show (S7, Ω.2).1 = S7 from rfl) 11) 7) wm1_217 dX6_takeBack_34 ?_
    refine r_callV C (d' := 0) [.int ((S7 11 7).1 1)] (c_X6_stateAt hW ((S7 11 7).1 1)) myX6_stateAt wm4_6 ⟨_, _, _, _, (hW.ok k8), rfl, rfl, rfl, rfl⟩ rfl (kR rfl) (by decide) (kR rfl) rfl dX6_takeBack_37 ?_
    refine r_astoreq_n C (lo' := [(2, va_rf (dHist w ((S7 11 7).1 1))), (0, .ref (wAd w (8, 11, 7, 0))), (1, .ref (wAd w (0, y1, 0, 0)))]) rfl (by decide) rfl dX6_takeBack_40 ?_
    refine r_aloadq_n C (k := 0) rfl rfl dX6_takeBack_41 ?_
    by_cases hc : vpb ((S7 11 7).1 1) 8 = true
    · rw [if_pos hc] at hF
      obtain ⟨yx8, eyx8, hF⟩ := lt_e hF
      have hyx8 : yx8 ≤ 10 := by rw [← eyx8]; exact dH_le hc
      rw [dH_s hc, eyx8]
      refine r_ifnull C dX6_takeBack_42 ?_
      refine r_lq (lo' := [(2, .ref (wAd w (0, yx8, 0, 0))), (0, .ref (wAd w (8, 11, 7, 0))), (1, .ref (wAd w (0, y1, 0, 0)))]) rfl ?_
      refine r_aload_n C (k := 2) rfl rfl dX6_takeBack_45 ?_
      refine r_aload_n C (k := 0) rfl rfl dX6_takeBack_46 ?_
      obtain ⟨S10, hS10, hF⟩ := lt_e hF
      refine r_callV C (d' := 4) [.ref (wAd w (0, yx8, 0, 0))] (c_X5_copyFrom hW hy1 hyx8 (show (S7, Ω.2).1 = S7 from rfl) hS10 rfl) myX5_copyFrom wm4_10 ⟨_, _, _, _, (hW.ok (k0 hy1)), rfl, rfl, rfl, rfl⟩ rfl (kR rfl) (by decide) (kR rfl) rfl dX6_takeBack_47 ?_
      cases hF
      exact r_return C dX6_takeBack_50
    · rw [if_neg hc] at hF
      rw [dH_n hc]
      refine r_ifnullN C (tgt := 50) rfl dX6_takeBack_42 ?_
      refine r_lq (lo' := [(2, .null), (0, .ref (wAd w (8, 11, 7, 0))), (1, .ref (wAd w (0, y1, 0, 0)))]) rfl ?_
      cases hF
      exact r_return C dX6_takeBack_50
