/-! ===== 10.gard: printed by wip/p66/gen.py ===== -/
theorem dX4_isWriting_0 : decode cX4_isWriting 0 = .ok (.aload_n 0, 1) := by decide +kernel
theorem dX4_isWriting_1 : decode cX4_isWriting 1 = .ok (.getfield 49, 3) := by decide +kernel
theorem dX4_isWriting_4 : decode cX4_isWriting 4 = .ok (.ifCond .le 7, 3) := by decide +kernel
theorem dX4_isWriting_7 : decode cX4_isWriting 7 = .ok (.iconst 1, 1) := by decide +kernel
theorem dX4_isWriting_8 : decode cX4_isWriting 8 = .ok (.goto 4, 3) := by decide +kernel
theorem dX4_isWriting_11 : decode cX4_isWriting 11 = .ok (.iconst 0, 1) := by decide +kernel
theorem dX4_isWriting_12 : decode cX4_isWriting 12 = .ok (.ireturn, 1) := by decide +kernel
def F_X4_isWriting (g : HV) : Bool := (if (g.1 4) ≤ 0 then false else true)
theorem c_X4_isWriting {w : WP} (hW : gW w) {Ω : OM} {j p : Nat} (hj : j ≤ 10) (hp : p = 1 ∨ p = 2) {g : HV} (e : Ω.1 j p = g)  {v : Bool} (hF : F_X4_isWriting g = v) : gM w 0 yX4_isWriting cX4_isWriting 1 (some .boolean) [.ref (wAd w (1, j, p, 0))] (cA w Ω) (some (.int (b2i v))) (cA w Ω) := by
  refine gM_of "HedgeMessages$Gardener" rfl (by decide) (kR rfl) fun X C => ?_
  unfold F_X4_isWriting at hF
  show gV w X _ _ 0 [(0, .ref (wAd w (1, j, p, 0)))] []
  refine r_aload_n C (k := 0) rfl rfl dX4_isWriting_0 ?_
  refine og_1_4 C (hW.ok (k1 hj hp)) e wm1_69 dX4_isWriting_1 ?_
  refine r_if_le C (tgt := 11) rfl dX4_isWriting_4 (fun hc => ?_) (fun hc => ?_)
  · rw [if_pos hc] at hF
    refine r_iconst C (v := 0) rfl dX4_isWriting_11 ?_
    cases hF
    exact r_zreturn C false rfl dX4_isWriting_12
  · rw [if_neg hc] at hF
    refine r_iconst C (v := 1) rfl dX4_isWriting_7 ?_
    refine r_goto C (tgt := 12) rfl dX4_isWriting_8 ?_
    cases hF
    exact r_zreturn C true rfl dX4_isWriting_12
theorem dX4_stopWriting_0 : decode cX4_stopWriting 0 = .ok (.aload_n 0, 1) := by decide +kernel
theorem dX4_stopWriting_1 : decode cX4_stopWriting 1 = .ok (.iconst 0, 1) := by decide +kernel
theorem dX4_stopWriting_2 : decode cX4_stopWriting 2 = .ok (.putfield 46, 3) := by decide +kernel
theorem dX4_stopWriting_5 : decode cX4_stopWriting 5 = .ok (.aload_n 0, 1) := by decide +kernel
theorem dX4_stopWriting_6 : decode cX4_stopWriting 6 = .ok (.iconst 0, 1) := by decide +kernel
theorem dX4_stopWriting_7 : decode cX4_stopWriting 7 = .ok (.putfield 49, 3) := by decide +kernel
theorem dX4_stopWriting_10 : decode cX4_stopWriting 10 = .ok (.aload_n 0, 1) := by decide +kernel
theorem dX4_stopWriting_11 : decode cX4_stopWriting 11 = .ok (.iconst 0, 1) := by decide +kernel
theorem dX4_stopWriting_12 : decode cX4_stopWriting 12 = .ok (.putfield 52, 3) := by decide +kernel
theorem dX4_stopWriting_15 : decode cX4_stopWriting 15 = .ok (.return_, 1) := by decide +kernel
def F_X4_stopWriting (g : HV) : HV := (lt (sS g 3 0) fun g1 => (lt (sS g1 4 0) fun g2 => (lt (sS g2 5 0) fun g3 => g3)))
theorem c_X4_stopWriting {w : WP} (hW : gW w) {Ω : OM} {j p : Nat} (hj : j ≤ 10) (hp : p = 1 ∨ p = 2) {g : HV} (e : Ω.1 j p = g)  {g' : HV} (hF : F_X4_stopWriting g = g') {Ω' : OM} (e2 : (sP Ω j p g') = Ω') : gM w 0 yX4_stopWriting cX4_stopWriting 1 none [.ref (wAd w (1, j, p, 0))] (cA w Ω) none (cA w Ω') := by
  refine gM_of "HedgeMessages$Gardener" rfl (by decide) (kR rfl) fun X C => ?_
  unfold F_X4_stopWriting at hF
  subst e2
  show gV w X _ _ 0 [(0, .ref (wAd w (1, j, p, 0)))] []
  refine r_ct (ct' := cA w (sP Ω j p g)) (congrArg (cA w) (sP_i e).symm) ?_
  refine r_aload_n C (k := 0) rfl rfl dX4_stopWriting_0 ?_
  refine r_iconst C (v := 0) rfl dX4_stopWriting_1 ?_
  obtain ⟨g1, eg1, hF⟩ := lt_e hF
  refine op_1_3 C hW.x (Or.inl (k1 hj hp)) (hW.fr (k1 hj hp)) (sP_g (Ω := Ω) (j := j) (p := p) (g := g)) wm1_66 dX4_stopWriting_2 (sP_P.trans (congrArg (sP Ω j p) eg1)) ?_
  refine r_aload_n C (k := 0) rfl rfl dX4_stopWriting_5 ?_
  refine r_iconst C (v := 0) rfl dX4_stopWriting_6 ?_
  obtain ⟨g2, eg2, hF⟩ := lt_e hF
  refine op_1_4 C hW.x (Or.inl (k1 hj hp)) (hW.fr (k1 hj hp)) (sP_g (Ω := Ω) (j := j) (p := p) (g := g1)) wm1_69 dX4_stopWriting_7 (sP_P.trans (congrArg (sP Ω j p) eg2)) ?_
  refine r_aload_n C (k := 0) rfl rfl dX4_stopWriting_10 ?_
  refine r_iconst C (v := 0) rfl dX4_stopWriting_11 ?_
  obtain ⟨g3, eg3, hF⟩ := lt_e hF
  refine op_1_5 C hW.x (Or.inl (k1 hj hp)) (hW.fr (k1 hj hp)) (sP_g (Ω := Ω) (j := j) (p := p) (g := g2)) wm1_71 dX4_stopWriting_12 (sP_P.trans (congrArg (sP Ω j p) eg3)) ?_
  cases hF
  exact r_return C dX4_stopWriting_15
theorem dX4_hasPending_0 : decode cX4_hasPending 0 = .ok (.iload_n 1, 1) := by decide +kernel
theorem dX4_hasPending_1 : decode cX4_hasPending 1 = .ok (.ifCond .lt 15, 3) := by decide +kernel
theorem dX4_hasPending_4 : decode cX4_hasPending 4 = .ok (.iload_n 1, 1) := by decide +kernel
theorem dX4_hasPending_5 : decode cX4_hasPending 5 = .ok (.aload_n 0, 1) := by decide +kernel
theorem dX4_hasPending_6 : decode cX4_hasPending 6 = .ok (.getfield 23, 3) := by decide +kernel
theorem dX4_hasPending_9 : decode cX4_hasPending 9 = .ok (.if_icmp .ge 7, 3) := by decide +kernel
theorem dX4_hasPending_12 : decode cX4_hasPending 12 = .ok (.iconst 1, 1) := by decide +kernel
theorem dX4_hasPending_13 : decode cX4_hasPending 13 = .ok (.goto 4, 3) := by decide +kernel
theorem dX4_hasPending_16 : decode cX4_hasPending 16 = .ok (.iconst 0, 1) := by decide +kernel
theorem dX4_hasPending_17 : decode cX4_hasPending 17 = .ok (.ireturn, 1) := by decide +kernel
def F_X4_hasPending (a1 : Int32) (g : HV) : Bool := (if a1 < 0 then false else (if (g.1 2) ≤ a1 then false else true))
theorem c_X4_hasPending {w : WP} (hW : gW w) {Ω : OM} {j p : Nat} (hj : j ≤ 10) (hp : p = 1 ∨ p = 2) {g : HV} (e : Ω.1 j p = g) (a1 : Int32) {v : Bool} (hF : F_X4_hasPending a1 g = v) : gM w 0 yX4_hasPending cX4_hasPending 2 (some .boolean) [.ref (wAd w (1, j, p, 0)), .int a1] (cA w Ω) (some (.int (b2i v))) (cA w Ω) := by
  refine gM_of "HedgeMessages$Gardener" rfl (by decide) (kR rfl) fun X C => ?_
  unfold F_X4_hasPending at hF
  show gV w X _ _ 0 [(0, .ref (wAd w (1, j, p, 0))), (1, .int a1)] []
  refine r_iload_n C (k := 1) rfl rfl dX4_hasPending_0 ?_
  refine r_if_lt C (tgt := 16) rfl dX4_hasPending_1 (fun hc => ?_) (fun hc => ?_)
  · rw [if_pos hc] at hF
    refine r_iconst C (v := 0) rfl dX4_hasPending_16 ?_
    cases hF
    exact r_zreturn C false rfl dX4_hasPending_17
  · rw [if_neg hc] at hF
    refine r_iload_n C (k := 1) rfl rfl dX4_hasPending_4 ?_
    refine r_aload_n C (k := 0) rfl rfl dX4_hasPending_5 ?_
    refine og_1_2 C (hW.ok (k1 hj hp)) e wm1_63 dX4_hasPending_6 ?_
    refine r_icmp_ge C (tgt := 16) rfl dX4_hasPending_9 (fun hc => ?_) (fun hc => ?_)
    · rw [if_pos hc] at hF
      refine r_iconst C (v := 0) rfl dX4_hasPending_16 ?_
      cases hF
      exact r_zreturn C false rfl dX4_hasPending_17
    · rw [if_neg hc] at hF
      refine r_iconst C (v := 1) rfl dX4_hasPending_12 ?_
      refine r_goto C (tgt := 17) rfl dX4_hasPending_13 ?_
      cases hF
      exact r_zreturn C true rfl dX4_hasPending_17
theorem dX4_lengthOf_0 : decode cX4_lengthOf 0 = .ok (.aload_n 0, 1) := by decide +kernel
theorem dX4_lengthOf_1 : decode cX4_lengthOf 1 = .ok (.iload_n 1, 1) := by decide +kernel
theorem dX4_lengthOf_2 : decode cX4_lengthOf 2 = .ok (.invokevirtual 55, 3) := by decide +kernel
theorem dX4_lengthOf_5 : decode cX4_lengthOf 5 = .ok (.ifCond .eq 14, 3) := by decide +kernel
theorem dX4_lengthOf_8 : decode cX4_lengthOf 8 = .ok (.aload_n 0, 1) := by decide +kernel
theorem dX4_lengthOf_9 : decode cX4_lengthOf 9 = .ok (.getfield 20, 3) := by decide +kernel
theorem dX4_lengthOf_12 : decode cX4_lengthOf 12 = .ok (.iload_n 1, 1) := by decide +kernel
theorem dX4_lengthOf_13 : decode cX4_lengthOf 13 = .ok (.invokevirtual 59, 3) := by decide +kernel
theorem dX4_lengthOf_16 : decode cX4_lengthOf 16 = .ok (.goto 4, 3) := by decide +kernel
theorem dX4_lengthOf_19 : decode cX4_lengthOf 19 = .ok (.iconst 0, 1) := by decide +kernel
theorem dX4_lengthOf_20 : decode cX4_lengthOf 20 = .ok (.ireturn, 1) := by decide +kernel
def F_X4_lengthOf (a1 : Int32) (g : HV) : Int32 := (if (F_X4_hasPending a1 g) = true then (rget 8 (g.2 1) a1) else 0)
theorem c_X4_lengthOf {w : WP} (hW : gW w) {Ω : OM} {j p : Nat} (hj : j ≤ 10) (hp : p = 1 ∨ p = 2) {g : HV} (e : Ω.1 j p = g) (a1 : Int32) {v : Int32} (hF : F_X4_lengthOf a1 g = v) : gM w 1 yX4_lengthOf cX4_lengthOf 2 (some .int) [.ref (wAd w (1, j, p, 0)), .int a1] (cA w Ω) (some (.int v)) (cA w Ω) := by
  refine gM_of "HedgeMessages$Gardener" rfl (by decide) (kR rfl) fun X C => ?_
  unfold F_X4_lengthOf at hF
  show gV w X _ _ 0 [(0, .ref (wAd w (1, j, p, 0))), (1, .int a1)] []
  refine r_aload_n C (k := 0) rfl rfl dX4_lengthOf_0 ?_
  refine r_iload_n C (k := 1) rfl rfl dX4_lengthOf_1 ?_
  refine r_callV C (d' := 0) [.int a1] (c_X4_hasPending hW hj hp e a1 rfl) myX4_hasPending wm4_114 ⟨_, _, _, _, (hW.ok (k1 hj hp)), rfl, rfl, rfl, rfl⟩ rfl (kR rfl) (by decide) (kR rfl) rfl dX4_lengthOf_2 ?_
  refine r_if_eq C (tgt := 19) rfl dX4_lengthOf_5 (fun hc => ?_) (fun hc => ?_)
  · rw [if_neg (b2i_f hc)] at hF
    refine r_iconst C (v := 0) rfl dX4_lengthOf_19 ?_
    cases hF
    exact r_ireturn C dX4_lengthOf_20
  · rw [if_pos (b2i_t hc)] at hF
    refine r_aload_n C (k := 0) rfl rfl dX4_lengthOf_8 ?_
    refine og_1_1 C (hW.ok (k1 hj hp)) wm1_62 dX4_lengthOf_9 ?_
    refine r_iload_n C (k := 1) rfl rfl dX4_lengthOf_12 ?_
    refine r_callV C (d' := 0) [.int a1] (c_rget (hW.ok (i := (3, j, p, 1)) (q1 hj hp (kR rfl))) (hW.ok (i := (4, j, p, 1)) (q1 hj hp (kR rfl))) (rl1 hp) (by decide) (congrArg (fun z => z.2 1) e) rfl) myX8_get wm4_115 ⟨_, _, _, _, (hW.ok (i := (3, j, p, 1)) (q1 hj hp (kR rfl))), rfl, rfl, rfl, rfl⟩ rfl (kR rfl) (by decide) (kR rfl) rfl dX4_lengthOf_13 ?_
    refine r_goto C (tgt := 20) rfl dX4_lengthOf_16 ?_
    cases hF
    exact r_ireturn C dX4_lengthOf_20
theorem dX4_letterOf_0 : decode cX4_letterOf 0 = .ok (.iload_n 2, 1) := by decide +kernel
theorem dX4_letterOf_1 : decode cX4_letterOf 1 = .ok (.ifCond .lt 28, 3) := by decide +kernel
theorem dX4_letterOf_4 : decode cX4_letterOf 4 = .ok (.iload_n 2, 1) := by decide +kernel
theorem dX4_letterOf_5 : decode cX4_letterOf 5 = .ok (.aload_n 0, 1) := by decide +kernel
theorem dX4_letterOf_6 : decode cX4_letterOf 6 = .ok (.iload_n 1, 1) := by decide +kernel
theorem dX4_letterOf_7 : decode cX4_letterOf 7 = .ok (.invokevirtual 63, 3) := by decide +kernel
theorem dX4_letterOf_10 : decode cX4_letterOf 10 = .ok (.if_icmp .ge 19, 3) := by decide +kernel
theorem dX4_letterOf_13 : decode cX4_letterOf 13 = .ok (.aload_n 0, 1) := by decide +kernel
theorem dX4_letterOf_14 : decode cX4_letterOf 14 = .ok (.getfield 14, 3) := by decide +kernel
theorem dX4_letterOf_17 : decode cX4_letterOf 17 = .ok (.iload_n 1, 1) := by decide +kernel
theorem dX4_letterOf_18 : decode cX4_letterOf 18 = .ok (.bipush 12, 2) := by decide +kernel
theorem dX4_letterOf_20 : decode cX4_letterOf 20 = .ok (.imul, 1) := by decide +kernel
theorem dX4_letterOf_21 : decode cX4_letterOf 21 = .ok (.iload_n 2, 1) := by decide +kernel
theorem dX4_letterOf_22 : decode cX4_letterOf 22 = .ok (.iadd, 1) := by decide +kernel
theorem dX4_letterOf_23 : decode cX4_letterOf 23 = .ok (.invokevirtual 59, 3) := by decide +kernel
theorem dX4_letterOf_26 : decode cX4_letterOf 26 = .ok (.goto 4, 3) := by decide +kernel
theorem dX4_letterOf_29 : decode cX4_letterOf 29 = .ok (.iconst (-1), 1) := by decide +kernel
theorem dX4_letterOf_30 : decode cX4_letterOf 30 = .ok (.ireturn, 1) := by decide +kernel
def F_X4_letterOf (a1 : Int32) (a2 : Int32) (g : HV) : Int32 := (if a2 < 0 then (-1) else (if (F_X4_lengthOf a1 g) ≤ a2 then (-1) else (rget 96 (g.2 0) ((a1 * 12) + a2))))
theorem c_X4_letterOf {w : WP} (hW : gW w) {Ω : OM} {j p : Nat} (hj : j ≤ 10) (hp : p = 1 ∨ p = 2) {g : HV} (e : Ω.1 j p = g) (a1 : Int32) (a2 : Int32) {v : Int32} (hF : F_X4_letterOf a1 a2 g = v) : gM w 2 yX4_letterOf cX4_letterOf 3 (some .int) [.ref (wAd w (1, j, p, 0)), .int a1, .int a2] (cA w Ω) (some (.int v)) (cA w Ω) := by
  refine gM_of "HedgeMessages$Gardener" rfl (by decide) (kR rfl) fun X C => ?_
  unfold F_X4_letterOf at hF
  show gV w X _ _ 0 [(0, .ref (wAd w (1, j, p, 0))), (1, .int a1), (2, .int a2)] []
  refine r_iload_n C (k := 2) rfl rfl dX4_letterOf_0 ?_
  refine r_if_lt C (tgt := 29) rfl dX4_letterOf_1 (fun hc => ?_) (fun hc => ?_)
  · rw [if_pos hc] at hF
    refine r_iconst C (v := (-1)) (by decide) dX4_letterOf_29 ?_
    cases hF
    exact r_ireturn C dX4_letterOf_30
  · rw [if_neg hc] at hF
    refine r_iload_n C (k := 2) rfl rfl dX4_letterOf_4 ?_
    refine r_aload_n C (k := 0) rfl rfl dX4_letterOf_5 ?_
    refine r_iload_n C (k := 1) rfl rfl dX4_letterOf_6 ?_
    refine r_callV C (d' := 1) [.int a1] (c_X4_lengthOf hW hj hp e a1 rfl) myX4_lengthOf wm5_81 ⟨_, _, _, _, (hW.ok (k1 hj hp)), rfl, rfl, rfl, rfl⟩ rfl (kR rfl) (by decide) (kR rfl) rfl dX4_letterOf_7 ?_
    refine r_icmp_ge C (tgt := 29) rfl dX4_letterOf_10 (fun hc => ?_) (fun hc => ?_)
    · rw [if_pos hc] at hF
      refine r_iconst C (v := (-1)) (by decide) dX4_letterOf_29 ?_
      cases hF
      exact r_ireturn C dX4_letterOf_30
    · rw [if_neg hc] at hF
      refine r_aload_n C (k := 0) rfl rfl dX4_letterOf_13 ?_
      refine og_1_0 C (hW.ok (k1 hj hp)) wm1_60 dX4_letterOf_14 ?_
      refine r_iload_n C (k := 1) rfl rfl dX4_letterOf_17 ?_
      refine r_bipush C (v := 12) rfl dX4_letterOf_18 ?_
      refine r_imul C dX4_letterOf_20 ?_
      refine r_iload_n C (k := 2) rfl rfl dX4_letterOf_21 ?_
      refine r_iadd C dX4_letterOf_22 ?_
      refine r_callV C (d' := 0) [.int ((a1 * 12) + a2)] (c_rget (hW.ok (i := (3, j, p, 0)) (q1 hj hp (kR rfl))) (hW.ok (i := (4, j, p, 0)) (q1 hj hp (kR rfl))) (rl0 hp) (by decide) (congrArg (fun z => z.2 0) e) rfl) myX8_get wm4_115 ⟨_, _, _, _, (hW.ok (i := (3, j, p, 0)) (q1 hj hp (kR rfl))), rfl, rfl, rfl, rfl⟩ rfl (kR rfl) (by decide) (kR rfl) rfl dX4_letterOf_23 ?_
      refine r_goto C (tgt := 30) rfl dX4_letterOf_26 ?_
      cases hF
      exact r_ireturn C dX4_letterOf_30
theorem dX4_clear_0 : decode cX4_clear 0 = .ok (.aload_n 0, 1) := by decide +kernel
theorem dX4_clear_1 : decode cX4_clear 1 = .ok (.iconst 0, 1) := by decide +kernel
theorem dX4_clear_2 : decode cX4_clear 2 = .ok (.putfield 23, 3) := by decide +kernel
theorem dX4_clear_5 : decode cX4_clear 5 = .ok (.aload_n 0, 1) := by decide +kernel
theorem dX4_clear_6 : decode cX4_clear 6 = .ok (.invokevirtual 27, 3) := by decide +kernel
theorem dX4_clear_9 : decode cX4_clear 9 = .ok (.aload_n 0, 1) := by decide +kernel
theorem dX4_clear_10 : decode cX4_clear 10 = .ok (.iconst 0, 1) := by decide +kernel
theorem dX4_clear_11 : decode cX4_clear 11 = .ok (.putfield 30, 3) := by decide +kernel
theorem dX4_clear_14 : decode cX4_clear 14 = .ok (.aload_n 0, 1) := by decide +kernel
theorem dX4_clear_15 : decode cX4_clear 15 = .ok (.iconst 0, 1) := by decide +kernel
theorem dX4_clear_16 : decode cX4_clear 16 = .ok (.putfield 33, 3) := by decide +kernel
theorem dX4_clear_19 : decode cX4_clear 19 = .ok (.aload_n 0, 1) := by decide +kernel
theorem dX4_clear_20 : decode cX4_clear 20 = .ok (.iconst 0, 1) := by decide +kernel
theorem dX4_clear_21 : decode cX4_clear 21 = .ok (.putfield 36, 3) := by decide +kernel
theorem dX4_clear_24 : decode cX4_clear 24 = .ok (.aload_n 0, 1) := by decide +kernel
theorem dX4_clear_25 : decode cX4_clear 25 = .ok (.iconst 0, 1) := by decide +kernel
theorem dX4_clear_26 : decode cX4_clear 26 = .ok (.putfield 39, 3) := by decide +kernel
theorem dX4_clear_29 : decode cX4_clear 29 = .ok (.return_, 1) := by decide +kernel
def F_X4_clear (g : HV) : HV := (lt (sS g 2 0) fun g1 => (lt (F_X4_stopWriting g1) fun g3 => (lt (sS g3 6 0) fun g4 => (lt (sS g4 7 0) fun g5 => (lt (sS g5 8 0) fun g6 => (lt (sS g6 9 0) fun g7 => g7))))))
theorem c_X4_clear {w : WP} (hW : gW w) {Ω : OM} {j p : Nat} (hj : j ≤ 10) (hp : p = 1 ∨ p = 2) {g : HV} (e : Ω.1 j p = g)  {g' : HV} (hF : F_X4_clear g = g') {Ω' : OM} (e2 : (sP Ω j p g') = Ω') : gM w 1 yX4_clear cX4_clear 1 none [.ref (wAd w (1, j, p, 0))] (cA w Ω) none (cA w Ω') := by
  refine gM_of "HedgeMessages$Gardener" rfl (by decide) (kR rfl) fun X C => ?_
  unfold F_X4_clear at hF
  subst e2
  show gV w X _ _ 0 [(0, .ref (wAd w (1, j, p, 0)))] []
  refine r_ct (ct' := cA w (sP Ω j p g)) (congrArg (cA w) (sP_i e).symm) ?_
  refine r_aload_n C (k := 0) rfl rfl dX4_clear_0 ?_
  refine r_iconst C (v := 0) rfl dX4_clear_1 ?_
  obtain ⟨g1, eg1, hF⟩ := lt_e hF
  refine op_1_2 C hW.x (Or.inl (k1 hj hp)) (hW.fr (k1 hj hp)) (sP_g (Ω := Ω) (j := j) (p := p) (g := g)) wm1_63 dX4_clear_2 (sP_P.trans (congrArg (sP Ω j p) eg1)) ?_
  refine r_aload_n C (k := 0) rfl rfl dX4_clear_5 ?_
  obtain ⟨g3, hg3, hF⟩ := lt_e hF
  refine r_callV C (d' := 0) [] (c_X4_stopWriting hW hj hp (sP_g (Ω := Ω) (j := j) (p := p) (g := g1)) hg3 sP_P) myX4_stopWriting wm2_68 ⟨_, _, _, _, (hW.ok (k1 hj hp)), rfl, rfl, rfl, rfl⟩ rfl (kR rfl) (by decide) (kR rfl) rfl dX4_clear_6 ?_
  refine r_aload_n C (k := 0) rfl rfl dX4_clear_9 ?_
  refine r_iconst C (v := 0) rfl dX4_clear_10 ?_
  obtain ⟨g4, eg4, hF⟩ := lt_e hF
  refine op_1_6 C hW.x (Or.inl (k1 hj hp)) (hW.fr (k1 hj hp)) (sP_g (Ω := Ω) (j := j) (p := p) (g := g3)) wm1_74 dX4_clear_11 (sP_P.trans (congrArg (sP Ω j p) eg4)) ?_
  refine r_aload_n C (k := 0) rfl rfl dX4_clear_14 ?_
  refine r_iconst C (v := 0) rfl dX4_clear_15 ?_
  obtain ⟨g5, eg5, hF⟩ := lt_e hF
  refine op_1_7 C hW.x (Or.inl (k1 hj hp)) (hW.fr (k1 hj hp)) (sP_g (Ω := Ω) (j := j) (p := p) (g := g4)) wm1_77 dX4_clear_16 (sP_P.trans (congrArg (sP Ω j p) eg5)) ?_
  refine r_aload_n C (k := 0) rfl rfl dX4_clear_19 ?_
  refine r_iconst C (v := 0) rfl dX4_clear_20 ?_
  obtain ⟨g6, eg6, hF⟩ := lt_e hF
  refine op_1_8 C hW.x (Or.inl (k1 hj hp)) (hW.fr (k1 hj hp)) (sP_g (Ω := Ω) (j := j) (p := p) (g := g5)) wm1_80 dX4_clear_21 (sP_P.trans (congrArg (sP Ω j p) eg6)) ?_
  refine r_aload_n C (k := 0) rfl rfl dX4_clear_24 ?_
  refine r_iconst C (v := 0) rfl dX4_clear_25 ?_
  obtain ⟨g7, eg7, hF⟩ := lt_e hF
  refine op_1_9 C hW.x (Or.inl (k1 hj hp)) (hW.fr (k1 hj hp)) (sP_g (Ω := Ω) (j := j) (p := p) (g := g6)) wm1_83 dX4_clear_26 (sP_P.trans (congrArg (sP Ω j p) eg7)) ?_
  cases hF
  exact r_return C dX4_clear_29
theorem dX4_enqueue_0 : decode cX4_enqueue 0 = .ok (.aload_n 0, 1) := by decide +kernel
theorem dX4_enqueue_1 : decode cX4_enqueue 1 = .ok (.getfield 14, 3) := by decide +kernel
theorem dX4_enqueue_4 : decode cX4_enqueue 4 = .ok (.aload_n 1, 1) := by decide +kernel
theorem dX4_enqueue_5 : decode cX4_enqueue 5 = .ok (.iload_n 2, 1) := by decide +kernel
theorem dX4_enqueue_6 : decode cX4_enqueue 6 = .ok (.aload_n 0, 1) := by decide +kernel
theorem dX4_enqueue_7 : decode cX4_enqueue 7 = .ok (.getfield 23, 3) := by decide +kernel
theorem dX4_enqueue_10 : decode cX4_enqueue 10 = .ok (.bipush 12, 2) := by decide +kernel
theorem dX4_enqueue_12 : decode cX4_enqueue 12 = .ok (.imul, 1) := by decide +kernel
theorem dX4_enqueue_13 : decode cX4_enqueue 13 = .ok (.iload_n 3, 1) := by decide +kernel
theorem dX4_enqueue_14 : decode cX4_enqueue 14 = .ok (.invokevirtual 66, 3) := by decide +kernel
theorem dX4_enqueue_17 : decode cX4_enqueue 17 = .ok (.aload_n 0, 1) := by decide +kernel
theorem dX4_enqueue_18 : decode cX4_enqueue 18 = .ok (.getfield 20, 3) := by decide +kernel
theorem dX4_enqueue_21 : decode cX4_enqueue 21 = .ok (.aload_n 0, 1) := by decide +kernel
theorem dX4_enqueue_22 : decode cX4_enqueue 22 = .ok (.getfield 23, 3) := by decide +kernel
theorem dX4_enqueue_25 : decode cX4_enqueue 25 = .ok (.iload_n 3, 1) := by decide +kernel
theorem dX4_enqueue_26 : decode cX4_enqueue 26 = .ok (.invokevirtual 70, 3) := by decide +kernel
theorem dX4_enqueue_29 : decode cX4_enqueue 29 = .ok (.aload_n 0, 1) := by decide +kernel
theorem dX4_enqueue_30 : decode cX4_enqueue 30 = .ok (.dup, 1) := by decide +kernel
theorem dX4_enqueue_31 : decode cX4_enqueue 31 = .ok (.getfield 23, 3) := by decide +kernel
theorem dX4_enqueue_34 : decode cX4_enqueue 34 = .ok (.iconst 1, 1) := by decide +kernel
theorem dX4_enqueue_35 : decode cX4_enqueue 35 = .ok (.iadd, 1) := by decide +kernel
theorem dX4_enqueue_36 : decode cX4_enqueue 36 = .ok (.putfield 23, 3) := by decide +kernel
theorem dX4_enqueue_39 : decode cX4_enqueue 39 = .ok (.return_, 1) := by decide +kernel
def F_X4_enqueue (src : Nat → Int32) (n2 : Nat) (a2 : Int32) (a3 : Int32) (g : HV) : HV := (lt (sA g 0 (rcpy n2 src 96 (g.2 0) a2 ((g.1 2) * 12) a3)) fun g2 => (lt (sA g2 1 (rset 8 (g2.2 1) (g2.1 2) a3)) fun g4 => (lt (sS g4 2 ((g4.1 2) + 1)) fun g5 => g5)))
theorem c_X4_enqueue {w : WP} (hW : gW w) {Ω : OM} {j p : Nat} (hj : j ≤ 10) (hp : p = 1 ∨ p = 2) {g : HV} (e : Ω.1 j p = g) {rj rp ra n2 : Nat} {src : Nat → Int32} (h32 : wOk w (3, rj, rp, ra)) (h42 : wOk w (4, rj, rp, ra)) (hn2 : rlen rp ra = n2) (hN2 : n2 < 2 ^ 31) (ef : (Ω.1 rj rp).2 ra = src) (a2 : Int32) (a3 : Int32) {g' : HV} (hF : F_X4_enqueue src n2 a2 a3 g = g') {Ω' : OM} (e2 : (sP Ω j p g') = Ω') : gM w 2 yX4_enqueue cX4_enqueue 4 none [.ref (wAd w (1, j, p, 0)), .ref (wAd w (3, rj, rp, ra)), .int a2, .int a3] (cA w Ω) none (cA w Ω') := by
  refine gM_of "HedgeMessages$Gardener" rfl (by decide) (kR rfl) fun X C => ?_
  unfold F_X4_enqueue at hF
  subst e2
  have ef0 : ((sP Ω j p g).1 rj rp).2 ra = src := by rw [sP_i e]; exact ef
  show gV w X _ _ 0 [(0, .ref (wAd w (1, j, p, 0))), (1, .ref (wAd w (3, rj, rp, ra))), (2, .int a2), (3, .int a3)] []
  refine r_ct (ct' := cA w (sP Ω j p g)) (congrArg (cA w) (sP_i e).symm) ?_
  refine r_aload_n C (k := 0) rfl rfl dX4_enqueue_0 ?_
  refine og_1_0 C (hW.ok (k1 hj hp)) wm1_60 dX4_enqueue_1 ?_
  refine r_aload_n C (k := 1) rfl rfl dX4_enqueue_4 ?_
  refine r_iload_n C (k := 2) rfl rfl dX4_enqueue_5 ?_
  refine r_aload_n C (k := 0) rfl rfl dX4_enqueue_6 ?_
  refine og_1_2 C (hW.ok (k1 hj hp)) (sP_g (Ω := Ω) (j := j) (p := p) (g := g)) wm1_63 dX4_enqueue_7 ?_
  refine r_bipush C (v := 12) rfl dX4_enqueue_10 ?_
  refine r_imul C dX4_enqueue_12 ?_
  refine r_iload_n C (k := 3) rfl rfl dX4_enqueue_13 ?_
  obtain ⟨g2, eg2, hF⟩ := lt_e hF
  refine r_callV C (d' := 1) [.ref (wAd w (3, rj, rp, ra)), .int a2, .int ((g.1 2) * 12), .int a3] (c_rcpy hW.x (Or.inl (show okC (4, j, p, 0) from (q1 hj hp (kR rfl)))) (hW.ok (i := (3, j, p, 0)) (q1 hj hp (kR rfl))) (hW.ok (i := (4, j, p, 0)) (q1 hj hp (kR rfl))) (hW.fr (i := (4, j, p, 0)) (q1 hj hp (kR rfl))) h32 h42 (rl0 hp) (by decide) hn2 hN2 (sP_g (Ω := Ω) (j := j) (p := p) (g := g)) ef0 rfl (sP_P.trans (congrArg (sP Ω j p) eg2))) myX8_copyPart wm2_149 ⟨_, _, _, _, (hW.ok (i := (3, j, p, 0)) (q1 hj hp (kR rfl))), rfl, rfl, rfl, rfl⟩ rfl (kR rfl) (by decide) (kR rfl) rfl dX4_enqueue_14 ?_
  refine r_aload_n C (k := 0) rfl rfl dX4_enqueue_17 ?_
  refine og_1_1 C (hW.ok (k1 hj hp)) wm1_62 dX4_enqueue_18 ?_
  refine r_aload_n C (k := 0) rfl rfl dX4_enqueue_21 ?_
  refine og_1_2 C (hW.ok (k1 hj hp)) (sP_g (Ω := Ω) (j := j) (p := p) (g := g2)) wm1_63 dX4_enqueue_22 ?_
  refine r_iload_n C (k := 3) rfl rfl dX4_enqueue_25 ?_
  obtain ⟨g4, eg4, hF⟩ := lt_e hF
  refine r_callV C (d' := 0) [.int (g2.1 2), .int a3] (c_rset hW.x (Or.inl (show okC (4, j, p, 1) from (q1 hj hp (kR rfl)))) (hW.ok (i := (3, j, p, 1)) (q1 hj hp (kR rfl))) (hW.ok (i := (4, j, p, 1)) (q1 hj hp (kR rfl))) (hW.fr (i := (4, j, p, 1)) (q1 hj hp (kR rfl))) (rl1 hp) (by decide) (sP_g (Ω := Ω) (j := j) (p := p) (g := g2)) rfl (sP_P.trans (congrArg (sP Ω j p) eg4))) myX8_set wm2_156 ⟨_, _, _, _, (hW.ok (i := (3, j, p, 1)) (q1 hj hp (kR rfl))), rfl, rfl, rfl, rfl⟩ rfl (kR rfl) (by decide) (kR rfl) rfl dX4_enqueue_26 ?_
  refine r_aload_n C (k := 0) rfl rfl dX4_enqueue_29 ?_
  refine r_dup C rfl dX4_enqueue_30 ?_
  refine og_1_2 C (hW.ok (k1 hj hp)) (sP_g (Ω := Ω) (j := j) (p := p) (g := g4)) wm1_63 dX4_enqueue_31 ?_
  refine r_iconst C (v := 1) rfl dX4_enqueue_34 ?_
  refine r_iadd C dX4_enqueue_35 ?_
  obtain ⟨g5, eg5, hF⟩ := lt_e hF
  refine op_1_2 C hW.x (Or.inl (k1 hj hp)) (hW.fr (k1 hj hp)) (sP_g (Ω := Ω) (j := j) (p := p) (g := g4)) wm1_63 dX4_enqueue_36 (sP_P.trans (congrArg (sP Ω j p) eg5)) ?_
  cases hF
  exact r_return C dX4_enqueue_39
theorem dX4_dequeue_0 : decode cX4_dequeue 0 = .ok (.aload_n 0, 1) := by decide +kernel
theorem dX4_dequeue_1 : decode cX4_dequeue 1 = .ok (.getfield 23, 3) := by decide +kernel
theorem dX4_dequeue_4 : decode cX4_dequeue 4 = .ok (.iload_n 1, 1) := by decide +kernel
theorem dX4_dequeue_5 : decode cX4_dequeue 5 = .ok (.isub, 1) := by decide +kernel
theorem dX4_dequeue_6 : decode cX4_dequeue 6 = .ok (.iconst 1, 1) := by decide +kernel
theorem dX4_dequeue_7 : decode cX4_dequeue 7 = .ok (.isub, 1) := by decide +kernel
theorem dX4_dequeue_8 : decode cX4_dequeue 8 = .ok (.istore_n 2, 1) := by decide +kernel
theorem dX4_dequeue_9 : decode cX4_dequeue 9 = .ok (.aload_n 0, 1) := by decide +kernel
theorem dX4_dequeue_10 : decode cX4_dequeue 10 = .ok (.getfield 14, 3) := by decide +kernel
theorem dX4_dequeue_13 : decode cX4_dequeue 13 = .ok (.aload_n 0, 1) := by decide +kernel
theorem dX4_dequeue_14 : decode cX4_dequeue 14 = .ok (.getfield 14, 3) := by decide +kernel
theorem dX4_dequeue_17 : decode cX4_dequeue 17 = .ok (.iload_n 1, 1) := by decide +kernel
theorem dX4_dequeue_18 : decode cX4_dequeue 18 = .ok (.iconst 1, 1) := by decide +kernel
theorem dX4_dequeue_19 : decode cX4_dequeue 19 = .ok (.iadd, 1) := by decide +kernel
theorem dX4_dequeue_20 : decode cX4_dequeue 20 = .ok (.bipush 12, 2) := by decide +kernel
theorem dX4_dequeue_22 : decode cX4_dequeue 22 = .ok (.imul, 1) := by decide +kernel
theorem dX4_dequeue_23 : decode cX4_dequeue 23 = .ok (.iload_n 1, 1) := by decide +kernel
theorem dX4_dequeue_24 : decode cX4_dequeue 24 = .ok (.bipush 12, 2) := by decide +kernel
theorem dX4_dequeue_26 : decode cX4_dequeue 26 = .ok (.imul, 1) := by decide +kernel
theorem dX4_dequeue_27 : decode cX4_dequeue 27 = .ok (.iload_n 2, 1) := by decide +kernel
theorem dX4_dequeue_28 : decode cX4_dequeue 28 = .ok (.bipush 12, 2) := by decide +kernel
theorem dX4_dequeue_30 : decode cX4_dequeue 30 = .ok (.imul, 1) := by decide +kernel
theorem dX4_dequeue_31 : decode cX4_dequeue 31 = .ok (.invokevirtual 66, 3) := by decide +kernel
theorem dX4_dequeue_34 : decode cX4_dequeue 34 = .ok (.aload_n 0, 1) := by decide +kernel
theorem dX4_dequeue_35 : decode cX4_dequeue 35 = .ok (.getfield 20, 3) := by decide +kernel
theorem dX4_dequeue_38 : decode cX4_dequeue 38 = .ok (.aload_n 0, 1) := by decide +kernel
theorem dX4_dequeue_39 : decode cX4_dequeue 39 = .ok (.getfield 20, 3) := by decide +kernel
theorem dX4_dequeue_42 : decode cX4_dequeue 42 = .ok (.iload_n 1, 1) := by decide +kernel
theorem dX4_dequeue_43 : decode cX4_dequeue 43 = .ok (.iconst 1, 1) := by decide +kernel
theorem dX4_dequeue_44 : decode cX4_dequeue 44 = .ok (.iadd, 1) := by decide +kernel
theorem dX4_dequeue_45 : decode cX4_dequeue 45 = .ok (.iload_n 1, 1) := by decide +kernel
theorem dX4_dequeue_46 : decode cX4_dequeue 46 = .ok (.iload_n 2, 1) := by decide +kernel
theorem dX4_dequeue_47 : decode cX4_dequeue 47 = .ok (.invokevirtual 66, 3) := by decide +kernel
theorem dX4_dequeue_50 : decode cX4_dequeue 50 = .ok (.aload_n 0, 1) := by decide +kernel
theorem dX4_dequeue_51 : decode cX4_dequeue 51 = .ok (.dup, 1) := by decide +kernel
theorem dX4_dequeue_52 : decode cX4_dequeue 52 = .ok (.getfield 23, 3) := by decide +kernel
theorem dX4_dequeue_55 : decode cX4_dequeue 55 = .ok (.iconst 1, 1) := by decide +kernel
theorem dX4_dequeue_56 : decode cX4_dequeue 56 = .ok (.isub, 1) := by decide +kernel
theorem dX4_dequeue_57 : decode cX4_dequeue 57 = .ok (.putfield 23, 3) := by decide +kernel
theorem dX4_dequeue_60 : decode cX4_dequeue 60 = .ok (.return_, 1) := by decide +kernel
def F_X4_dequeue (a1 : Int32) (g : HV) : HV := (lt (sA g 0 (rcpy 96 (g.2 0) 96 (g.2 0) ((a1 + 1) * 12) (a1 * 12) ((((g.1 2) - a1) - 1) * 12))) fun g2 => (lt (sA g2 1 (rcpy 8 (g2.2 1) 8 (g2.2 1) (a1 + 1) a1 (((g.1 2) - a1) - 1))) fun g4 => (lt (sS g4 2 ((g4.1 2) - 1)) fun g5 => g5)))
theorem c_X4_dequeue {w : WP} (hW : gW w) {Ω : OM} {j p : Nat} (hj : j ≤ 10) (hp : p = 1 ∨ p = 2) {g : HV} (e : Ω.1 j p = g) (a1 : Int32) {g' : HV} (hF : F_X4_dequeue a1 g = g') {Ω' : OM} (e2 : (sP Ω j p g') = Ω') : gM w 2 yX4_dequeue cX4_dequeue 3 none [.ref (wAd w (1, j, p, 0)), .int a1] (cA w Ω) none (cA w Ω') := by
  refine gM_of "HedgeMessages$Gardener" rfl (by decide) (kR rfl) fun X C => ?_
  unfold F_X4_dequeue at hF
  subst e2
  show gV w X _ _ 0 [(0, .ref (wAd w (1, j, p, 0))), (1, .int a1)] []
  refine r_ct (ct' := cA w (sP Ω j p g)) (congrArg (cA w) (sP_i e).symm) ?_
  refine r_aload_n C (k := 0) rfl rfl dX4_dequeue_0 ?_
  refine og_1_2 C (hW.ok (k1 hj hp)) (sP_g (Ω := Ω) (j := j) (p := p) (g := g)) wm1_63 dX4_dequeue_1 ?_
  refine r_iload_n C (k := 1) rfl rfl dX4_dequeue_4 ?_
  refine r_isub C dX4_dequeue_5 ?_
  refine r_iconst C (v := 1) rfl dX4_dequeue_6 ?_
  refine r_isub C dX4_dequeue_7 ?_
  refine r_istore_n C (lo' := [(2, .int (((g.1 2) - a1) - 1)), (0, .ref (wAd w (1, j, p, 0))), (1, .int a1)]) rfl (by decide) rfl dX4_dequeue_8 ?_
  refine r_aload_n C (k := 1) rfl rfl dX4_dequeue_9 ?_
  refine og_1_0 C (hW.ok (k1 hj hp)) wm1_60 dX4_dequeue_10 ?_
  refine r_aload_n C (k := 1) rfl rfl dX4_dequeue_13 ?_
  refine og_1_0 C (hW.ok (k1 hj hp)) wm1_60 dX4_dequeue_14 ?_
  refine r_iload_n C (k := 2) rfl rfl dX4_dequeue_17 ?_
  refine r_iconst C (v := 1) rfl dX4_dequeue_18 ?_
  refine r_iadd C dX4_dequeue_19 ?_
  refine r_bipush C (v := 12) rfl dX4_dequeue_20 ?_
  refine r_imul C dX4_dequeue_22 ?_
  refine r_iload_n C (k := 2) rfl rfl dX4_dequeue_23 ?_
  refine r_bipush C (v := 12) rfl dX4_dequeue_24 ?_
  refine r_imul C dX4_dequeue_26 ?_
  refine r_iload_n C (k := 0) rfl rfl dX4_dequeue_27 ?_
  refine r_bipush C (v := 12) rfl dX4_dequeue_28 ?_
  refine r_imul C dX4_dequeue_30 ?_
  obtain ⟨g2, eg2, hF⟩ := lt_e hF
  refine r_callV C (d' := 1) [.ref (wAd w (3, j, p, 0)), .int ((a1 + 1) * 12), .int (a1 * 12), .int ((((g.1 2) - a1) - 1) * 12)] (c_rcpy hW.x (Or.inl (show okC (4, j, p, 0) from (q1 hj hp (kR rfl)))) (hW.ok (i := (3, j, p, 0)) (q1 hj hp (kR rfl))) (hW.ok (i := (4, j, p, 0)) (q1 hj hp (kR rfl))) (hW.fr (i := (4, j, p, 0)) (q1 hj hp (kR rfl))) (hW.ok (i := (3, j, p, 0)) (q1 hj hp (kR rfl))) (hW.ok (i := (4, j, p, 0)) (q1 hj hp (kR rfl))) (rl0 hp) (by decide) (rl0 hp) (by decide) (sP_g (Ω := Ω) (j := j) (p := p) (g := g)) (congrArg (fun z => z.2 0) (sP_g (Ω := Ω) (j := j) (p := p) (g := g))) rfl (sP_P.trans (congrArg (sP Ω j p) eg2))) myX8_copyPart wm2_149 ⟨_, _, _, _, (hW.ok (i := (3, j, p, 0)) (q1 hj hp (kR rfl))), rfl, rfl, rfl, rfl⟩ rfl (kR rfl) (by decide) (kR rfl) rfl dX4_dequeue_31 ?_
  refine r_aload_n C (k := 1) rfl rfl dX4_dequeue_34 ?_
  refine og_1_1 C (hW.ok (k1 hj hp)) wm1_62 dX4_dequeue_35 ?_
  refine r_aload_n C (k := 1) rfl rfl dX4_dequeue_38 ?_
  refine og_1_1 C (hW.ok (k1 hj hp)) wm1_62 dX4_dequeue_39 ?_
  refine r_iload_n C (k := 2) rfl rfl dX4_dequeue_42 ?_
  refine r_iconst C (v := 1) rfl dX4_dequeue_43 ?_
  refine r_iadd C dX4_dequeue_44 ?_
  refine r_iload_n C (k := 2) rfl rfl dX4_dequeue_45 ?_
  refine r_iload_n C (k := 0) rfl rfl dX4_dequeue_46 ?_
  obtain ⟨g4, eg4, hF⟩ := lt_e hF
  refine r_callV C (d' := 1) [.ref (wAd w (3, j, p, 1)), .int (a1 + 1), .int a1, .int (((g.1 2) - a1) - 1)] (c_rcpy hW.x (Or.inl (show okC (4, j, p, 1) from (q1 hj hp (kR rfl)))) (hW.ok (i := (3, j, p, 1)) (q1 hj hp (kR rfl))) (hW.ok (i := (4, j, p, 1)) (q1 hj hp (kR rfl))) (hW.fr (i := (4, j, p, 1)) (q1 hj hp (kR rfl))) (hW.ok (i := (3, j, p, 1)) (q1 hj hp (kR rfl))) (hW.ok (i := (4, j, p, 1)) (q1 hj hp (kR rfl))) (rl1 hp) (by decide) (rl1 hp) (by decide) (sP_g (Ω := Ω) (j := j) (p := p) (g := g2)) (congrArg (fun z => z.2 1) (sP_g (Ω := Ω) (j := j) (p := p) (g := g2))) rfl (sP_P.trans (congrArg (sP Ω j p) eg4))) myX8_copyPart wm2_149 ⟨_, _, _, _, (hW.ok (i := (3, j, p, 1)) (q1 hj hp (kR rfl))), rfl, rfl, rfl, rfl⟩ rfl (kR rfl) (by decide) (kR rfl) rfl dX4_dequeue_47 ?_
  refine r_aload_n C (k := 1) rfl rfl dX4_dequeue_50 ?_
  refine r_dup C rfl dX4_dequeue_51 ?_
  refine og_1_2 C (hW.ok (k1 hj hp)) (sP_g (Ω := Ω) (j := j) (p := p) (g := g4)) wm1_63 dX4_dequeue_52 ?_
  refine r_iconst C (v := 1) rfl dX4_dequeue_55 ?_
  refine r_isub C dX4_dequeue_56 ?_
  obtain ⟨g5, eg5, hF⟩ := lt_e hF
  refine op_1_2 C hW.x (Or.inl (k1 hj hp)) (hW.fr (k1 hj hp)) (sP_g (Ω := Ω) (j := j) (p := p) (g := g4)) wm1_63 dX4_dequeue_57 (sP_P.trans (congrArg (sP Ω j p) eg5)) ?_
  cases hF
  exact r_return C dX4_dequeue_60
theorem dX4_cancel_0 : decode cX4_cancel 0 = .ok (.aload_n 0, 1) := by decide +kernel
theorem dX4_cancel_1 : decode cX4_cancel 1 = .ok (.iload_n 1, 1) := by decide +kernel
theorem dX4_cancel_2 : decode cX4_cancel 2 = .ok (.invokevirtual 74, 3) := by decide +kernel
theorem dX4_cancel_5 : decode cX4_cancel 5 = .ok (.aload_n 0, 1) := by decide +kernel
theorem dX4_cancel_6 : decode cX4_cancel 6 = .ok (.dup, 1) := by decide +kernel
theorem dX4_cancel_7 : decode cX4_cancel 7 = .ok (.getfield 39, 3) := by decide +kernel
theorem dX4_cancel_10 : decode cX4_cancel 10 = .ok (.iconst 1, 1) := by decide +kernel
theorem dX4_cancel_11 : decode cX4_cancel 11 = .ok (.iadd, 1) := by decide +kernel
theorem dX4_cancel_12 : decode cX4_cancel 12 = .ok (.putfield 39, 3) := by decide +kernel
theorem dX4_cancel_15 : decode cX4_cancel 15 = .ok (.return_, 1) := by decide +kernel
def F_X4_cancel (a1 : Int32) (g : HV) : HV := (lt (F_X4_dequeue a1 g) fun g2 => (lt (sS g2 9 ((g2.1 9) + 1)) fun g3 => g3))
theorem c_X4_cancel {w : WP} (hW : gW w) {Ω : OM} {j p : Nat} (hj : j ≤ 10) (hp : p = 1 ∨ p = 2) {g : HV} (e : Ω.1 j p = g) (a1 : Int32) {g' : HV} (hF : F_X4_cancel a1 g = g') {Ω' : OM} (e2 : (sP Ω j p g') = Ω') : gM w 3 yX4_cancel cX4_cancel 2 none [.ref (wAd w (1, j, p, 0)), .int a1] (cA w Ω) none (cA w Ω') := by
  refine gM_of "HedgeMessages$Gardener" rfl (by decide) (kR rfl) fun X C => ?_
  unfold F_X4_cancel at hF
  subst e2
  show gV w X _ _ 0 [(0, .ref (wAd w (1, j, p, 0))), (1, .int a1)] []
  refine r_ct (ct' := cA w (sP Ω j p g)) (congrArg (cA w) (sP_i e).symm) ?_
  refine r_aload_n C (k := 0) rfl rfl dX4_cancel_0 ?_
  refine r_iload_n C (k := 1) rfl rfl dX4_cancel_1 ?_
  obtain ⟨g2, hg2, hF⟩ := lt_e hF
  refine r_callV C (d' := 2) [.int a1] (c_X4_dequeue hW hj hp (sP_g (Ω := Ω) (j := j) (p := p) (g := g)) a1 hg2 sP_P) myX4_dequeue wm4_120 ⟨_, _, _, _, (hW.ok (k1 hj hp)), rfl, rfl, rfl, rfl⟩ rfl (kR rfl) (by decide) (kR rfl) rfl dX4_cancel_2 ?_
  refine r_aload_n C (k := 0) rfl rfl dX4_cancel_5 ?_
  refine r_dup C rfl dX4_cancel_6 ?_
  refine og_1_9 C (hW.ok (k1 hj hp)) (sP_g (Ω := Ω) (j := j) (p := p) (g := g2)) wm1_83 dX4_cancel_7 ?_
  refine r_iconst C (v := 1) rfl dX4_cancel_10 ?_
  refine r_iadd C dX4_cancel_11 ?_
  obtain ⟨g3, eg3, hF⟩ := lt_e hF
  refine op_1_9 C hW.x (Or.inl (k1 hj hp)) (hW.fr (k1 hj hp)) (sP_g (Ω := Ω) (j := j) (p := p) (g := g2)) wm1_83 dX4_cancel_12 (sP_P.trans (congrArg (sP Ω j p) eg3)) ?_
  cases hF
  exact r_return C dX4_cancel_15
theorem dX4_queuedMinusSettled_0 : decode cX4_queuedMinusSettled 0 = .ok (.aload_n 0, 1) := by decide +kernel
theorem dX4_queuedMinusSettled_1 : decode cX4_queuedMinusSettled 1 = .ok (.getfield 30, 3) := by decide +kernel
theorem dX4_queuedMinusSettled_4 : decode cX4_queuedMinusSettled 4 = .ok (.aload_n 0, 1) := by decide +kernel
theorem dX4_queuedMinusSettled_5 : decode cX4_queuedMinusSettled 5 = .ok (.getfield 33, 3) := by decide +kernel
theorem dX4_queuedMinusSettled_8 : decode cX4_queuedMinusSettled 8 = .ok (.aload_n 0, 1) := by decide +kernel
theorem dX4_queuedMinusSettled_9 : decode cX4_queuedMinusSettled 9 = .ok (.getfield 39, 3) := by decide +kernel
theorem dX4_queuedMinusSettled_12 : decode cX4_queuedMinusSettled 12 = .ok (.iadd, 1) := by decide +kernel
theorem dX4_queuedMinusSettled_13 : decode cX4_queuedMinusSettled 13 = .ok (.aload_n 0, 1) := by decide +kernel
theorem dX4_queuedMinusSettled_14 : decode cX4_queuedMinusSettled 14 = .ok (.getfield 23, 3) := by decide +kernel
theorem dX4_queuedMinusSettled_17 : decode cX4_queuedMinusSettled 17 = .ok (.iadd, 1) := by decide +kernel
theorem dX4_queuedMinusSettled_18 : decode cX4_queuedMinusSettled 18 = .ok (.aload_n 0, 1) := by decide +kernel
theorem dX4_queuedMinusSettled_19 : decode cX4_queuedMinusSettled 19 = .ok (.invokevirtual 77, 3) := by decide +kernel
theorem dX4_queuedMinusSettled_22 : decode cX4_queuedMinusSettled 22 = .ok (.ifCond .eq 7, 3) := by decide +kernel
theorem dX4_queuedMinusSettled_25 : decode cX4_queuedMinusSettled 25 = .ok (.iconst 1, 1) := by decide +kernel
theorem dX4_queuedMinusSettled_26 : decode cX4_queuedMinusSettled 26 = .ok (.goto 4, 3) := by decide +kernel
theorem dX4_queuedMinusSettled_29 : decode cX4_queuedMinusSettled 29 = .ok (.iconst 0, 1) := by decide +kernel
theorem dX4_queuedMinusSettled_30 : decode cX4_queuedMinusSettled 30 = .ok (.iadd, 1) := by decide +kernel
theorem dX4_queuedMinusSettled_31 : decode cX4_queuedMinusSettled 31 = .ok (.isub, 1) := by decide +kernel
theorem dX4_queuedMinusSettled_32 : decode cX4_queuedMinusSettled 32 = .ok (.ireturn, 1) := by decide +kernel
def F_X4_queuedMinusSettled (g : HV) : Int32 := (if (F_X4_isWriting g) = true then ((g.1 6) - ((((g.1 7) + (g.1 9)) + (g.1 2)) + 1)) else ((g.1 6) - ((((g.1 7) + (g.1 9)) + (g.1 2)) + 0)))
theorem c_X4_queuedMinusSettled {w : WP} (hW : gW w) {Ω : OM} {j p : Nat} (hj : j ≤ 10) (hp : p = 1 ∨ p = 2) {g : HV} (e : Ω.1 j p = g)  {v : Int32} (hF : F_X4_queuedMinusSettled g = v) : gM w 1 yX4_queuedMinusSettled cX4_queuedMinusSettled 1 (some .int) [.ref (wAd w (1, j, p, 0))] (cA w Ω) (some (.int v)) (cA w Ω) := by
  refine gM_of "HedgeMessages$Gardener" rfl (by decide) (kR rfl) fun X C => ?_
  unfold F_X4_queuedMinusSettled at hF
  show gV w X _ _ 0 [(0, .ref (wAd w (1, j, p, 0)))] []
  refine r_aload_n C (k := 0) rfl rfl dX4_queuedMinusSettled_0 ?_
  refine og_1_6 C (hW.ok (k1 hj hp)) e wm1_74 dX4_queuedMinusSettled_1 ?_
  refine r_aload_n C (k := 0) rfl rfl dX4_queuedMinusSettled_4 ?_
  refine og_1_7 C (hW.ok (k1 hj hp)) e wm1_77 dX4_queuedMinusSettled_5 ?_
  refine r_aload_n C (k := 0) rfl rfl dX4_queuedMinusSettled_8 ?_
  refine og_1_9 C (hW.ok (k1 hj hp)) e wm1_83 dX4_queuedMinusSettled_9 ?_
  refine r_iadd C dX4_queuedMinusSettled_12 ?_
  refine r_aload_n C (k := 0) rfl rfl dX4_queuedMinusSettled_13 ?_
  refine og_1_2 C (hW.ok (k1 hj hp)) e wm1_63 dX4_queuedMinusSettled_14 ?_
  refine r_iadd C dX4_queuedMinusSettled_17 ?_
  refine r_aload_n C (k := 0) rfl rfl dX4_queuedMinusSettled_18 ?_
  refine r_callV C (d' := 0) [] (c_X4_isWriting hW hj hp e rfl) myX4_isWriting wm5_178 ⟨_, _, _, _, (hW.ok (k1 hj hp)), rfl, rfl, rfl, rfl⟩ rfl (kR rfl) (by decide) (kR rfl) rfl dX4_queuedMinusSettled_19 ?_
  refine r_if_eq C (tgt := 29) rfl dX4_queuedMinusSettled_22 (fun hc => ?_) (fun hc => ?_)
  · rw [if_neg (b2i_f hc)] at hF
    refine r_iconst C (v := 0) rfl dX4_queuedMinusSettled_29 ?_
    refine r_iadd C dX4_queuedMinusSettled_30 ?_
    refine r_isub C dX4_queuedMinusSettled_31 ?_
    cases hF
    exact r_ireturn C dX4_queuedMinusSettled_32
  · rw [if_pos (b2i_t hc)] at hF
    refine r_iconst C (v := 1) rfl dX4_queuedMinusSettled_25 ?_
    refine r_goto C (tgt := 30) rfl dX4_queuedMinusSettled_26 ?_
    refine r_iadd C dX4_queuedMinusSettled_30 ?_
    refine r_isub C dX4_queuedMinusSettled_31 ?_
    cases hF
    exact r_ireturn C dX4_queuedMinusSettled_32
theorem dX7_countOf_0 : decode cX7_countOf 0 = .ok (.iconst 0, 1) := by decide +kernel
theorem dX7_countOf_1 : decode cX7_countOf 1 = .ok (.istore_n 2, 1) := by decide +kernel
theorem dX7_countOf_2 : decode cX7_countOf 2 = .ok (.iconst 0, 1) := by decide +kernel
theorem dX7_countOf_3 : decode cX7_countOf 3 = .ok (.istore_n 3, 1) := by decide +kernel
theorem dX7_countOf_4 : decode cX7_countOf 4 = .ok (.iload_n 3, 1) := by decide +kernel
theorem dX7_countOf_5 : decode cX7_countOf 5 = .ok (.aload_n 0, 1) := by decide +kernel
theorem dX7_countOf_6 : decode cX7_countOf 6 = .ok (.getfield 30, 3) := by decide +kernel
theorem dX7_countOf_9 : decode cX7_countOf 9 = .ok (.if_icmp .ge 24, 3) := by decide +kernel
theorem dX7_countOf_12 : decode cX7_countOf 12 = .ok (.aload_n 0, 1) := by decide +kernel
theorem dX7_countOf_13 : decode cX7_countOf 13 = .ok (.getfield 14, 3) := by decide +kernel
theorem dX7_countOf_16 : decode cX7_countOf 16 = .ok (.iload_n 3, 1) := by decide +kernel
theorem dX7_countOf_17 : decode cX7_countOf 17 = .ok (.invokevirtual 34, 3) := by decide +kernel
theorem dX7_countOf_20 : decode cX7_countOf 20 = .ok (.iload_n 1, 1) := by decide +kernel
theorem dX7_countOf_21 : decode cX7_countOf 21 = .ok (.if_icmp .ne 6, 3) := by decide +kernel
theorem dX7_countOf_24 : decode cX7_countOf 24 = .ok (.iinc 2 1, 3) := by decide +kernel
theorem dX7_countOf_27 : decode cX7_countOf 27 = .ok (.iinc 3 1, 3) := by decide +kernel
theorem dX7_countOf_30 : decode cX7_countOf 30 = .ok (.goto (-26), 3) := by decide +kernel
theorem dX7_countOf_33 : decode cX7_countOf 33 = .ok (.iload_n 2, 1) := by decide +kernel
theorem dX7_countOf_34 : decode cX7_countOf 34 = .ok (.ireturn, 1) := by decide +kernel
def st_X7_countOf_4 (N : Nat) (l1 : Int32) (l2 : Int32) (l3 : Int32) (g : HV) : Option ((Int32 × Int32) ⊕ (Int32)) := (if (g.1 3) ≤ l3 then some (.inr l2) else (if (rget 20 (g.2 0) l3) = l1 then some (.inl ((l2 + 1), (l3 + 1))) else some (.inl (l2, (l3 + 1)))))
def F_X7_countOf (N : Nat) (a1 : Int32) (g : HV) : Option (Int32) := (lpN N (fun z => st_X7_countOf_4 N a1 z.1 z.2 g) (0, 0))
theorem lp_X7_countOf_4 {w : WP} (hW : gW w) {Ω : OM} {j : Nat} (hj : j ≤ 10) {g : HV} (e : Ω.1 j 3 = g)  (l1 : Int32) {N : Nat} {X : CX} (C : gC w X cX7_countOf "HedgeMessages$PostedMessages" (some .int) 1 4) {v : Int32}  : ∀ (n : Nat) (l2 : Int32) (l3 : Int32), lpN n (fun z : Int32 × Int32 => st_X7_countOf_4 N l1 z.1 z.2 g) (l2, l3) = some v → gV w X (some (.int v), cA w Ω) (cA w Ω) 4 [(0, .ref (wAd w (2, j, 3, 0))), (1, .int l1), (2, .int l2), (3, .int l3)] [] := by
  intro n
  induction n with
  | zero => intro l2 l3 hL; exact lpN_0 hL
  | succ n ih =>
    intro l2 l3 hL
    obtain ⟨q9, hF, hL⟩ := lpN_e hL
    change st_X7_countOf_4 N l1 l2 l3 g = some q9 at hF
    unfold st_X7_countOf_4 at hF
    refine r_iload_n C (k := 3) rfl rfl dX7_countOf_4 ?_
    refine r_aload_n C (k := 0) rfl rfl dX7_countOf_5 ?_
    refine og_2_3 C (hW.ok (k2 hj)) e wm1_121 dX7_countOf_6 ?_
    refine r_icmp_ge C (tgt := 33) rfl dX7_countOf_9 (fun hc => ?_) (fun hc => ?_)
    · rw [if_pos hc] at hF
      refine r_iload_n C (k := 2) rfl rfl dX7_countOf_33 ?_
      cases hF
      change some _ = some _ at hL
      cases hL
      exact r_ireturn C dX7_countOf_34
    · rw [if_neg hc] at hF
      refine r_aload_n C (k := 0) rfl rfl dX7_countOf_12 ?_
      refine og_2_0 C (hW.ok (k2 hj)) wm1_115 dX7_countOf_13 ?_
      refine r_iload_n C (k := 3) rfl rfl dX7_countOf_16 ?_
      refine r_callV C (d' := 0) [.int l3] (c_rget (hW.ok (i := (3, j, 3, 0)) (q3 hj (kR rfl))) (hW.ok (i := (4, j, 3, 0)) (q3 hj (kR rfl))) (show rlen 3 0 = 20 from rfl) (by decide) (congrArg (fun z => z.2 0) e) rfl) myX8_get wm4_157 ⟨_, _, _, _, (hW.ok (i := (3, j, 3, 0)) (q3 hj (kR rfl))), rfl, rfl, rfl, rfl⟩ rfl (kR rfl) (by decide) (kR rfl) rfl dX7_countOf_17 ?_
      refine r_iload_n C (k := 1) rfl rfl dX7_countOf_20 ?_
      refine r_icmp_ne C (tgt := 27) rfl dX7_countOf_21 (fun hc => ?_) (fun hc => ?_)
      · rw [if_neg hc] at hF
        refine r_iinc C (k := 3) (v := (l3 + 1)) (lo' := [(3, .int (l3 + 1)), (0, .ref (wAd w (2, j, 3, 0))), (1, .int l1), (2, .int l2)]) rfl rfl (by decide) rfl dX7_countOf_27 ?_
        refine r_goto C (tgt := 4) rfl dX7_countOf_30 ?_
        cases hF
        change lpN n _ _ = some _ at hL
        refine r_lo [1, 2, 3, 0] (lo' := [(0, .ref (wAd w (2, j, 3, 0))), (1, .int l1), (2, .int l2), (3, .int (l3 + 1))]) rfl ?_
        exact ih l2 (l3 + 1) hL
      · rw [if_pos hc] at hF
        refine r_iinc C (k := 2) (v := (l2 + 1)) (lo' := [(2, .int (l2 + 1)), (0, .ref (wAd w (2, j, 3, 0))), (1, .int l1), (3, .int l3)]) rfl rfl (by decide) rfl dX7_countOf_24 ?_
        refine r_iinc C (k := 3) (v := (l3 + 1)) (lo' := [(3, .int (l3 + 1)), (2, .int (l2 + 1)), (0, .ref (wAd w (2, j, 3, 0))), (1, .int l1)]) rfl rfl (by decide) rfl dX7_countOf_27 ?_
        refine r_goto C (tgt := 4) rfl dX7_countOf_30 ?_
        cases hF
        change lpN n _ _ = some _ at hL
        refine r_lo [2, 3, 1, 0] (lo' := [(0, .ref (wAd w (2, j, 3, 0))), (1, .int l1), (2, .int (l2 + 1)), (3, .int (l3 + 1))]) rfl ?_
        exact ih (l2 + 1) (l3 + 1) hL
theorem c_X7_countOf {w : WP} (hW : gW w) {Ω : OM} {j : Nat} (hj : j ≤ 10) {g : HV} (e : Ω.1 j 3 = g) (N : Nat) (a1 : Int32) {v : Int32} (hF : F_X7_countOf N a1 g = some v) : gM w 1 yX7_countOf cX7_countOf 4 (some .int) [.ref (wAd w (2, j, 3, 0)), .int a1] (cA w Ω) (some (.int v)) (cA w Ω) := by
  refine gM_of "HedgeMessages$PostedMessages" rfl (by decide) (kR rfl) fun X C => ?_
  unfold F_X7_countOf at hF
  show gV w X _ _ 0 [(0, .ref (wAd w (2, j, 3, 0))), (1, .int a1)] []
  refine r_iconst C (v := 0) rfl dX7_countOf_0 ?_
  refine r_istore_n C (lo' := [(2, .int 0), (0, .ref (wAd w (2, j, 3, 0))), (1, .int a1)]) rfl (by decide) rfl dX7_countOf_1 ?_
  refine r_iconst C (v := 0) rfl dX7_countOf_2 ?_
  refine r_istore_n C (lo' := [(3, .int 0), (2, .int 0), (0, .ref (wAd w (2, j, 3, 0))), (1, .int a1)]) rfl (by decide) rfl dX7_countOf_3 ?_
  refine r_lo [2, 3, 1, 0] (lo' := [(0, .ref (wAd w (2, j, 3, 0))), (1, .int a1), (2, .int 0), (3, .int 0)]) rfl ?_
  exact lp_X7_countOf_4 hW hj e a1 C N 0 0 hF
theorem dX7_post_0 : decode cX7_post 0 = .ok (.aload_n 0, 1) := by decide +kernel
theorem dX7_post_1 : decode cX7_post 1 = .ok (.getfield 14, 3) := by decide +kernel
theorem dX7_post_4 : decode cX7_post 4 = .ok (.aload_n 0, 1) := by decide +kernel
theorem dX7_post_5 : decode cX7_post 5 = .ok (.getfield 30, 3) := by decide +kernel
theorem dX7_post_8 : decode cX7_post 8 = .ok (.iload_n 1, 1) := by decide +kernel
theorem dX7_post_9 : decode cX7_post 9 = .ok (.invokevirtual 38, 3) := by decide +kernel
theorem dX7_post_12 : decode cX7_post 12 = .ok (.aload_n 0, 1) := by decide +kernel
theorem dX7_post_13 : decode cX7_post 13 = .ok (.getfield 20, 3) := by decide +kernel
theorem dX7_post_16 : decode cX7_post 16 = .ok (.aload_n 0, 1) := by decide +kernel
theorem dX7_post_17 : decode cX7_post 17 = .ok (.getfield 30, 3) := by decide +kernel
theorem dX7_post_20 : decode cX7_post 20 = .ok (.iload_n 2, 1) := by decide +kernel
theorem dX7_post_21 : decode cX7_post 21 = .ok (.invokevirtual 38, 3) := by decide +kernel
theorem dX7_post_24 : decode cX7_post 24 = .ok (.aload_n 0, 1) := by decide +kernel
theorem dX7_post_25 : decode cX7_post 25 = .ok (.getfield 23, 3) := by decide +kernel
theorem dX7_post_28 : decode cX7_post 28 = .ok (.aload_n 0, 1) := by decide +kernel
theorem dX7_post_29 : decode cX7_post 29 = .ok (.getfield 30, 3) := by decide +kernel
theorem dX7_post_32 : decode cX7_post 32 = .ok (.iload_n 3, 1) := by decide +kernel
theorem dX7_post_33 : decode cX7_post 33 = .ok (.invokevirtual 38, 3) := by decide +kernel
theorem dX7_post_36 : decode cX7_post 36 = .ok (.aload_n 0, 1) := by decide +kernel
theorem dX7_post_37 : decode cX7_post 37 = .ok (.dup, 1) := by decide +kernel
theorem dX7_post_38 : decode cX7_post 38 = .ok (.getfield 30, 3) := by decide +kernel
theorem dX7_post_41 : decode cX7_post 41 = .ok (.iconst 1, 1) := by decide +kernel
theorem dX7_post_42 : decode cX7_post 42 = .ok (.iadd, 1) := by decide +kernel
theorem dX7_post_43 : decode cX7_post 43 = .ok (.putfield 30, 3) := by decide +kernel
theorem dX7_post_46 : decode cX7_post 46 = .ok (.return_, 1) := by decide +kernel
def F_X7_post (a1 : Int32) (a2 : Int32) (a3 : Int32) (g : HV) : HV := (lt (sA g 0 (rset 20 (g.2 0) (g.1 3) a1)) fun g2 => (lt (sA g2 1 (rset 20 (g2.2 1) (g2.1 3) a2)) fun g4 => (lt (sA g4 2 (rset 20 (g4.2 2) (g4.1 3) a3)) fun g6 => (lt (sS g6 3 ((g6.1 3) + 1)) fun g7 => g7))))
theorem c_X7_post {w : WP} (hW : gW w) {Ω : OM} {j : Nat} (hj : j ≤ 10) {g : HV} (e : Ω.1 j 3 = g) (a1 : Int32) (a2 : Int32) (a3 : Int32) {g' : HV} (hF : F_X7_post a1 a2 a3 g = g') {Ω' : OM} (e2 : (sP Ω j 3 g') = Ω') : gM w 1 yX7_post cX7_post 4 none [.ref (wAd w (2, j, 3, 0)), .int a1, .int a2, .int a3] (cA w Ω) none (cA w Ω') := by
  refine gM_of "HedgeMessages$PostedMessages" rfl (by decide) (kR rfl) fun X C => ?_
  unfold F_X7_post at hF
  subst e2
  show gV w X _ _ 0 [(0, .ref (wAd w (2, j, 3, 0))), (1, .int a1), (2, .int a2), (3, .int a3)] []
  refine r_ct (ct' := cA w (sP Ω j 3 g)) (congrArg (cA w) (sP_i e).symm) ?_
  refine r_aload_n C (k := 0) rfl rfl dX7_post_0 ?_
  refine og_2_0 C (hW.ok (k2 hj)) wm1_115 dX7_post_1 ?_
  refine r_aload_n C (k := 0) rfl rfl dX7_post_4 ?_
  refine og_2_3 C (hW.ok (k2 hj)) (sP_g (Ω := Ω) (j := j) (p := 3) (g := g)) wm1_121 dX7_post_5 ?_
  refine r_iload_n C (k := 1) rfl rfl dX7_post_8 ?_
  obtain ⟨g2, eg2, hF⟩ := lt_e hF
  refine r_callV C (d' := 0) [.int (g.1 3), .int a1] (c_rset hW.x (Or.inl (show okC (4, j, 3, 0) from (q3 hj (kR rfl)))) (hW.ok (i := (3, j, 3, 0)) (q3 hj (kR rfl))) (hW.ok (i := (4, j, 3, 0)) (q3 hj (kR rfl))) (hW.fr (i := (4, j, 3, 0)) (q3 hj (kR rfl))) (show rlen 3 0 = 20 from rfl) (by decide) (sP_g (Ω := Ω) (j := j) (p := 3) (g := g)) rfl (sP_P.trans (congrArg (sP Ω j 3) eg2))) myX8_set wm4_162 ⟨_, _, _, _, (hW.ok (i := (3, j, 3, 0)) (q3 hj (kR rfl))), rfl, rfl, rfl, rfl⟩ rfl (kR rfl) (by decide) (kR rfl) rfl dX7_post_9 ?_
  refine r_aload_n C (k := 0) rfl rfl dX7_post_12 ?_
  refine og_2_1 C (hW.ok (k2 hj)) wm1_117 dX7_post_13 ?_
  refine r_aload_n C (k := 0) rfl rfl dX7_post_16 ?_
  refine og_2_3 C (hW.ok (k2 hj)) (sP_g (Ω := Ω) (j := j) (p := 3) (g := g2)) wm1_121 dX7_post_17 ?_
  refine r_iload_n C (k := 2) rfl rfl dX7_post_20 ?_
  obtain ⟨g4, eg4, hF⟩ := lt_e hF
  refine r_callV C (d' := 0) [.int (g2.1 3), .int a2] (c_rset hW.x (Or.inl (show okC (4, j, 3, 1) from (q3 hj (kR rfl)))) (hW.ok (i := (3, j, 3, 1)) (q3 hj (kR rfl))) (hW.ok (i := (4, j, 3, 1)) (q3 hj (kR rfl))) (hW.fr (i := (4, j, 3, 1)) (q3 hj (kR rfl))) (show rlen 3 1 = 20 from rfl) (by decide) (sP_g (Ω := Ω) (j := j) (p := 3) (g := g2)) rfl (sP_P.trans (congrArg (sP Ω j 3) eg4))) myX8_set wm4_162 ⟨_, _, _, _, (hW.ok (i := (3, j, 3, 1)) (q3 hj (kR rfl))), rfl, rfl, rfl, rfl⟩ rfl (kR rfl) (by decide) (kR rfl) rfl dX7_post_21 ?_
  refine r_aload_n C (k := 0) rfl rfl dX7_post_24 ?_
  refine og_2_2 C (hW.ok (k2 hj)) wm1_119 dX7_post_25 ?_
  refine r_aload_n C (k := 0) rfl rfl dX7_post_28 ?_
  refine og_2_3 C (hW.ok (k2 hj)) (sP_g (Ω := Ω) (j := j) (p := 3) (g := g4)) wm1_121 dX7_post_29 ?_
  refine r_iload_n C (k := 3) rfl rfl dX7_post_32 ?_
  obtain ⟨g6, eg6, hF⟩ := lt_e hF
  refine r_callV C (d' := 0) [.int (g4.1 3), .int a3] (c_rset hW.x (Or.inl (show okC (4, j, 3, 2) from (q3 hj (kR rfl)))) (hW.ok (i := (3, j, 3, 2)) (q3 hj (kR rfl))) (hW.ok (i := (4, j, 3, 2)) (q3 hj (kR rfl))) (hW.fr (i := (4, j, 3, 2)) (q3 hj (kR rfl))) (show rlen 3 2 = 20 from rfl) (by decide) (sP_g (Ω := Ω) (j := j) (p := 3) (g := g4)) rfl (sP_P.trans (congrArg (sP Ω j 3) eg6))) myX8_set wm4_162 ⟨_, _, _, _, (hW.ok (i := (3, j, 3, 2)) (q3 hj (kR rfl))), rfl, rfl, rfl, rfl⟩ rfl (kR rfl) (by decide) (kR rfl) rfl dX7_post_33 ?_
  refine r_aload_n C (k := 0) rfl rfl dX7_post_36 ?_
  refine r_dup C rfl dX7_post_37 ?_
  refine og_2_3 C (hW.ok (k2 hj)) (sP_g (Ω := Ω) (j := j) (p := 3) (g := g6)) wm1_121 dX7_post_38 ?_
  refine r_iconst C (v := 1) rfl dX7_post_41 ?_
  refine r_iadd C dX7_post_42 ?_
  obtain ⟨g7, eg7, hF⟩ := lt_e hF
  refine op_2_3 C hW.x (Or.inl (k2 hj)) (hW.fr (k2 hj)) (sP_g (Ω := Ω) (j := j) (p := 3) (g := g6)) wm1_121 dX7_post_43 (sP_P.trans (congrArg (sP Ω j 3) eg7)) ?_
  cases hF
  exact r_return C dX7_post_46
theorem dX7_startSifting_0 : decode cX7_startSifting 0 = .ok (.aload_n 0, 1) := by decide +kernel
theorem dX7_startSifting_1 : decode cX7_startSifting 1 = .ok (.getfield 30, 3) := by decide +kernel
theorem dX7_startSifting_4 : decode cX7_startSifting 4 = .ok (.istore_n 1, 1) := by decide +kernel
theorem dX7_startSifting_5 : decode cX7_startSifting 5 = .ok (.aload_n 0, 1) := by decide +kernel
theorem dX7_startSifting_6 : decode cX7_startSifting 6 = .ok (.iconst 0, 1) := by decide +kernel
theorem dX7_startSifting_7 : decode cX7_startSifting 7 = .ok (.putfield 30, 3) := by decide +kernel
theorem dX7_startSifting_10 : decode cX7_startSifting 10 = .ok (.iload_n 1, 1) := by decide +kernel
theorem dX7_startSifting_11 : decode cX7_startSifting 11 = .ok (.ireturn, 1) := by decide +kernel
def F_X7_startSifting (g : HV) : Int32 × (HV) := (lt (sS g 3 0) fun g1 => ((g.1 3), g1))
theorem c_X7_startSifting {w : WP} (hW : gW w) {Ω : OM} {j : Nat} (hj : j ≤ 10) {g : HV} (e : Ω.1 j 3 = g)  {v : Int32} {g' : HV} (hF : F_X7_startSifting g = (v, g')) {Ω' : OM} (e2 : (sP Ω j 3 g') = Ω') : gM w 0 yX7_startSifting cX7_startSifting 2 (some .int) [.ref (wAd w (2, j, 3, 0))] (cA w Ω) (some (.int v)) (cA w Ω') := by
  refine gM_of "HedgeMessages$PostedMessages" rfl (by decide) (kR rfl) fun X C => ?_
  unfold F_X7_startSifting at hF
  subst e2
  show gV w X _ _ 0 [(0, .ref (wAd w (2, j, 3, 0)))] []
  refine r_ct (ct' := cA w (sP Ω j 3 g)) (congrArg (cA w) (sP_i e).symm) ?_
  refine r_aload_n C (k := 0) rfl rfl dX7_startSifting_0 ?_
  refine og_2_3 C (hW.ok (k2 hj)) (sP_g (Ω := Ω) (j := j) (p := 3) (g := g)) wm1_121 dX7_startSifting_1 ?_
  refine r_istore_n C (lo' := [(1, .int (g.1 3)), (0, .ref (wAd w (2, j, 3, 0)))]) rfl (by decide) rfl dX7_startSifting_4 ?_
  refine r_aload_n C (k := 1) rfl rfl dX7_startSifting_5 ?_
  refine r_iconst C (v := 0) rfl dX7_startSifting_6 ?_
  obtain ⟨g1, eg1, hF⟩ := lt_e hF
  refine op_2_3 C hW.x (Or.inl (k2 hj)) (hW.fr (k2 hj)) (sP_g (Ω := Ω) (j := j) (p := 3) (g := g)) wm1_121 dX7_startSifting_7 (sP_P.trans (congrArg (sP Ω j 3) eg1)) ?_
  refine r_iload_n C (k := 0) rfl rfl dX7_startSifting_10 ?_
  cases hF
  exact r_ireturn C dX7_startSifting_11
theorem dX7_keep_0 : decode cX7_keep 0 = .ok (.aload_n 0, 1) := by decide +kernel
theorem dX7_keep_1 : decode cX7_keep 1 = .ok (.aload_n 0, 1) := by decide +kernel
theorem dX7_keep_2 : decode cX7_keep 2 = .ok (.getfield 14, 3) := by decide +kernel
theorem dX7_keep_5 : decode cX7_keep 5 = .ok (.iload_n 1, 1) := by decide +kernel
theorem dX7_keep_6 : decode cX7_keep 6 = .ok (.invokevirtual 34, 3) := by decide +kernel
theorem dX7_keep_9 : decode cX7_keep 9 = .ok (.aload_n 0, 1) := by decide +kernel
theorem dX7_keep_10 : decode cX7_keep 10 = .ok (.getfield 20, 3) := by decide +kernel
theorem dX7_keep_13 : decode cX7_keep 13 = .ok (.iload_n 1, 1) := by decide +kernel
theorem dX7_keep_14 : decode cX7_keep 14 = .ok (.invokevirtual 34, 3) := by decide +kernel
theorem dX7_keep_17 : decode cX7_keep 17 = .ok (.aload_n 0, 1) := by decide +kernel
theorem dX7_keep_18 : decode cX7_keep 18 = .ok (.getfield 23, 3) := by decide +kernel
theorem dX7_keep_21 : decode cX7_keep 21 = .ok (.iload_n 1, 1) := by decide +kernel
theorem dX7_keep_22 : decode cX7_keep 22 = .ok (.invokevirtual 34, 3) := by decide +kernel
theorem dX7_keep_25 : decode cX7_keep 25 = .ok (.invokevirtual 42, 3) := by decide +kernel
theorem dX7_keep_28 : decode cX7_keep 28 = .ok (.return_, 1) := by decide +kernel
def F_X7_keep (a1 : Int32) (g : HV) : HV := (lt (F_X7_post (rget 20 (g.2 0) a1) (rget 20 (g.2 1) a1) (rget 20 (g.2 2) a1) g) fun g2 => g2)
theorem c_X7_keep {w : WP} (hW : gW w) {Ω : OM} {j : Nat} (hj : j ≤ 10) {g : HV} (e : Ω.1 j 3 = g) (a1 : Int32) {g' : HV} (hF : F_X7_keep a1 g = g') {Ω' : OM} (e2 : (sP Ω j 3 g') = Ω') : gM w 2 yX7_keep cX7_keep 2 none [.ref (wAd w (2, j, 3, 0)), .int a1] (cA w Ω) none (cA w Ω') := by
  refine gM_of "HedgeMessages$PostedMessages" rfl (by decide) (kR rfl) fun X C => ?_
  unfold F_X7_keep at hF
  subst e2
  show gV w X _ _ 0 [(0, .ref (wAd w (2, j, 3, 0))), (1, .int a1)] []
  refine r_ct (ct' := cA w (sP Ω j 3 g)) (congrArg (cA w) (sP_i e).symm) ?_
  refine r_aload_n C (k := 0) rfl rfl dX7_keep_0 ?_
  refine r_aload_n C (k := 0) rfl rfl dX7_keep_1 ?_
  refine og_2_0 C (hW.ok (k2 hj)) wm1_115 dX7_keep_2 ?_
  refine r_iload_n C (k := 1) rfl rfl dX7_keep_5 ?_
  refine r_callV C (d' := 0) [.int a1] (c_rget (hW.ok (i := (3, j, 3, 0)) (q3 hj (kR rfl))) (hW.ok (i := (4, j, 3, 0)) (q3 hj (kR rfl))) (show rlen 3 0 = 20 from rfl) (by decide) (congrArg (fun z => z.2 0) (sP_g (Ω := Ω) (j := j) (p := 3) (g := g))) rfl) myX8_get wm4_157 ⟨_, _, _, _, (hW.ok (i := (3, j, 3, 0)) (q3 hj (kR rfl))), rfl, rfl, rfl, rfl⟩ rfl (kR rfl) (by decide) (kR rfl) rfl dX7_keep_6 ?_
  refine r_aload_n C (k := 0) rfl rfl dX7_keep_9 ?_
  refine og_2_1 C (hW.ok (k2 hj)) wm1_117 dX7_keep_10 ?_
  refine r_iload_n C (k := 1) rfl rfl dX7_keep_13 ?_
  refine r_callV C (d' := 0) [.int a1] (c_rget (hW.ok (i := (3, j, 3, 1)) (q3 hj (kR rfl))) (hW.ok (i := (4, j, 3, 1)) (q3 hj (kR rfl))) (show rlen 3 1 = 20 from rfl) (by decide) (congrArg (fun z => z.2 1) (sP_g (Ω := Ω) (j := j) (p := 3) (g := g))) rfl) myX8_get wm4_157 ⟨_, _, _, _, (hW.ok (i := (3, j, 3, 1)) (q3 hj (kR rfl))), rfl, rfl, rfl, rfl⟩ rfl (kR rfl) (by decide) (kR rfl) rfl dX7_keep_14 ?_
  refine r_aload_n C (k := 0) rfl rfl dX7_keep_17 ?_
  refine og_2_2 C (hW.ok (k2 hj)) wm1_119 dX7_keep_18 ?_
  refine r_iload_n C (k := 1) rfl rfl dX7_keep_21 ?_
  refine r_callV C (d' := 0) [.int a1] (c_rget (hW.ok (i := (3, j, 3, 2)) (q3 hj (kR rfl))) (hW.ok (i := (4, j, 3, 2)) (q3 hj (kR rfl))) (show rlen 3 2 = 20 from rfl) (by decide) (congrArg (fun z => z.2 2) (sP_g (Ω := Ω) (j := j) (p := 3) (g := g))) rfl) myX8_get wm4_157 ⟨_, _, _, _, (hW.ok (i := (3, j, 3, 2)) (q3 hj (kR rfl))), rfl, rfl, rfl, rfl⟩ rfl (kR rfl) (by decide) (kR rfl) rfl dX7_keep_22 ?_
  obtain ⟨g2, hg2, hF⟩ := lt_e hF
  refine r_callV C (d' := 1) [.int (rget 20 (g.2 0) a1), .int (rget 20 (g.2 1) a1), .int (rget 20 (g.2 2) a1)] (c_X7_post hW hj (sP_g (Ω := Ω) (j := j) (p := 3) (g := g)) (rget 20 (g.2 0) a1) (rget 20 (g.2 1) a1) (rget 20 (g.2 2) a1) hg2 sP_P) myX7_post wm4_158 ⟨_, _, _, _, (hW.ok (k2 hj)), rfl, rfl, rfl, rfl⟩ rfl (kR rfl) (by decide) (kR rfl) rfl dX7_keep_25 ?_
  cases hF
  exact r_return C dX7_keep_28
