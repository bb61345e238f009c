/-! ===== 36.face: printed by wip/p66/gen.py ===== -/
theorem dX10_slotCount_0 : decode cX10_slotCount 0 = .ok (.aload_n 0, 1) := by decide +kernel
theorem dX10_slotCount_1 : decode cX10_slotCount 1 = .ok (.getfield 10, 3) := by decide +kernel
theorem dX10_slotCount_4 : decode cX10_slotCount 4 = .ok (.getfield 108, 3) := by decide +kernel
theorem dX10_slotCount_7 : decode cX10_slotCount 7 = .ok (.ireturn, 1) := by decide +kernel
def F_X10_slotCount (S : Nat → Nat → HV) : Int32 := ((S 0 0).1 0)
theorem c_X10_slotCount {w : WP} (hW : gW w) {Ω : OM}  {S : Nat → Nat → HV} (e : Ω.1 = S)  {v : Int32} (hF : F_X10_slotCount S = v) : gM w 0 yX10_slotCount cX10_slotCount 1 (some .int) [.ref (wAd w (7, 11, 6, 0))] (cA w Ω) (some (.int v)) (cA w Ω) := by
  refine gM_of "HedgeMessages" rfl (by decide) (kR rfl) fun X C => ?_
  unfold F_X10_slotCount at hF
  show gV w X _ _ 0 [(0, .ref (wAd w (7, 11, 6, 0)))] []
  refine r_aload_n C (k := 0) rfl rfl dX10_slotCount_0 ?_
  refine og_7_0 C (hW.ok k7) wm2_159 dX10_slotCount_1 ?_
  refine ogN_0_0 C (hW.ok (k0 (by decide))) (congrFun (congrFun e 0) 0) wm1_134 dX10_slotCount_4 ?_
  cases hF
  exact r_ireturn C dX10_slotCount_7
theorem dX10_day_0 : decode cX10_day 0 = .ok (.aload_n 0, 1) := by decide +kernel
theorem dX10_day_1 : decode cX10_day 1 = .ok (.getfield 10, 3) := by decide +kernel
theorem dX10_day_4 : decode cX10_day 4 = .ok (.getfield 132, 3) := by decide +kernel
theorem dX10_day_7 : decode cX10_day 7 = .ok (.ireturn, 1) := by decide +kernel
def F_X10_day (S : Nat → Nat → HV) : Int32 := ((S 0 0).1 6)
theorem c_X10_day {w : WP} (hW : gW w) {Ω : OM}  {S : Nat → Nat → HV} (e : Ω.1 = S)  {v : Int32} (hF : F_X10_day S = v) : gM w 0 yX10_day cX10_day 1 (some .int) [.ref (wAd w (7, 11, 6, 0))] (cA w Ω) (some (.int v)) (cA w Ω) := by
  refine gM_of "HedgeMessages" rfl (by decide) (kR rfl) fun X C => ?_
  unfold F_X10_day at hF
  show gV w X _ _ 0 [(0, .ref (wAd w (7, 11, 6, 0)))] []
  refine r_aload_n C (k := 0) rfl rfl dX10_day_0 ?_
  refine og_7_0 C (hW.ok k7) wm2_159 dX10_day_1 ?_
  refine ogN_0_6 C (hW.ok (k0 (by decide))) (congrFun (congrFun e 0) 0) wm1_143 dX10_day_4 ?_
  cases hF
  exact r_ireturn C dX10_day_7
theorem dX10_activeGardener_0 : decode cX10_activeGardener 0 = .ok (.aload_n 0, 1) := by decide +kernel
theorem dX10_activeGardener_1 : decode cX10_activeGardener 1 = .ok (.getfield 10, 3) := by decide +kernel
theorem dX10_activeGardener_4 : decode cX10_activeGardener 4 = .ok (.invokevirtual 135, 3) := by decide +kernel
theorem dX10_activeGardener_7 : decode cX10_activeGardener 7 = .ok (.ireturn, 1) := by decide +kernel
def F_X10_activeGardener (S : Nat → Nat → HV) : Int32 := (F_X5_active (S 0))
theorem c_X10_activeGardener {w : WP} (hW : gW w) {Ω : OM}  {S : Nat → Nat → HV} (e : Ω.1 = S)  {v : Int32} (hF : F_X10_activeGardener S = v) : gM w 1 yX10_activeGardener cX10_activeGardener 1 (some .int) [.ref (wAd w (7, 11, 6, 0))] (cA w Ω) (some (.int v)) (cA w Ω) := by
  refine gM_of "HedgeMessages" rfl (by decide) (kR rfl) fun X C => ?_
  unfold F_X10_activeGardener at hF
  show gV w X _ _ 0 [(0, .ref (wAd w (7, 11, 6, 0)))] []
  refine r_aload_n C (k := 0) rfl rfl dX10_activeGardener_0 ?_
  refine og_7_0 C (hW.ok k7) wm2_159 dX10_activeGardener_1 ?_
  refine r_callV C (d' := 0) [] (c_X5_active hW (by decide) (congrFun e 0) rfl) myX5_active wm5_92 ⟨_, _, _, _, (hW.ok (k0 (by decide))), rfl, rfl, rfl, rfl⟩ rfl (kR rfl) (by decide) (kR rfl) rfl dX10_activeGardener_4 ?_
  cases hF
  exact r_ireturn C dX10_activeGardener_7
theorem dX10_workLimit_0 : decode cX10_workLimit 0 = .ok (.aload_n 0, 1) := by decide +kernel
theorem dX10_workLimit_1 : decode cX10_workLimit 1 = .ok (.getfield 10, 3) := by decide +kernel
theorem dX10_workLimit_4 : decode cX10_workLimit 4 = .ok (.getfield 139, 3) := by decide +kernel
theorem dX10_workLimit_7 : decode cX10_workLimit 7 = .ok (.ireturn, 1) := by decide +kernel
def F_X10_workLimit (S : Nat → Nat → HV) : Int32 := ((S 0 0).1 1)
theorem c_X10_workLimit {w : WP} (hW : gW w) {Ω : OM}  {S : Nat → Nat → HV} (e : Ω.1 = S)  {v : Int32} (hF : F_X10_workLimit S = v) : gM w 0 yX10_workLimit cX10_workLimit 1 (some .int) [.ref (wAd w (7, 11, 6, 0))] (cA w Ω) (some (.int v)) (cA w Ω) := by
  refine gM_of "HedgeMessages" rfl (by decide) (kR rfl) fun X C => ?_
  unfold F_X10_workLimit at hF
  show gV w X _ _ 0 [(0, .ref (wAd w (7, 11, 6, 0)))] []
  refine r_aload_n C (k := 0) rfl rfl dX10_workLimit_0 ?_
  refine og_7_0 C (hW.ok k7) wm2_159 dX10_workLimit_1 ?_
  refine ogN_0_1 C (hW.ok (k0 (by decide))) (congrFun (congrFun e 0) 0) wm1_137 dX10_workLimit_4 ?_
  cases hF
  exact r_ireturn C dX10_workLimit_7
theorem dX10_actionsLeft_0 : decode cX10_actionsLeft 0 = .ok (.aload_n 0, 1) := by decide +kernel
theorem dX10_actionsLeft_1 : decode cX10_actionsLeft 1 = .ok (.getfield 10, 3) := by decide +kernel
theorem dX10_actionsLeft_4 : decode cX10_actionsLeft 4 = .ok (.getfield 142, 3) := by decide +kernel
theorem dX10_actionsLeft_7 : decode cX10_actionsLeft 7 = .ok (.ireturn, 1) := by decide +kernel
def F_X10_actionsLeft (S : Nat → Nat → HV) : Int32 := ((S 0 0).1 7)
theorem c_X10_actionsLeft {w : WP} (hW : gW w) {Ω : OM}  {S : Nat → Nat → HV} (e : Ω.1 = S)  {v : Int32} (hF : F_X10_actionsLeft S = v) : gM w 0 yX10_actionsLeft cX10_actionsLeft 1 (some .int) [.ref (wAd w (7, 11, 6, 0))] (cA w Ω) (some (.int v)) (cA w Ω) := by
  refine gM_of "HedgeMessages" rfl (by decide) (kR rfl) fun X C => ?_
  unfold F_X10_actionsLeft at hF
  show gV w X _ _ 0 [(0, .ref (wAd w (7, 11, 6, 0)))] []
  refine r_aload_n C (k := 0) rfl rfl dX10_actionsLeft_0 ?_
  refine og_7_0 C (hW.ok k7) wm2_159 dX10_actionsLeft_1 ?_
  refine ogN_0_7 C (hW.ok (k0 (by decide))) (congrFun (congrFun e 0) 0) wm1_145 dX10_actionsLeft_4 ?_
  cases hF
  exact r_ireturn C dX10_actionsLeft_7
theorem dX10_twigCount_0 : decode cX10_twigCount 0 = .ok (.aload_n 0, 1) := by decide +kernel
theorem dX10_twigCount_1 : decode cX10_twigCount 1 = .ok (.getfield 10, 3) := by decide +kernel
theorem dX10_twigCount_4 : decode cX10_twigCount 4 = .ok (.invokevirtual 145, 3) := by decide +kernel
theorem dX10_twigCount_7 : decode cX10_twigCount 7 = .ok (.ireturn, 1) := by decide +kernel
def F_X10_twigCount (N : Nat) (S : Nat → Nat → HV) : Option (Int32) := (ob1 (F_X5_countTwigs N (S 0)) fun v1 => some v1)
theorem c_X10_twigCount {w : WP} (hW : gW w) {Ω : OM}  {S : Nat → Nat → HV} (e : Ω.1 = S) (N : Nat)  {v : Int32} (hF : F_X10_twigCount N S = some v) : gM w 2 yX10_twigCount cX10_twigCount 1 (some .int) [.ref (wAd w (7, 11, 6, 0))] (cA w Ω) (some (.int v)) (cA w Ω) := by
  refine gM_of "HedgeMessages" rfl (by decide) (kR rfl) fun X C => ?_
  unfold F_X10_twigCount at hF
  show gV w X _ _ 0 [(0, .ref (wAd w (7, 11, 6, 0)))] []
  refine r_aload_n C (k := 0) rfl rfl dX10_twigCount_0 ?_
  refine og_7_0 C (hW.ok k7) wm2_159 dX10_twigCount_1 ?_
  obtain ⟨v1, hv1, hF⟩ := ob1_e hF
  refine r_callV C (d' := 1) [] (c_X5_countTwigs hW (by decide) (congrFun e 0) N hv1) myX5_countTwigs wm4_20 ⟨_, _, _, _, (hW.ok (k0 (by decide))), rfl, rfl, rfl, rfl⟩ rfl (kR rfl) (by decide) (kR rfl) rfl dX10_twigCount_4 ?_
  cases hF
  exact r_ireturn C dX10_twigCount_7
theorem dX10_nestCount_0 : decode cX10_nestCount 0 = .ok (.aload_n 0, 1) := by decide +kernel
theorem dX10_nestCount_1 : decode cX10_nestCount 1 = .ok (.getfield 10, 3) := by decide +kernel
theorem dX10_nestCount_4 : decode cX10_nestCount 4 = .ok (.invokevirtual 176, 3) := by decide +kernel
theorem dX10_nestCount_7 : decode cX10_nestCount 7 = .ok (.ireturn, 1) := by decide +kernel
def F_X10_nestCount (N : Nat) (S : Nat → Nat → HV) : Option (Int32) := (ob1 (F_X5_countNests N (S 0)) fun v1 => some v1)
theorem c_X10_nestCount {w : WP} (hW : gW w) {Ω : OM}  {S : Nat → Nat → HV} (e : Ω.1 = S) (N : Nat)  {v : Int32} (hF : F_X10_nestCount N S = some v) : gM w 2 yX10_nestCount cX10_nestCount 1 (some .int) [.ref (wAd w (7, 11, 6, 0))] (cA w Ω) (some (.int v)) (cA w Ω) := by
  refine gM_of "HedgeMessages" rfl (by decide) (kR rfl) fun X C => ?_
  unfold F_X10_nestCount at hF
  show gV w X _ _ 0 [(0, .ref (wAd w (7, 11, 6, 0)))] []
  refine r_aload_n C (k := 0) rfl rfl dX10_nestCount_0 ?_
  refine og_7_0 C (hW.ok k7) wm2_159 dX10_nestCount_1 ?_
  obtain ⟨v1, hv1, hF⟩ := ob1_e hF
  refine r_callV C (d' := 1) [] (c_X5_countNests hW (by decide) (congrFun e 0) N hv1) myX5_countNests wm4_79 ⟨_, _, _, _, (hW.ok (k0 (by decide))), rfl, rfl, rfl, rfl⟩ rfl (kR rfl) (by decide) (kR rfl) rfl dX10_nestCount_4 ?_
  cases hF
  exact r_ireturn C dX10_nestCount_7
theorem dX10_daysUntilInspection_0 : decode cX10_daysUntilInspection 0 = .ok (.aload_n 0, 1) := by decide +kernel
theorem dX10_daysUntilInspection_1 : decode cX10_daysUntilInspection 1 = .ok (.getfield 10, 3) := by decide +kernel
theorem dX10_daysUntilInspection_4 : decode cX10_daysUntilInspection 4 = .ok (.invokevirtual 241, 3) := by decide +kernel
theorem dX10_daysUntilInspection_7 : decode cX10_daysUntilInspection 7 = .ok (.ireturn, 1) := by decide +kernel
def F_X10_daysUntilInspection (S : Nat → Nat → HV) : Option (Int32) := (ob1 (F_X5_daysToInspection (S 0)) fun v1 => some v1)
theorem c_X10_daysUntilInspection {w : WP} (hW : gW w) {Ω : OM}  {S : Nat → Nat → HV} (e : Ω.1 = S)  {v : Int32} (hF : F_X10_daysUntilInspection S = some v) : gM w 1 yX10_daysUntilInspection cX10_daysUntilInspection 1 (some .int) [.ref (wAd w (7, 11, 6, 0))] (cA w Ω) (some (.int v)) (cA w Ω) := by
  refine gM_of "HedgeMessages" rfl (by decide) (kR rfl) fun X C => ?_
  unfold F_X10_daysUntilInspection at hF
  show gV w X _ _ 0 [(0, .ref (wAd w (7, 11, 6, 0)))] []
  refine r_aload_n C (k := 0) rfl rfl dX10_daysUntilInspection_0 ?_
  refine og_7_0 C (hW.ok k7) wm2_159 dX10_daysUntilInspection_1 ?_
  obtain ⟨v1, hv1, hF⟩ := ob1_e hF
  refine r_callV C (d' := 0) [] (c_X5_daysToInspection hW (by decide) (congrFun e 0) hv1) myX5_daysToInspection wm5_217 ⟨_, _, _, _, (hW.ok (k0 (by decide))), rfl, rfl, rfl, rfl⟩ rfl (kR rfl) (by decide) (kR rfl) rfl dX10_daysUntilInspection_4 ?_
  cases hF
  exact r_ireturn C dX10_daysUntilInspection_7
theorem dX10_bestNestSlot_0 : decode cX10_bestNestSlot 0 = .ok (.aload_n 0, 1) := by decide +kernel
theorem dX10_bestNestSlot_1 : decode cX10_bestNestSlot 1 = .ok (.getfield 10, 3) := by decide +kernel
theorem dX10_bestNestSlot_4 : decode cX10_bestNestSlot 4 = .ok (.invokevirtual 256, 3) := by decide +kernel
theorem dX10_bestNestSlot_7 : decode cX10_bestNestSlot 7 = .ok (.ireturn, 1) := by decide +kernel
def F_X10_bestNestSlot (N : Nat) (S : Nat → Nat → HV) : Option (Int32) := (ob1 (F_X5_bestSlotForNest N (S 0)) fun v1 => some v1)
theorem c_X10_bestNestSlot {w : WP} (hW : gW w) {Ω : OM}  {S : Nat → Nat → HV} (e : Ω.1 = S) (N : Nat)  {v : Int32} (hF : F_X10_bestNestSlot N S = some v) : gM w 5 yX10_bestNestSlot cX10_bestNestSlot 1 (some .int) [.ref (wAd w (7, 11, 6, 0))] (cA w Ω) (some (.int v)) (cA w Ω) := by
  refine gM_of "HedgeMessages" rfl (by decide) (kR rfl) fun X C => ?_
  unfold F_X10_bestNestSlot at hF
  show gV w X _ _ 0 [(0, .ref (wAd w (7, 11, 6, 0)))] []
  refine r_aload_n C (k := 0) rfl rfl dX10_bestNestSlot_0 ?_
  refine og_7_0 C (hW.ok k7) wm2_159 dX10_bestNestSlot_1 ?_
  obtain ⟨v1, hv1, hF⟩ := ob1_e hF
  refine r_callV C (d' := 4) [] (c_X5_bestSlotForNest hW (by decide) (congrFun e 0) N hv1) myX5_bestSlotForNest wm5_225 ⟨_, _, _, _, (hW.ok (k0 (by decide))), rfl, rfl, rfl, rfl⟩ rfl (kR rfl) (by decide) (kR rfl) rfl dX10_bestNestSlot_4 ?_
  cases hF
  exact r_ireturn C dX10_bestNestSlot_7
theorem dX10_twigsPlanted_0 : decode cX10_twigsPlanted 0 = .ok (.aload_n 0, 1) := by decide +kernel
theorem dX10_twigsPlanted_1 : decode cX10_twigsPlanted 1 = .ok (.getfield 10, 3) := by decide +kernel
theorem dX10_twigsPlanted_4 : decode cX10_twigsPlanted 4 = .ok (.getfield 272, 3) := by decide +kernel
theorem dX10_twigsPlanted_7 : decode cX10_twigsPlanted 7 = .ok (.ireturn, 1) := by decide +kernel
def F_X10_twigsPlanted (S : Nat → Nat → HV) : Int32 := ((S 0 0).1 16)
theorem c_X10_twigsPlanted {w : WP} (hW : gW w) {Ω : OM}  {S : Nat → Nat → HV} (e : Ω.1 = S)  {v : Int32} (hF : F_X10_twigsPlanted S = v) : gM w 0 yX10_twigsPlanted cX10_twigsPlanted 1 (some .int) [.ref (wAd w (7, 11, 6, 0))] (cA w Ω) (some (.int v)) (cA w Ω) := by
  refine gM_of "HedgeMessages" rfl (by decide) (kR rfl) fun X C => ?_
  unfold F_X10_twigsPlanted at hF
  show gV w X _ _ 0 [(0, .ref (wAd w (7, 11, 6, 0)))] []
  refine r_aload_n C (k := 0) rfl rfl dX10_twigsPlanted_0 ?_
  refine og_7_0 C (hW.ok k7) wm2_159 dX10_twigsPlanted_1 ?_
  refine ogN_0_16 C (hW.ok (k0 (by decide))) (congrFun (congrFun e 0) 0) wm1_163 dX10_twigsPlanted_4 ?_
  cases hF
  exact r_ireturn C dX10_twigsPlanted_7
theorem dX10_twigsPruned_0 : decode cX10_twigsPruned 0 = .ok (.aload_n 0, 1) := by decide +kernel
theorem dX10_twigsPruned_1 : decode cX10_twigsPruned 1 = .ok (.getfield 10, 3) := by decide +kernel
theorem dX10_twigsPruned_4 : decode cX10_twigsPruned 4 = .ok (.getfield 275, 3) := by decide +kernel
theorem dX10_twigsPruned_7 : decode cX10_twigsPruned 7 = .ok (.ireturn, 1) := by decide +kernel
def F_X10_twigsPruned (S : Nat → Nat → HV) : Int32 := ((S 0 0).1 17)
theorem c_X10_twigsPruned {w : WP} (hW : gW w) {Ω : OM}  {S : Nat → Nat → HV} (e : Ω.1 = S)  {v : Int32} (hF : F_X10_twigsPruned S = v) : gM w 0 yX10_twigsPruned cX10_twigsPruned 1 (some .int) [.ref (wAd w (7, 11, 6, 0))] (cA w Ω) (some (.int v)) (cA w Ω) := by
  refine gM_of "HedgeMessages" rfl (by decide) (kR rfl) fun X C => ?_
  unfold F_X10_twigsPruned at hF
  show gV w X _ _ 0 [(0, .ref (wAd w (7, 11, 6, 0)))] []
  refine r_aload_n C (k := 0) rfl rfl dX10_twigsPruned_0 ?_
  refine og_7_0 C (hW.ok k7) wm2_159 dX10_twigsPruned_1 ?_
  refine ogN_0_17 C (hW.ok (k0 (by decide))) (congrFun (congrFun e 0) 0) wm1_165 dX10_twigsPruned_4 ?_
  cases hF
  exact r_ireturn C dX10_twigsPruned_7
theorem dX10_twigsRemoved_0 : decode cX10_twigsRemoved 0 = .ok (.aload_n 0, 1) := by decide +kernel
theorem dX10_twigsRemoved_1 : decode cX10_twigsRemoved 1 = .ok (.getfield 10, 3) := by decide +kernel
theorem dX10_twigsRemoved_4 : decode cX10_twigsRemoved 4 = .ok (.getfield 278, 3) := by decide +kernel
theorem dX10_twigsRemoved_7 : decode cX10_twigsRemoved 7 = .ok (.ireturn, 1) := by decide +kernel
def F_X10_twigsRemoved (S : Nat → Nat → HV) : Int32 := ((S 0 0).1 18)
theorem c_X10_twigsRemoved {w : WP} (hW : gW w) {Ω : OM}  {S : Nat → Nat → HV} (e : Ω.1 = S)  {v : Int32} (hF : F_X10_twigsRemoved S = v) : gM w 0 yX10_twigsRemoved cX10_twigsRemoved 1 (some .int) [.ref (wAd w (7, 11, 6, 0))] (cA w Ω) (some (.int v)) (cA w Ω) := by
  refine gM_of "HedgeMessages" rfl (by decide) (kR rfl) fun X C => ?_
  unfold F_X10_twigsRemoved at hF
  show gV w X _ _ 0 [(0, .ref (wAd w (7, 11, 6, 0)))] []
  refine r_aload_n C (k := 0) rfl rfl dX10_twigsRemoved_0 ?_
  refine og_7_0 C (hW.ok k7) wm2_159 dX10_twigsRemoved_1 ?_
  refine ogN_0_18 C (hW.ok (k0 (by decide))) (congrFun (congrFun e 0) 0) wm1_167 dX10_twigsRemoved_4 ?_
  cases hF
  exact r_ireturn C dX10_twigsRemoved_7
theorem dX10_twigImbalance_0 : decode cX10_twigImbalance 0 = .ok (.aload_n 0, 1) := by decide +kernel
theorem dX10_twigImbalance_1 : decode cX10_twigImbalance 1 = .ok (.getfield 10, 3) := by decide +kernel
theorem dX10_twigImbalance_4 : decode cX10_twigImbalance 4 = .ok (.getfield 272, 3) := by decide +kernel
theorem dX10_twigImbalance_7 : decode cX10_twigImbalance 7 = .ok (.aload_n 0, 1) := by decide +kernel
theorem dX10_twigImbalance_8 : decode cX10_twigImbalance 8 = .ok (.getfield 10, 3) := by decide +kernel
theorem dX10_twigImbalance_11 : decode cX10_twigImbalance 11 = .ok (.getfield 275, 3) := by decide +kernel
theorem dX10_twigImbalance_14 : decode cX10_twigImbalance 14 = .ok (.aload_n 0, 1) := by decide +kernel
theorem dX10_twigImbalance_15 : decode cX10_twigImbalance 15 = .ok (.getfield 10, 3) := by decide +kernel
theorem dX10_twigImbalance_18 : decode cX10_twigImbalance 18 = .ok (.getfield 278, 3) := by decide +kernel
theorem dX10_twigImbalance_21 : decode cX10_twigImbalance 21 = .ok (.iadd, 1) := by decide +kernel
theorem dX10_twigImbalance_22 : decode cX10_twigImbalance 22 = .ok (.aload_n 0, 1) := by decide +kernel
theorem dX10_twigImbalance_23 : decode cX10_twigImbalance 23 = .ok (.getfield 10, 3) := by decide +kernel
theorem dX10_twigImbalance_26 : decode cX10_twigImbalance 26 = .ok (.invokevirtual 145, 3) := by decide +kernel
theorem dX10_twigImbalance_29 : decode cX10_twigImbalance 29 = .ok (.iadd, 1) := by decide +kernel
theorem dX10_twigImbalance_30 : decode cX10_twigImbalance 30 = .ok (.isub, 1) := by decide +kernel
theorem dX10_twigImbalance_31 : decode cX10_twigImbalance 31 = .ok (.ireturn, 1) := by decide +kernel
def F_X10_twigImbalance (N : Nat) (S : Nat → Nat → HV) : Option (Int32) := (ob1 (F_X5_countTwigs N (S 0)) fun v1 => some (((S 0 0).1 16) - ((((S 0 0).1 17) + ((S 0 0).1 18)) + v1)))
theorem c_X10_twigImbalance {w : WP} (hW : gW w) {Ω : OM}  {S : Nat → Nat → HV} (e : Ω.1 = S) (N : Nat)  {v : Int32} (hF : F_X10_twigImbalance N S = some v) : gM w 2 yX10_twigImbalance cX10_twigImbalance 1 (some .int) [.ref (wAd w (7, 11, 6, 0))] (cA w Ω) (some (.int v)) (cA w Ω) := by
  refine gM_of "HedgeMessages" rfl (by decide) (kR rfl) fun X C => ?_
  unfold F_X10_twigImbalance at hF
  show gV w X _ _ 0 [(0, .ref (wAd w (7, 11, 6, 0)))] []
  refine r_aload_n C (k := 0) rfl rfl dX10_twigImbalance_0 ?_
  refine og_7_0 C (hW.ok k7) wm2_159 dX10_twigImbalance_1 ?_
  refine ogN_0_16 C (hW.ok (k0 (by decide))) (congrFun (congrFun e 0) 0) wm1_163 dX10_twigImbalance_4 ?_
  refine r_aload_n C (k := 0) rfl rfl dX10_twigImbalance_7 ?_
  refine og_7_0 C (hW.ok k7) wm2_159 dX10_twigImbalance_8 ?_
  refine ogN_0_17 C (hW.ok (k0 (by decide))) (congrFun (congrFun e 0) 0) wm1_165 dX10_twigImbalance_11 ?_
  refine r_aload_n C (k := 0) rfl rfl dX10_twigImbalance_14 ?_
  refine og_7_0 C (hW.ok k7) wm2_159 dX10_twigImbalance_15 ?_
  refine ogN_0_18 C (hW.ok (k0 (by decide))) (congrFun (congrFun e 0) 0) wm1_167 dX10_twigImbalance_18 ?_
  refine r_iadd C dX10_twigImbalance_21 ?_
  refine r_aload_n C (k := 0) rfl rfl dX10_twigImbalance_22 ?_
  refine og_7_0 C (hW.ok k7) wm2_159 dX10_twigImbalance_23 ?_
  obtain ⟨v1, hv1, hF⟩ := ob1_e hF
  refine r_callV C (d' := 1) [] (c_X5_countTwigs hW (by decide) (congrFun e 0) N hv1) myX5_countTwigs wm4_20 ⟨_, _, _, _, (hW.ok (k0 (by decide))), rfl, rfl, rfl, rfl⟩ rfl (kR rfl) (by decide) (kR rfl) rfl dX10_twigImbalance_26 ?_
  refine r_iadd C dX10_twigImbalance_29 ?_
  refine r_isub C dX10_twigImbalance_30 ?_
  cases hF
  exact r_ireturn C dX10_twigImbalance_31
theorem dX10_messageImbalance_0 : decode cX10_messageImbalance 0 = .ok (.aload_n 0, 1) := by decide +kernel
theorem dX10_messageImbalance_1 : decode cX10_messageImbalance 1 = .ok (.getfield 10, 3) := by decide +kernel
theorem dX10_messageImbalance_4 : decode cX10_messageImbalance 4 = .ok (.getfield 281, 3) := by decide +kernel
theorem dX10_messageImbalance_7 : decode cX10_messageImbalance 7 = .ok (.invokevirtual 285, 3) := by decide +kernel
theorem dX10_messageImbalance_10 : decode cX10_messageImbalance 10 = .ok (.aload_n 0, 1) := by decide +kernel
theorem dX10_messageImbalance_11 : decode cX10_messageImbalance 11 = .ok (.getfield 10, 3) := by decide +kernel
theorem dX10_messageImbalance_14 : decode cX10_messageImbalance 14 = .ok (.getfield 288, 3) := by decide +kernel
theorem dX10_messageImbalance_17 : decode cX10_messageImbalance 17 = .ok (.invokevirtual 285, 3) := by decide +kernel
theorem dX10_messageImbalance_20 : decode cX10_messageImbalance 20 = .ok (.iadd, 1) := by decide +kernel
theorem dX10_messageImbalance_21 : decode cX10_messageImbalance 21 = .ok (.aload_n 0, 1) := by decide +kernel
theorem dX10_messageImbalance_22 : decode cX10_messageImbalance 22 = .ok (.getfield 10, 3) := by decide +kernel
theorem dX10_messageImbalance_25 : decode cX10_messageImbalance 25 = .ok (.getfield 205, 3) := by decide +kernel
theorem dX10_messageImbalance_28 : decode cX10_messageImbalance 28 = .ok (.getfield 291, 3) := by decide +kernel
theorem dX10_messageImbalance_31 : decode cX10_messageImbalance 31 = .ok (.isub, 1) := by decide +kernel
theorem dX10_messageImbalance_32 : decode cX10_messageImbalance 32 = .ok (.ireturn, 1) := by decide +kernel
def F_X10_messageImbalance (S : Nat → Nat → HV) : Int32 := (((F_X4_queuedMinusSettled (S 0 1)) + (F_X4_queuedMinusSettled (S 0 2))) - ((S 0 3).1 3))
theorem c_X10_messageImbalance {w : WP} (hW : gW w) {Ω : OM}  {S : Nat → Nat → HV} (e : Ω.1 = S)  {v : Int32} (hF : F_X10_messageImbalance S = v) : gM w 2 yX10_messageImbalance cX10_messageImbalance 1 (some .int) [.ref (wAd w (7, 11, 6, 0))] (cA w Ω) (some (.int v)) (cA w Ω) := by
  refine gM_of "HedgeMessages" rfl (by decide) (kR rfl) fun X C => ?_
  unfold F_X10_messageImbalance at hF
  show gV w X _ _ 0 [(0, .ref (wAd w (7, 11, 6, 0)))] []
  refine r_aload_n C (k := 0) rfl rfl dX10_messageImbalance_0 ?_
  refine og_7_0 C (hW.ok k7) wm2_159 dX10_messageImbalance_1 ?_
  refine ogN_0_13 C (hW.ok (k0 (by decide))) wm1_157 dX10_messageImbalance_4 ?_
  refine r_callV C (d' := 1) [] (c_X4_queuedMinusSettled hW (by decide) (Or.inl rfl) (congrFun (congrFun e 0) 1) rfl) myX4_queuedMinusSettled wm5_174 ⟨_, _, _, _, (hW.ok (k1 (by decide) (Or.inl rfl))), rfl, rfl, rfl, rfl⟩ rfl (kR rfl) (by decide) (kR rfl) rfl dX10_messageImbalance_7 ?_
  refine r_aload_n C (k := 0) rfl rfl dX10_messageImbalance_10 ?_
  refine og_7_0 C (hW.ok k7) wm2_159 dX10_messageImbalance_11 ?_
  refine ogN_0_14 C (hW.ok (k0 (by decide))) wm1_159 dX10_messageImbalance_14 ?_
  refine r_callV C (d' := 1) [] (c_X4_queuedMinusSettled hW (by decide) (Or.inr rfl) (congrFun (congrFun e 0) 2) rfl) myX4_queuedMinusSettled wm5_174 ⟨_, _, _, _, (hW.ok (k1 (by decide) (Or.inr rfl))), rfl, rfl, rfl, rfl⟩ rfl (kR rfl) (by decide) (kR rfl) rfl dX10_messageImbalance_17 ?_
  refine r_iadd C dX10_messageImbalance_20 ?_
  refine r_aload_n C (k := 0) rfl rfl dX10_messageImbalance_21 ?_
  refine og_7_0 C (hW.ok k7) wm2_159 dX10_messageImbalance_22 ?_
  refine ogN_0_15 C (hW.ok (k0 (by decide))) wm1_161 dX10_messageImbalance_25 ?_
  refine ogN_2_3 C (hW.ok (k2 (by decide))) (congrFun (congrFun e 0) 3) wm1_123 dX10_messageImbalance_28 ?_
  refine r_isub C dX10_messageImbalance_31 ?_
  cases hF
  exact r_ireturn C dX10_messageImbalance_32
theorem dX10_wrongLetters_0 : decode cX10_wrongLetters 0 = .ok (.aload_n 0, 1) := by decide +kernel
theorem dX10_wrongLetters_1 : decode cX10_wrongLetters 1 = .ok (.getfield 10, 3) := by decide +kernel
theorem dX10_wrongLetters_4 : decode cX10_wrongLetters 4 = .ok (.invokevirtual 292, 3) := by decide +kernel
theorem dX10_wrongLetters_7 : decode cX10_wrongLetters 7 = .ok (.ireturn, 1) := by decide +kernel
def F_X10_wrongLetters (N : Nat) (S : Nat → Nat → HV) : Option (Int32) := (ob1 (F_X5_countWrongLetters N (S 0)) fun v1 => some v1)
theorem c_X10_wrongLetters {w : WP} (hW : gW w) {Ω : OM}  {S : Nat → Nat → HV} (e : Ω.1 = S) (N : Nat)  {v : Int32} (hF : F_X10_wrongLetters N S = some v) : gM w 4 yX10_wrongLetters cX10_wrongLetters 1 (some .int) [.ref (wAd w (7, 11, 6, 0))] (cA w Ω) (some (.int v)) (cA w Ω) := by
  refine gM_of "HedgeMessages" rfl (by decide) (kR rfl) fun X C => ?_
  unfold F_X10_wrongLetters at hF
  show gV w X _ _ 0 [(0, .ref (wAd w (7, 11, 6, 0)))] []
  refine r_aload_n C (k := 0) rfl rfl dX10_wrongLetters_0 ?_
  refine og_7_0 C (hW.ok k7) wm2_159 dX10_wrongLetters_1 ?_
  obtain ⟨v1, hv1, hF⟩ := ob1_e hF
  refine r_callV C (d' := 3) [] (c_X5_countWrongLetters hW (by decide) (congrFun e 0) N hv1) myX5_countWrongLetters wm5_183 ⟨_, _, _, _, (hW.ok (k0 (by decide))), rfl, rfl, rfl, rfl⟩ rfl (kR rfl) (by decide) (kR rfl) rfl dX10_wrongLetters_4 ?_
  cases hF
  exact r_ireturn C dX10_wrongLetters_7
theorem dX10_save_0 : decode cX10_save 0 = .ok (.aload_n 0, 1) := by decide +kernel
theorem dX10_save_1 : decode cX10_save 1 = .ok (.getfield 19, 3) := by decide +kernel
theorem dX10_save_4 : decode cX10_save 4 = .ok (.aload_n 0, 1) := by decide +kernel
theorem dX10_save_5 : decode cX10_save 5 = .ok (.getfield 10, 3) := by decide +kernel
theorem dX10_save_8 : decode cX10_save 8 = .ok (.invokevirtual 101, 3) := by decide +kernel
theorem dX10_save_11 : decode cX10_save 11 = .ok (.aload_n 0, 1) := by decide +kernel
theorem dX10_save_12 : decode cX10_save 12 = .ok (.iconst 1, 1) := by decide +kernel
theorem dX10_save_13 : decode cX10_save 13 = .ok (.putfield 373, 3) := by decide +kernel
theorem dX10_save_16 : decode cX10_save 16 = .ok (.aload_n 0, 1) := by decide +kernel
theorem dX10_save_17 : decode cX10_save 17 = .ok (.getfield 10, 3) := by decide +kernel
theorem dX10_save_20 : decode cX10_save 20 = .ok (.getfield 132, 3) := by decide +kernel
theorem dX10_save_23 : decode cX10_save 23 = .ok (.ireturn, 1) := by decide +kernel
def F_X10_save (S : Nat → Nat → HV) : Int32 × (Nat → Nat → HV) := (lt (F_X5_copyFrom 2 0 S) fun S2 => (lt (up S2 11 (up (S2 11) 6 (sS (S2 11 6) 3 (b2i true)))) fun S3 => (((S3 0 0).1 6), S3)))
theorem c_X10_save {w : WP} (hW : gW w) {Ω : OM}  {S : Nat → Nat → HV} (e : Ω.1 = S)  {v : Int32} {S' : Nat → Nat → HV} (hF : F_X10_save S = (v, S')) {Ω' : OM} (e2 : (S', Ω.2) = Ω') : gM w 5 yX10_save cX10_save 1 (some .int) [.ref (wAd w (7, 11, 6, 0))] (cA w Ω) (some (.int v)) (cA w Ω') := by
  refine gM_of "HedgeMessages" rfl (by decide) (kR rfl) fun X C => ?_
  unfold F_X10_save at hF
  subst e2
  show gV w X _ _ 0 [(0, .ref (wAd w (7, 11, 6, 0)))] []
  refine r_ct (ct' := cA w (S, Ω.2)) (by rw [← e]) ?_
  refine r_aload_n C (k := 0) rfl rfl dX10_save_0 ?_
  refine og_7_2 C (hW.ok k7) wm2_161 dX10_save_1 ?_
  refine r_aload_n C (k := 0) rfl rfl dX10_save_4 ?_
  refine og_7_0 C (hW.ok k7) wm2_159 dX10_save_5 ?_
  obtain ⟨S2, hS2, hF⟩ := lt_e hF
  refine r_callV C (d' := 4) [.ref (wAd w (0, 0, 0, 0))] (c_X5_copyFrom hW (by decide) (by decide) (show (S, Ω.2).1 = S from rfl) hS2 rfl) myX5_copyFrom wm2_195 ⟨_, _, _, _, (hW.ok (k0 (by decide))), rfl, rfl, rfl, rfl⟩ rfl (kR rfl) (by decide) (kR rfl) rfl dX10_save_8 ?_
  refine r_aload_n C (k := 0) rfl rfl dX10_save_11 ?_
  refine r_iconst C (v := 1) rfl dX10_save_12 ?_
  refine r_st (st' := .int (b2i true) :: .ref (wAd w (7, 11, 6, 0)) :: []) rfl ?_
  obtain ⟨S3, eS3, hF⟩ := lt_e hF
  refine op_7_3 C hW.x (Or.inl k7) (hW.fr k7) (congrFun (congrFun (show (S2, Ω.2).1 = S2 from rfl) 11) 6) wm2_162 dX10_save_13 (x := true) (congrArg (fun z => (z, Ω.2)) eS3) ?_
  refine r_aload_n C (k := 0) rfl rfl dX10_save_16 ?_
  refine og_7_0 C (hW.ok k7) wm2_159 dX10_save_17 ?_
  refine ogN_0_6 C (hW.ok (k0 (by decide))) (congrFun (congrFun (show (S3, Ω.2).1 = S3 from rfl) 0) 0) wm1_143 dX10_save_20 ?_
  cases hF
  exact r_ireturn C dX10_save_23
theorem dX10_foresee_0 : decode cX10_foresee 0 = .ok (.aload_n 0, 1) := by decide +kernel
theorem dX10_foresee_1 : decode cX10_foresee 1 = .ok (.getfield 16, 3) := by decide +kernel
theorem dX10_foresee_4 : decode cX10_foresee 4 = .ok (.aload_n 0, 1) := by decide +kernel
theorem dX10_foresee_5 : decode cX10_foresee 5 = .ok (.getfield 10, 3) := by decide +kernel
theorem dX10_foresee_8 : decode cX10_foresee 8 = .ok (.invokevirtual 101, 3) := by decide +kernel
theorem dX10_foresee_11 : decode cX10_foresee 11 = .ok (.iconst 0, 1) := by decide +kernel
theorem dX10_foresee_12 : decode cX10_foresee 12 = .ok (.istore_n 2, 1) := by decide +kernel
theorem dX10_foresee_13 : decode cX10_foresee 13 = .ok (.iload_n 2, 1) := by decide +kernel
theorem dX10_foresee_14 : decode cX10_foresee 14 = .ok (.iload_n 1, 1) := by decide +kernel
theorem dX10_foresee_15 : decode cX10_foresee 15 = .ok (.if_icmp .ge 16, 3) := by decide +kernel
theorem dX10_foresee_18 : decode cX10_foresee 18 = .ok (.aload_n 0, 1) := by decide +kernel
theorem dX10_foresee_19 : decode cX10_foresee 19 = .ok (.getfield 16, 3) := by decide +kernel
theorem dX10_foresee_22 : decode cX10_foresee 22 = .ok (.invokevirtual 244, 3) := by decide +kernel
theorem dX10_foresee_25 : decode cX10_foresee 25 = .ok (.iinc 2 1, 3) := by decide +kernel
theorem dX10_foresee_28 : decode cX10_foresee 28 = .ok (.goto (-15), 3) := by decide +kernel
theorem dX10_foresee_31 : decode cX10_foresee 31 = .ok (.return_, 1) := by decide +kernel
def st_X10_foresee_13 (N : Nat) (l1 : Int32) (l2 : Int32) (S : Nat → Nat → HV) : Option ((Int32 × (Nat → Nat → HV)) ⊕ (Nat → Nat → HV)) := (if l1 ≤ l2 then some (.inr S) else (ob1 (F_X5_endOneDay N (S 1)) fun g4 => (lt (up S 1 g4) fun S5 => some (.inl ((l2 + 1), S5)))))
def F_X10_foresee (N : Nat) (a1 : Int32) (S : Nat → Nat → HV) : Option (Nat → Nat → HV) := (lt (F_X5_copyFrom 1 0 S) fun S2 => (lpN N (fun z => st_X10_foresee_13 N a1 z.1 z.2) (0, S2)))
theorem lp_X10_foresee_13 {w : WP} (hW : gW w) {Ω : OM}   (l1 : Int32) {N : Nat} {X : CX} (C : gC w X cX10_foresee "HedgeMessages" none 6 3) {S' : Nat → Nat → HV}  : ∀ (n : Nat) (l2 : Int32) (S : Nat → Nat → HV), lpN n (fun z : Int32 × (Nat → Nat → HV) => st_X10_foresee_13 N l1 z.1 z.2) (l2, S) = some S' → gV w X (none, cA w (S', Ω.2)) (cA w (S, Ω.2)) 13 [(0, .ref (wAd w (7, 11, 6, 0))), (1, .int l1), (2, .int l2)] [] := by
  intro n
  induction n with
  | zero => intro l2 S hL; exact lpN_0 hL
  | succ n ih =>
    intro l2 S hL
    obtain ⟨q9, hF, hL⟩ := lpN_e hL
    change st_X10_foresee_13 N l1 l2 S = some q9 at hF
    unfold st_X10_foresee_13 at hF
    refine r_iload_n C (k := 2) rfl rfl dX10_foresee_13 ?_
    refine r_iload_n C (k := 1) rfl rfl dX10_foresee_14 ?_
    refine r_icmp_ge C (tgt := 31) rfl dX10_foresee_15 (fun hc => ?_) (fun hc => ?_)
    · rw [if_pos hc] at hF
      cases hF
      change some _ = some _ at hL
      cases hL
      exact r_return C dX10_foresee_31
    · rw [if_neg hc] at hF
      refine r_aload_n C (k := 0) rfl rfl dX10_foresee_18 ?_
      refine og_7_1 C (hW.ok k7) wm2_160 dX10_foresee_19 ?_
      obtain ⟨g4, hg4, hF⟩ := ob1_e hF
      obtain ⟨S5, eS5, hF⟩ := lt_e hF
      refine r_callV C (d' := 5) [] (c_X5_endOneDay hW (by decide) (congrFun (show (S, Ω.2).1 = S from rfl) 1) N hg4 (congrArg (fun z => (z, Ω.2)) eS5)) myX5_endOneDay wm4_137 ⟨_, _, _, _, (hW.ok (k0 (by decide))), rfl, rfl, rfl, rfl⟩ rfl (kR rfl) (by decide) (kR rfl) rfl dX10_foresee_22 ?_
      refine r_iinc C (k := 2) (v := (l2 + 1)) (lo' := [(2, .int (l2 + 1)), (0, .ref (wAd w (7, 11, 6, 0))), (1, .int l1)]) rfl rfl (by decide) rfl dX10_foresee_25 ?_
      refine r_goto C (tgt := 13) rfl dX10_foresee_28 ?_
      cases hF
      change lpN n _ _ = some _ at hL
      refine r_lo [1, 2, 0] (lo' := [(0, .ref (wAd w (7, 11, 6, 0))), (1, .int l1), (2, .int (l2 + 1))]) rfl ?_
      exact ih (l2 + 1) S5 hL
theorem c_X10_foresee {w : WP} (hW : gW w) {Ω : OM}  {S : Nat → Nat → HV} (e : Ω.1 = S) (N : Nat) (a1 : Int32) {S' : Nat → Nat → HV} (hF : F_X10_foresee N a1 S = some S') {Ω' : OM} (e2 : (S', Ω.2) = Ω') : gM w 6 yX10_foresee cX10_foresee 3 none [.ref (wAd w (7, 11, 6, 0)), .int a1] (cA w Ω) none (cA w Ω') := by
  refine gM_of "HedgeMessages" rfl (by decide) (kR rfl) fun X C => ?_
  unfold F_X10_foresee at hF
  subst e2
  show gV w X _ _ 0 [(0, .ref (wAd w (7, 11, 6, 0))), (1, .int a1)] []
  refine r_ct (ct' := cA w (S, Ω.2)) (by rw [← e]) ?_
  refine r_aload_n C (k := 0) rfl rfl dX10_foresee_0 ?_
  refine og_7_1 C (hW.ok k7) wm2_160 dX10_foresee_1 ?_
  refine r_aload_n C (k := 0) rfl rfl dX10_foresee_4 ?_
  refine og_7_0 C (hW.ok k7) wm2_159 dX10_foresee_5 ?_
  obtain ⟨S2, hS2, hF⟩ := lt_e hF
  refine r_callV C (d' := 4) [.ref (wAd w (0, 0, 0, 0))] (c_X5_copyFrom hW (by decide) (by decide) (show (S, Ω.2).1 = S from rfl) hS2 rfl) myX5_copyFrom wm2_195 ⟨_, _, _, _, (hW.ok (k0 (by decide))), rfl, rfl, rfl, rfl⟩ rfl (kR rfl) (by decide) (kR rfl) rfl dX10_foresee_8 ?_
  refine r_iconst C (v := 0) rfl dX10_foresee_11 ?_
  refine r_istore_n C (lo' := [(2, .int 0), (0, .ref (wAd w (7, 11, 6, 0))), (1, .int a1)]) rfl (by decide) rfl dX10_foresee_12 ?_
  refine r_lo [1, 2, 0] (lo' := [(0, .ref (wAd w (7, 11, 6, 0))), (1, .int a1), (2, .int 0)]) rfl ?_
  exact lp_X10_foresee_13 hW a1 C N 0 S2 hF
theorem dX10_suffices_0 : decode cX10_suffices 0 = .ok (.aload_n 0, 1) := by decide +kernel
theorem dX10_suffices_1 : decode cX10_suffices 1 = .ok (.getfield 16, 3) := by decide +kernel
theorem dX10_suffices_4 : decode cX10_suffices 4 = .ok (.aload_n 0, 1) := by decide +kernel
theorem dX10_suffices_5 : decode cX10_suffices 5 = .ok (.getfield 10, 3) := by decide +kernel
theorem dX10_suffices_8 : decode cX10_suffices 8 = .ok (.invokevirtual 101, 3) := by decide +kernel
theorem dX10_suffices_11 : decode cX10_suffices 11 = .ok (.aload_n 0, 1) := by decide +kernel
theorem dX10_suffices_12 : decode cX10_suffices 12 = .ok (.getfield 16, 3) := by decide +kernel
theorem dX10_suffices_15 : decode cX10_suffices 15 = .ok (.iload_n 1, 1) := by decide +kernel
theorem dX10_suffices_16 : decode cX10_suffices 16 = .ok (.putfield 139, 3) := by decide +kernel
theorem dX10_suffices_19 : decode cX10_suffices 19 = .ok (.iconst 0, 1) := by decide +kernel
theorem dX10_suffices_20 : decode cX10_suffices 20 = .ok (.istore 4, 2) := by decide +kernel
theorem dX10_suffices_22 : decode cX10_suffices 22 = .ok (.iload 4, 2) := by decide +kernel
theorem dX10_suffices_24 : decode cX10_suffices 24 = .ok (.iload_n 3, 1) := by decide +kernel
theorem dX10_suffices_25 : decode cX10_suffices 25 = .ok (.if_icmp .ge 27, 3) := by decide +kernel
theorem dX10_suffices_28 : decode cX10_suffices 28 = .ok (.aload_n 0, 1) := by decide +kernel
theorem dX10_suffices_29 : decode cX10_suffices 29 = .ok (.getfield 16, 3) := by decide +kernel
theorem dX10_suffices_32 : decode cX10_suffices 32 = .ok (.iload_n 2, 1) := by decide +kernel
theorem dX10_suffices_33 : decode cX10_suffices 33 = .ok (.invokevirtual 397, 3) := by decide +kernel
theorem dX10_suffices_36 : decode cX10_suffices 36 = .ok (.ifCond .eq 16, 3) := by decide +kernel
theorem dX10_suffices_39 : decode cX10_suffices 39 = .ok (.aload_n 0, 1) := by decide +kernel
theorem dX10_suffices_40 : decode cX10_suffices 40 = .ok (.getfield 16, 3) := by decide +kernel
theorem dX10_suffices_43 : decode cX10_suffices 43 = .ok (.invokevirtual 244, 3) := by decide +kernel
theorem dX10_suffices_46 : decode cX10_suffices 46 = .ok (.iinc 4 1, 3) := by decide +kernel
theorem dX10_suffices_49 : decode cX10_suffices 49 = .ok (.goto (-27), 3) := by decide +kernel
theorem dX10_suffices_52 : decode cX10_suffices 52 = .ok (.aload_n 0, 1) := by decide +kernel
theorem dX10_suffices_53 : decode cX10_suffices 53 = .ok (.getfield 16, 3) := by decide +kernel
theorem dX10_suffices_56 : decode cX10_suffices 56 = .ok (.iload_n 2, 1) := by decide +kernel
theorem dX10_suffices_57 : decode cX10_suffices 57 = .ok (.invokevirtual 397, 3) := by decide +kernel
theorem dX10_suffices_60 : decode cX10_suffices 60 = .ok (.ifCond .ne 7, 3) := by decide +kernel
theorem dX10_suffices_63 : decode cX10_suffices 63 = .ok (.iconst 1, 1) := by decide +kernel
theorem dX10_suffices_64 : decode cX10_suffices 64 = .ok (.goto 4, 3) := by decide +kernel
theorem dX10_suffices_67 : decode cX10_suffices 67 = .ok (.iconst 0, 1) := by decide +kernel
theorem dX10_suffices_68 : decode cX10_suffices 68 = .ok (.ireturn, 1) := by decide +kernel
def st_X10_suffices_22 (N : Nat) (l2 : Int32) (l3 : Int32) (l4 : Int32) (S : Nat → Nat → HV) : Option ((Int32 × (Nat → Nat → HV)) ⊕ (Bool × (Nat → Nat → HV))) := (if l3 ≤ l4 then (ob1 (F_X5_hasMessages N l2 (S 1)) fun v4 => (if v4 = true then some (.inr (false, S)) else some (.inr (true, S)))) else (ob1 (F_X5_hasMessages N l2 (S 1)) fun v5 => (if v5 = true then (ob1 (F_X5_endOneDay N (S 1)) fun g8 => (lt (up S 1 g8) fun S9 => some (.inl ((l4 + 1), S9)))) else (ob1 (F_X5_hasMessages N l2 (S 1)) fun v6 => (if v6 = true then some (.inr (false, S)) else some (.inr (true, S)))))))
def F_X10_suffices (N : Nat) (a1 : Int32) (a2 : Int32) (a3 : Int32) (S : Nat → Nat → HV) : Option (Bool × (Nat → Nat → HV)) := (lt (F_X5_copyFrom 1 0 S) fun S2 => (lt (up S2 1 (up (S2 1) 0 (sS (S2 1 0) 1 a1))) fun S3 => (lpN N (fun z => st_X10_suffices_22 N a2 a3 z.1 z.2) (0, S3))))
theorem lp_X10_suffices_22 {w : WP} (hW : gW w) {Ω : OM}   (l2 : Int32) (l3 : Int32) {N : Nat} {X : CX} (C : gC w X cX10_suffices "HedgeMessages" (some .boolean) 6 5) {v : Bool} {S' : Nat → Nat → HV}  : ∀ (n : Nat) (l4 : Int32) (S : Nat → Nat → HV), lpN n (fun z : Int32 × (Nat → Nat → HV) => st_X10_suffices_22 N l2 l3 z.1 z.2) (l4, S) = some (v, S') → gV w X (some (.int (b2i v)), cA w (S', Ω.2)) (cA w (S, Ω.2)) 22 [(0, .ref (wAd w (7, 11, 6, 0))), (2, .int l2), (3, .int l3), (4, .int l4)] [] := by
  intro n
  induction n with
  | zero => intro l4 S hL; exact lpN_0 hL
  | succ n ih =>
    intro l4 S hL
    obtain ⟨q9, hF, hL⟩ := lpN_e hL
    change st_X10_suffices_22 N l2 l3 l4 S = some q9 at hF
    unfold st_X10_suffices_22 at hF
    refine r_iload C (k := 3) rfl dX10_suffices_22 ?_
    refine r_iload_n C (k := 2) rfl rfl dX10_suffices_24 ?_
    refine r_icmp_ge C (tgt := 52) rfl dX10_suffices_25 (fun hc => ?_) (fun hc => ?_)
    · rw [if_pos hc] at hF
      refine r_aload_n C (k := 0) rfl rfl dX10_suffices_52 ?_
      refine og_7_1 C (hW.ok k7) wm2_160 dX10_suffices_53 ?_
      refine r_iload_n C (k := 1) rfl rfl dX10_suffices_56 ?_
      obtain ⟨v4, hv4, hF⟩ := ob1_e hF
      refine r_callV C (d' := 2) [.int l2] (c_X5_hasMessages hW (by decide) (congrFun (show (S, Ω.2).1 = S from rfl) 1) N l2 hv4) myX5_hasMessages wm6_237 ⟨_, _, _, _, (hW.ok (k0 (by decide))), rfl, rfl, rfl, rfl⟩ rfl (kR rfl) (by decide) (kR rfl) rfl dX10_suffices_57 ?_
      refine r_if_ne C (tgt := 67) rfl dX10_suffices_60 (fun hc => ?_) (fun hc => ?_)
      · rw [if_pos (b2i_t hc)] at hF
        refine r_iconst C (v := 0) rfl dX10_suffices_67 ?_
        cases hF
        change some _ = some _ at hL
        cases hL
        exact r_zreturn C false rfl dX10_suffices_68
      · rw [if_neg (b2i_f hc)] at hF
        refine r_iconst C (v := 1) rfl dX10_suffices_63 ?_
        refine r_goto C (tgt := 68) rfl dX10_suffices_64 ?_
        cases hF
        change some _ = some _ at hL
        cases hL
        exact r_zreturn C true rfl dX10_suffices_68
    · rw [if_neg hc] at hF
      refine r_aload_n C (k := 0) rfl rfl dX10_suffices_28 ?_
      refine og_7_1 C (hW.ok k7) wm2_160 dX10_suffices_29 ?_
      refine r_iload_n C (k := 1) rfl rfl dX10_suffices_32 ?_
      obtain ⟨v5, hv5, hF⟩ := ob1_e hF
      refine r_callV C (d' := 2) [.int l2] (c_X5_hasMessages hW (by decide) (congrFun (show (S, Ω.2).1 = S from rfl) 1) N l2 hv5) myX5_hasMessages wm6_237 ⟨_, _, _, _, (hW.ok (k0 (by decide))), rfl, rfl, rfl, rfl⟩ rfl (kR rfl) (by decide) (kR rfl) rfl dX10_suffices_33 ?_
      refine r_if_eq C (tgt := 52) rfl dX10_suffices_36 (fun hc => ?_) (fun hc => ?_)
      · rw [if_neg (b2i_f hc)] at hF
        refine r_aload_n C (k := 0) rfl rfl dX10_suffices_52 ?_
        refine og_7_1 C (hW.ok k7) wm2_160 dX10_suffices_53 ?_
        refine r_iload_n C (k := 1) rfl rfl dX10_suffices_56 ?_
        obtain ⟨v6, hv6, hF⟩ := ob1_e hF
        refine r_callV C (d' := 2) [.int l2] (c_X5_hasMessages hW (by decide) (congrFun (show (S, Ω.2).1 = S from rfl) 1) N l2 hv6) myX5_hasMessages wm6_237 ⟨_, _, _, _, (hW.ok (k0 (by decide))), rfl, rfl, rfl, rfl⟩ rfl (kR rfl) (by decide) (kR rfl) rfl dX10_suffices_57 ?_
        refine r_if_ne C (tgt := 67) rfl dX10_suffices_60 (fun hc => ?_) (fun hc => ?_)
        · rw [if_pos (b2i_t hc)] at hF
          refine r_iconst C (v := 0) rfl dX10_suffices_67 ?_
          cases hF
          change some _ = some _ at hL
          cases hL
          exact r_zreturn C false rfl dX10_suffices_68
        · rw [if_neg (b2i_f hc)] at hF
          refine r_iconst C (v := 1) rfl dX10_suffices_63 ?_
          refine r_goto C (tgt := 68) rfl dX10_suffices_64 ?_
          cases hF
          change some _ = some _ at hL
          cases hL
          exact r_zreturn C true rfl dX10_suffices_68
      · rw [if_pos (b2i_t hc)] at hF
        refine r_aload_n C (k := 0) rfl rfl dX10_suffices_39 ?_
        refine og_7_1 C (hW.ok k7) wm2_160 dX10_suffices_40 ?_
        obtain ⟨g8, hg8, hF⟩ := ob1_e hF
        obtain ⟨S9, eS9, hF⟩ := lt_e hF
        refine r_callV C (d' := 5) [] (c_X5_endOneDay hW (by decide) (congrFun (show (S, Ω.2).1 = S from rfl) 1) N hg8 (congrArg (fun z => (z, Ω.2)) eS9)) myX5_endOneDay wm4_137 ⟨_, _, _, _, (hW.ok (k0 (by decide))), rfl, rfl, rfl, rfl⟩ rfl (kR rfl) (by decide) (kR rfl) rfl dX10_suffices_43 ?_
        refine r_iinc C (k := 3) (v := (l4 + 1)) (lo' := [(4, .int (l4 + 1)), (0, .ref (wAd w (7, 11, 6, 0))), (2, .int l2), (3, .int l3)]) rfl rfl (by decide) rfl dX10_suffices_46 ?_
        refine r_goto C (tgt := 22) rfl dX10_suffices_49 ?_
        cases hF
        change lpN n _ _ = some _ at hL
        refine r_lo [1, 2, 3, 0] (lo' := [(0, .ref (wAd w (7, 11, 6, 0))), (2, .int l2), (3, .int l3), (4, .int (l4 + 1))]) rfl ?_
        exact ih (l4 + 1) S9 hL
theorem c_X10_suffices {w : WP} (hW : gW w) {Ω : OM}  {S : Nat → Nat → HV} (e : Ω.1 = S) (N : Nat) (a1 : Int32) (a2 : Int32) (a3 : Int32) {v : Bool} {S' : Nat → Nat → HV} (hF : F_X10_suffices N a1 a2 a3 S = some (v, S')) {Ω' : OM} (e2 : (S', Ω.2) = Ω') : gM w 6 yX10_suffices cX10_suffices 5 (some .boolean) [.ref (wAd w (7, 11, 6, 0)), .int a1, .int a2, .int a3] (cA w Ω) (some (.int (b2i v))) (cA w Ω') := by
  refine gM_of "HedgeMessages" rfl (by decide) (kR rfl) fun X C => ?_
  unfold F_X10_suffices at hF
  subst e2
  show gV w X _ _ 0 [(0, .ref (wAd w (7, 11, 6, 0))), (1, .int a1), (2, .int a2), (3, .int a3)] []
  refine r_ct (ct' := cA w (S, Ω.2)) (by rw [← e]) ?_
  refine r_aload_n C (k := 0) rfl rfl dX10_suffices_0 ?_
  refine og_7_1 C (hW.ok k7) wm2_160 dX10_suffices_1 ?_
  refine r_aload_n C (k := 0) rfl rfl dX10_suffices_4 ?_
  refine og_7_0 C (hW.ok k7) wm2_159 dX10_suffices_5 ?_
  obtain ⟨S2, hS2, hF⟩ := lt_e hF
  refine r_callV C (d' := 4) [.ref (wAd w (0, 0, 0, 0))] (c_X5_copyFrom hW (by decide) (by decide) (show (S, Ω.2).1 = S from rfl) hS2 rfl) myX5_copyFrom wm2_195 ⟨_, _, _, _, (hW.ok (k0 (by decide))), rfl, rfl, rfl, rfl⟩ rfl (kR rfl) (by decide) (kR rfl) rfl dX10_suffices_8 ?_
  refine r_aload_n C (k := 0) rfl rfl dX10_suffices_11 ?_
  refine og_7_1 C (hW.ok k7) wm2_160 dX10_suffices_12 ?_
  refine r_iload_n C (k := 1) rfl rfl dX10_suffices_15 ?_
  obtain ⟨S3, eS3, hF⟩ := lt_e hF
  refine opN_0_1 C hW.x (Or.inl (k0 (by decide))) (hW.fr (k0 (by decide))) (congrFun (congrFun (show (S2, Ω.2).1 = S2 from rfl) 1) 0) wm1_137 dX10_suffices_16 (congrArg (fun z => (z, Ω.2)) eS3) ?_
  refine r_iconst C (v := 0) rfl dX10_suffices_19 ?_
  refine r_istore C (lo' := [(4, .int 0), (0, .ref (wAd w (7, 11, 6, 0))), (1, .int a1), (2, .int a2), (3, .int a3)]) (by decide) rfl dX10_suffices_20 ?_
  refine r_lo [1, 3, 4, 0] (lo' := [(0, .ref (wAd w (7, 11, 6, 0))), (2, .int a2), (3, .int a3), (4, .int 0)]) rfl ?_
  exact lp_X10_suffices_22 hW a2 a3 C N 0 S3 hF
