/-! ===== 24.model: printed by wip/whole/genmodel.py ===== -/
theorem dX11_ownerAt_0 : decode cX11_ownerAt 0 = .ok (.aload_n 0, 1) := by decide +kernel
theorem dX11_ownerAt_1 : decode cX11_ownerAt 1 = .ok (.aload_n 0, 1) := by decide +kernel
theorem dX11_ownerAt_2 : decode cX11_ownerAt 2 = .ok (.iload_n 1, 1) := by decide +kernel
theorem dX11_ownerAt_3 : decode cX11_ownerAt 3 = .ok (.invokevirtual 73, 3) := by decide +kernel
theorem dX11_ownerAt_6 : decode cX11_ownerAt 6 = .ok (.invokevirtual 221, 3) := by decide +kernel
theorem dX11_ownerAt_9 : decode cX11_ownerAt 9 = .ok (.ifCond .ne 5, 3) := by decide +kernel
theorem dX11_ownerAt_12 : decode cX11_ownerAt 12 = .ok (.iconst 0, 1) := by decide +kernel
theorem dX11_ownerAt_13 : decode cX11_ownerAt 13 = .ok (.ireturn, 1) := by decide +kernel
theorem dX11_ownerAt_14 : decode cX11_ownerAt 14 = .ok (.aload_n 0, 1) := by decide +kernel
theorem dX11_ownerAt_15 : decode cX11_ownerAt 15 = .ok (.iload_n 1, 1) := by decide +kernel
theorem dX11_ownerAt_16 : decode cX11_ownerAt 16 = .ok (.invokevirtual 84, 3) := by decide +kernel
theorem dX11_ownerAt_19 : decode cX11_ownerAt 19 = .ok (.ifCond .eq 12, 3) := by decide +kernel
theorem dX11_ownerAt_22 : decode cX11_ownerAt 22 = .ok (.aload_n 0, 1) := by decide +kernel
theorem dX11_ownerAt_23 : decode cX11_ownerAt 23 = .ok (.iload_n 1, 1) := by decide +kernel
theorem dX11_ownerAt_24 : decode cX11_ownerAt 24 = .ok (.iconst 1, 1) := by decide +kernel
theorem dX11_ownerAt_25 : decode cX11_ownerAt 25 = .ok (.invokevirtual 69, 3) := by decide +kernel
theorem dX11_ownerAt_28 : decode cX11_ownerAt 28 = .ok (.goto 4, 3) := by decide +kernel
theorem dX11_ownerAt_31 : decode cX11_ownerAt 31 = .ok (.iconst (-1), 1) := by decide +kernel
theorem dX11_ownerAt_32 : decode cX11_ownerAt 32 = .ok (.ireturn, 1) := by decide +kernel
def F_X11_ownerAt (a1 : Int32) (t : HV) : Option (Int32 × (HV)) := (ob1 (F_X11_isSlot a1 t) fun v1 => (lt2 (F_X11_passes v1 t) fun v2 t3 => (if v2 = true then (ob1 (F_X11_hasTwig a1 t3) fun v4 => (if v4 = true then (ob1 (F_X11_of a1 1 t3) fun v5 => some (v5, t3)) else some ((-1), t3))) else some (0, t3))))
theorem c_X11_ownerAt {w : WP} (hW : gWM w) {Ω : OM}  {t : HV} (e : Ω.2.1 = t) (a1 : Int32) {v : Int32} {t' : HV} (hF : F_X11_ownerAt a1 t = some (v, t')) {Ω' : OM} (e2 : (sM Ω t') = Ω') : gM w 2 yX11_ownerAt cX11_ownerAt 2 (some .int) [.ref (wAd w (11, 12, 0, 0)), .int a1] (cA w Ω) (some (.int v)) (cA w Ω') := by
  refine gM_of "HedgeMessagesModel" rfl (by decide) (kR rfl) fun X C => ?_
  unfold F_X11_ownerAt at hF
  subst e2
  show gV w X _ _ 0 [(0, .ref (wAd w (11, 12, 0, 0))), (1, .int a1)] []
  refine r_ct (ct' := cA w (sM Ω t)) (congrArg (cA w) (sM_i e).symm) ?_
  refine r_aload_n C (k := 0) rfl rfl dX11_ownerAt_0 ?_
  refine r_aload_n C (k := 0) rfl rfl dX11_ownerAt_1 ?_
  refine r_iload_n C (k := 1) rfl rfl dX11_ownerAt_2 ?_
  obtain ⟨v1, hv1, hF⟩ := ob1_e hF
  refine r_callV C (d' := 1) [.int a1] (c_X11_isSlot hW (show (sM Ω t).2.1 = t from rfl) a1 hv1) myX11_isSlot wm7_27 ⟨_, _, _, _, (hW.ok k11), rfl, rfl, rfl, rfl⟩ rfl (kR rfl) (by decide) (kR rfl) rfl dX11_ownerAt_3 ?_
  obtain ⟨v2, t3, ht3, hF⟩ := lt2_e hF
  refine r_callV C (d' := 0) [.int (b2i v1)] (c_X11_passes hW (show (sM Ω t).2.1 = t from rfl) v1 ht3 rfl) myX11_passes wm7_63 ⟨_, _, _, _, (hW.ok k11), rfl, rfl, rfl, rfl⟩ rfl (kR rfl) (by decide) (kR rfl) rfl dX11_ownerAt_6 ?_
  refine r_if_ne C (tgt := 14) rfl dX11_ownerAt_9 (fun hc => ?_) (fun hc => ?_)
  · rw [if_pos (b2i_t hc)] at hF
    refine r_aload_n C (k := 0) rfl rfl dX11_ownerAt_14 ?_
    refine r_iload_n C (k := 1) rfl rfl dX11_ownerAt_15 ?_
    obtain ⟨v4, hv4, hF⟩ := ob1_e hF
    refine r_callV C (d' := 1) [.int a1] (c_X11_hasTwig hW (show (sM Ω t3).2.1 = t3 from rfl) a1 hv4) myX11_hasTwig wm6_238 ⟨_, _, _, _, (hW.ok k11), rfl, rfl, rfl, rfl⟩ rfl (kR rfl) (by decide) (kR rfl) rfl dX11_ownerAt_16 ?_
    refine r_if_eq C (tgt := 31) rfl dX11_ownerAt_19 (fun hc => ?_) (fun hc => ?_)
    · rw [if_neg (b2i_f hc)] at hF
      refine r_iconst C (v := (-1)) (by decide) dX11_ownerAt_31 ?_
      cases hF
      exact r_ireturn C dX11_ownerAt_32
    · rw [if_pos (b2i_t hc)] at hF
      refine r_aload_n C (k := 0) rfl rfl dX11_ownerAt_22 ?_
      refine r_iload_n C (k := 1) rfl rfl dX11_ownerAt_23 ?_
      refine r_iconst C (v := 1) rfl dX11_ownerAt_24 ?_
      obtain ⟨v5, hv5, hF⟩ := ob1_e hF
      refine r_callV C (d' := 0) [.int a1, .int 1] (c_X11_of hW (show (sM Ω t3).2.1 = t3 from rfl) a1 1 hv5) myX11_of wm7_2 ⟨_, _, _, _, (hW.ok k11), rfl, rfl, rfl, rfl⟩ rfl (kR rfl) (by decide) (kR rfl) rfl dX11_ownerAt_25 ?_
      refine r_goto C (tgt := 32) rfl dX11_ownerAt_28 ?_
      cases hF
      exact r_ireturn C dX11_ownerAt_32
  · rw [if_neg (b2i_f hc)] at hF
    refine r_iconst C (v := 0) rfl dX11_ownerAt_12 ?_
    cases hF
    exact r_ireturn C dX11_ownerAt_13
theorem dX11_lengthAt_0 : decode cX11_lengthAt 0 = .ok (.aload_n 0, 1) := by decide +kernel
theorem dX11_lengthAt_1 : decode cX11_lengthAt 1 = .ok (.aload_n 0, 1) := by decide +kernel
theorem dX11_lengthAt_2 : decode cX11_lengthAt 2 = .ok (.iload_n 1, 1) := by decide +kernel
theorem dX11_lengthAt_3 : decode cX11_lengthAt 3 = .ok (.invokevirtual 73, 3) := by decide +kernel
theorem dX11_lengthAt_6 : decode cX11_lengthAt 6 = .ok (.invokevirtual 221, 3) := by decide +kernel
theorem dX11_lengthAt_9 : decode cX11_lengthAt 9 = .ok (.ifCond .eq 12, 3) := by decide +kernel
theorem dX11_lengthAt_12 : decode cX11_lengthAt 12 = .ok (.aload_n 0, 1) := by decide +kernel
theorem dX11_lengthAt_13 : decode cX11_lengthAt 13 = .ok (.iload_n 1, 1) := by decide +kernel
theorem dX11_lengthAt_14 : decode cX11_lengthAt 14 = .ok (.iconst 2, 1) := by decide +kernel
theorem dX11_lengthAt_15 : decode cX11_lengthAt 15 = .ok (.invokevirtual 69, 3) := by decide +kernel
theorem dX11_lengthAt_18 : decode cX11_lengthAt 18 = .ok (.goto 4, 3) := by decide +kernel
theorem dX11_lengthAt_21 : decode cX11_lengthAt 21 = .ok (.iconst 0, 1) := by decide +kernel
theorem dX11_lengthAt_22 : decode cX11_lengthAt 22 = .ok (.ireturn, 1) := by decide +kernel
def F_X11_lengthAt (a1 : Int32) (t : HV) : Option (Int32 × (HV)) := (ob1 (F_X11_isSlot a1 t) fun v1 => (lt2 (F_X11_passes v1 t) fun v2 t3 => (if v2 = true then (ob1 (F_X11_of a1 2 t3) fun v4 => some (v4, t3)) else some (0, t3))))
theorem c_X11_lengthAt {w : WP} (hW : gWM w) {Ω : OM}  {t : HV} (e : Ω.2.1 = t) (a1 : Int32) {v : Int32} {t' : HV} (hF : F_X11_lengthAt a1 t = some (v, t')) {Ω' : OM} (e2 : (sM Ω t') = Ω') : gM w 2 yX11_lengthAt cX11_lengthAt 2 (some .int) [.ref (wAd w (11, 12, 0, 0)), .int a1] (cA w Ω) (some (.int v)) (cA w Ω') := by
  refine gM_of "HedgeMessagesModel" rfl (by decide) (kR rfl) fun X C => ?_
  unfold F_X11_lengthAt at hF
  subst e2
  show gV w X _ _ 0 [(0, .ref (wAd w (11, 12, 0, 0))), (1, .int a1)] []
  refine r_ct (ct' := cA w (sM Ω t)) (congrArg (cA w) (sM_i e).symm) ?_
  refine r_aload_n C (k := 0) rfl rfl dX11_lengthAt_0 ?_
  refine r_aload_n C (k := 0) rfl rfl dX11_lengthAt_1 ?_
  refine r_iload_n C (k := 1) rfl rfl dX11_lengthAt_2 ?_
  obtain ⟨v1, hv1, hF⟩ := ob1_e hF
  refine r_callV C (d' := 1) [.int a1] (c_X11_isSlot hW (show (sM Ω t).2.1 = t from rfl) a1 hv1) myX11_isSlot wm7_27 ⟨_, _, _, _, (hW.ok k11), rfl, rfl, rfl, rfl⟩ rfl (kR rfl) (by decide) (kR rfl) rfl dX11_lengthAt_3 ?_
  obtain ⟨v2, t3, ht3, hF⟩ := lt2_e hF
  refine r_callV C (d' := 0) [.int (b2i v1)] (c_X11_passes hW (show (sM Ω t).2.1 = t from rfl) v1 ht3 rfl) myX11_passes wm7_63 ⟨_, _, _, _, (hW.ok k11), rfl, rfl, rfl, rfl⟩ rfl (kR rfl) (by decide) (kR rfl) rfl dX11_lengthAt_6 ?_
  refine r_if_eq C (tgt := 21) rfl dX11_lengthAt_9 (fun hc => ?_) (fun hc => ?_)
  · rw [if_neg (b2i_f hc)] at hF
    refine r_iconst C (v := 0) rfl dX11_lengthAt_21 ?_
    cases hF
    exact r_ireturn C dX11_lengthAt_22
  · rw [if_pos (b2i_t hc)] at hF
    refine r_aload_n C (k := 0) rfl rfl dX11_lengthAt_12 ?_
    refine r_iload_n C (k := 1) rfl rfl dX11_lengthAt_13 ?_
    refine r_iconst C (v := 2) rfl dX11_lengthAt_14 ?_
    obtain ⟨v4, hv4, hF⟩ := ob1_e hF
    refine r_callV C (d' := 0) [.int a1, .int 2] (c_X11_of hW (show (sM Ω t3).2.1 = t3 from rfl) a1 2 hv4) myX11_of wm7_2 ⟨_, _, _, _, (hW.ok k11), rfl, rfl, rfl, rfl⟩ rfl (kR rfl) (by decide) (kR rfl) rfl dX11_lengthAt_15 ?_
    refine r_goto C (tgt := 22) rfl dX11_lengthAt_18 ?_
    cases hF
    exact r_ireturn C dX11_lengthAt_22
theorem dX11_isReserved_0 : decode cX11_isReserved 0 = .ok (.aload_n 0, 1) := by decide +kernel
theorem dX11_isReserved_1 : decode cX11_isReserved 1 = .ok (.aload_n 0, 1) := by decide +kernel
theorem dX11_isReserved_2 : decode cX11_isReserved 2 = .ok (.iload_n 1, 1) := by decide +kernel
theorem dX11_isReserved_3 : decode cX11_isReserved 3 = .ok (.invokevirtual 73, 3) := by decide +kernel
theorem dX11_isReserved_6 : decode cX11_isReserved 6 = .ok (.invokevirtual 221, 3) := by decide +kernel
theorem dX11_isReserved_9 : decode cX11_isReserved 9 = .ok (.ifCond .eq 15, 3) := by decide +kernel
theorem dX11_isReserved_12 : decode cX11_isReserved 12 = .ok (.aload_n 0, 1) := by decide +kernel
theorem dX11_isReserved_13 : decode cX11_isReserved 13 = .ok (.iload_n 1, 1) := by decide +kernel
theorem dX11_isReserved_14 : decode cX11_isReserved 14 = .ok (.invokevirtual 102, 3) := by decide +kernel
theorem dX11_isReserved_17 : decode cX11_isReserved 17 = .ok (.ifCond .eq 7, 3) := by decide +kernel
theorem dX11_isReserved_20 : decode cX11_isReserved 20 = .ok (.iconst 1, 1) := by decide +kernel
theorem dX11_isReserved_21 : decode cX11_isReserved 21 = .ok (.goto 4, 3) := by decide +kernel
theorem dX11_isReserved_24 : decode cX11_isReserved 24 = .ok (.iconst 0, 1) := by decide +kernel
theorem dX11_isReserved_25 : decode cX11_isReserved 25 = .ok (.ireturn, 1) := by decide +kernel
def F_X11_isReserved (N : Nat) (a1 : Int32) (t : HV) : Option (Bool × (HV)) := (ob1 (F_X11_isSlot a1 t) fun v1 => (lt2 (F_X11_passes v1 t) fun v2 t3 => (if v2 = true then (ob1 (F_X11_isReservedAt N a1 t3) fun v4 => (if v4 = true then some (true, t3) else some (false, t3))) else some (false, t3))))
theorem c_X11_isReserved {w : WP} (hW : gWM w) {Ω : OM}  {t : HV} (e : Ω.2.1 = t) (N : Nat) (a1 : Int32) {v : Bool} {t' : HV} (hF : F_X11_isReserved N a1 t = some (v, t')) {Ω' : OM} (e2 : (sM Ω t') = Ω') : gM w 3 yX11_isReserved cX11_isReserved 2 (some .boolean) [.ref (wAd w (11, 12, 0, 0)), .int a1] (cA w Ω) (some (.int (b2i v))) (cA w Ω') := by
  refine gM_of "HedgeMessagesModel" rfl (by decide) (kR rfl) fun X C => ?_
  unfold F_X11_isReserved at hF
  subst e2
  show gV w X _ _ 0 [(0, .ref (wAd w (11, 12, 0, 0))), (1, .int a1)] []
  refine r_ct (ct' := cA w (sM Ω t)) (congrArg (cA w) (sM_i e).symm) ?_
  refine r_aload_n C (k := 0) rfl rfl dX11_isReserved_0 ?_
  refine r_aload_n C (k := 0) rfl rfl dX11_isReserved_1 ?_
  refine r_iload_n C (k := 1) rfl rfl dX11_isReserved_2 ?_
  obtain ⟨v1, hv1, hF⟩ := ob1_e hF
  refine r_callV C (d' := 1) [.int a1] (c_X11_isSlot hW (show (sM Ω t).2.1 = t from rfl) a1 hv1) myX11_isSlot wm7_27 ⟨_, _, _, _, (hW.ok k11), rfl, rfl, rfl, rfl⟩ rfl (kR rfl) (by decide) (kR rfl) rfl dX11_isReserved_3 ?_
  obtain ⟨v2, t3, ht3, hF⟩ := lt2_e hF
  refine r_callV C (d' := 0) [.int (b2i v1)] (c_X11_passes hW (show (sM Ω t).2.1 = t from rfl) v1 ht3 rfl) myX11_passes wm7_63 ⟨_, _, _, _, (hW.ok k11), rfl, rfl, rfl, rfl⟩ rfl (kR rfl) (by decide) (kR rfl) rfl dX11_isReserved_6 ?_
  refine r_if_eq C (tgt := 24) rfl dX11_isReserved_9 (fun hc => ?_) (fun hc => ?_)
  · rw [if_neg (b2i_f hc)] at hF
    refine r_iconst C (v := 0) rfl dX11_isReserved_24 ?_
    cases hF
    exact r_zreturn C false rfl dX11_isReserved_25
  · rw [if_pos (b2i_t hc)] at hF
    refine r_aload_n C (k := 0) rfl rfl dX11_isReserved_12 ?_
    refine r_iload_n C (k := 1) rfl rfl dX11_isReserved_13 ?_
    obtain ⟨v4, hv4, hF⟩ := ob1_e hF
    refine r_callV C (d' := 2) [.int a1] (c_X11_isReservedAt hW (show (sM Ω t3).2.1 = t3 from rfl) N a1 hv4) myX11_isReservedAt wm7_212 ⟨_, _, _, _, (hW.ok k11), rfl, rfl, rfl, rfl⟩ rfl (kR rfl) (by decide) (kR rfl) rfl dX11_isReserved_14 ?_
    refine r_if_eq C (tgt := 24) rfl dX11_isReserved_17 (fun hc => ?_) (fun hc => ?_)
    · rw [if_neg (b2i_f hc)] at hF
      refine r_iconst C (v := 0) rfl dX11_isReserved_24 ?_
      cases hF
      exact r_zreturn C false rfl dX11_isReserved_25
    · rw [if_pos (b2i_t hc)] at hF
      refine r_iconst C (v := 1) rfl dX11_isReserved_20 ?_
      refine r_goto C (tgt := 25) rfl dX11_isReserved_21 ?_
      cases hF
      exact r_zreturn C true rfl dX11_isReserved_25
theorem dX11_nestDays_0 : decode cX11_nestDays 0 = .ok (.aload_n 0, 1) := by decide +kernel
theorem dX11_nestDays_1 : decode cX11_nestDays 1 = .ok (.aload_n 0, 1) := by decide +kernel
theorem dX11_nestDays_2 : decode cX11_nestDays 2 = .ok (.iload_n 1, 1) := by decide +kernel
theorem dX11_nestDays_3 : decode cX11_nestDays 3 = .ok (.invokevirtual 73, 3) := by decide +kernel
theorem dX11_nestDays_6 : decode cX11_nestDays 6 = .ok (.invokevirtual 221, 3) := by decide +kernel
theorem dX11_nestDays_9 : decode cX11_nestDays 9 = .ok (.ifCond .eq 12, 3) := by decide +kernel
theorem dX11_nestDays_12 : decode cX11_nestDays 12 = .ok (.aload_n 0, 1) := by decide +kernel
theorem dX11_nestDays_13 : decode cX11_nestDays 13 = .ok (.iload_n 1, 1) := by decide +kernel
theorem dX11_nestDays_14 : decode cX11_nestDays 14 = .ok (.iconst 4, 1) := by decide +kernel
theorem dX11_nestDays_15 : decode cX11_nestDays 15 = .ok (.invokevirtual 69, 3) := by decide +kernel
theorem dX11_nestDays_18 : decode cX11_nestDays 18 = .ok (.goto 4, 3) := by decide +kernel
theorem dX11_nestDays_21 : decode cX11_nestDays 21 = .ok (.iconst 0, 1) := by decide +kernel
theorem dX11_nestDays_22 : decode cX11_nestDays 22 = .ok (.ireturn, 1) := by decide +kernel
def F_X11_nestDays (a1 : Int32) (t : HV) : Option (Int32 × (HV)) := (ob1 (F_X11_isSlot a1 t) fun v1 => (lt2 (F_X11_passes v1 t) fun v2 t3 => (if v2 = true then (ob1 (F_X11_of a1 4 t3) fun v4 => some (v4, t3)) else some (0, t3))))
theorem c_X11_nestDays {w : WP} (hW : gWM w) {Ω : OM}  {t : HV} (e : Ω.2.1 = t) (a1 : Int32) {v : Int32} {t' : HV} (hF : F_X11_nestDays a1 t = some (v, t')) {Ω' : OM} (e2 : (sM Ω t') = Ω') : gM w 2 yX11_nestDays cX11_nestDays 2 (some .int) [.ref (wAd w (11, 12, 0, 0)), .int a1] (cA w Ω) (some (.int v)) (cA w Ω') := by
  refine gM_of "HedgeMessagesModel" rfl (by decide) (kR rfl) fun X C => ?_
  unfold F_X11_nestDays at hF
  subst e2
  show gV w X _ _ 0 [(0, .ref (wAd w (11, 12, 0, 0))), (1, .int a1)] []
  refine r_ct (ct' := cA w (sM Ω t)) (congrArg (cA w) (sM_i e).symm) ?_
  refine r_aload_n C (k := 0) rfl rfl dX11_nestDays_0 ?_
  refine r_aload_n C (k := 0) rfl rfl dX11_nestDays_1 ?_
  refine r_iload_n C (k := 1) rfl rfl dX11_nestDays_2 ?_
  obtain ⟨v1, hv1, hF⟩ := ob1_e hF
  refine r_callV C (d' := 1) [.int a1] (c_X11_isSlot hW (show (sM Ω t).2.1 = t from rfl) a1 hv1) myX11_isSlot wm7_27 ⟨_, _, _, _, (hW.ok k11), rfl, rfl, rfl, rfl⟩ rfl (kR rfl) (by decide) (kR rfl) rfl dX11_nestDays_3 ?_
  obtain ⟨v2, t3, ht3, hF⟩ := lt2_e hF
  refine r_callV C (d' := 0) [.int (b2i v1)] (c_X11_passes hW (show (sM Ω t).2.1 = t from rfl) v1 ht3 rfl) myX11_passes wm7_63 ⟨_, _, _, _, (hW.ok k11), rfl, rfl, rfl, rfl⟩ rfl (kR rfl) (by decide) (kR rfl) rfl dX11_nestDays_6 ?_
  refine r_if_eq C (tgt := 21) rfl dX11_nestDays_9 (fun hc => ?_) (fun hc => ?_)
  · rw [if_neg (b2i_f hc)] at hF
    refine r_iconst C (v := 0) rfl dX11_nestDays_21 ?_
    cases hF
    exact r_ireturn C dX11_nestDays_22
  · rw [if_pos (b2i_t hc)] at hF
    refine r_aload_n C (k := 0) rfl rfl dX11_nestDays_12 ?_
    refine r_iload_n C (k := 1) rfl rfl dX11_nestDays_13 ?_
    refine r_iconst C (v := 4) rfl dX11_nestDays_14 ?_
    obtain ⟨v4, hv4, hF⟩ := ob1_e hF
    refine r_callV C (d' := 0) [.int a1, .int 4] (c_X11_of hW (show (sM Ω t3).2.1 = t3 from rfl) a1 4 hv4) myX11_of wm7_2 ⟨_, _, _, _, (hW.ok k11), rfl, rfl, rfl, rfl⟩ rfl (kR rfl) (by decide) (kR rfl) rfl dX11_nestDays_15 ?_
    refine r_goto C (tgt := 22) rfl dX11_nestDays_18 ?_
    cases hF
    exact r_ireturn C dX11_nestDays_22
theorem dX11_isProtected_0 : decode cX11_isProtected 0 = .ok (.aload_n 0, 1) := by decide +kernel
theorem dX11_isProtected_1 : decode cX11_isProtected 1 = .ok (.aload_n 0, 1) := by decide +kernel
theorem dX11_isProtected_2 : decode cX11_isProtected 2 = .ok (.iload_n 1, 1) := by decide +kernel
theorem dX11_isProtected_3 : decode cX11_isProtected 3 = .ok (.invokevirtual 73, 3) := by decide +kernel
theorem dX11_isProtected_6 : decode cX11_isProtected 6 = .ok (.invokevirtual 221, 3) := by decide +kernel
theorem dX11_isProtected_9 : decode cX11_isProtected 9 = .ok (.ifCond .eq 15, 3) := by decide +kernel
theorem dX11_isProtected_12 : decode cX11_isProtected 12 = .ok (.aload_n 0, 1) := by decide +kernel
theorem dX11_isProtected_13 : decode cX11_isProtected 13 = .ok (.iload_n 1, 1) := by decide +kernel
theorem dX11_isProtected_14 : decode cX11_isProtected 14 = .ok (.invokevirtual 158, 3) := by decide +kernel
theorem dX11_isProtected_17 : decode cX11_isProtected 17 = .ok (.ifCond .eq 7, 3) := by decide +kernel
theorem dX11_isProtected_20 : decode cX11_isProtected 20 = .ok (.iconst 1, 1) := by decide +kernel
theorem dX11_isProtected_21 : decode cX11_isProtected 21 = .ok (.goto 4, 3) := by decide +kernel
theorem dX11_isProtected_24 : decode cX11_isProtected 24 = .ok (.iconst 0, 1) := by decide +kernel
theorem dX11_isProtected_25 : decode cX11_isProtected 25 = .ok (.ireturn, 1) := by decide +kernel
def F_X11_isProtected (a1 : Int32) (t : HV) : Option (Bool × (HV)) := (ob1 (F_X11_isSlot a1 t) fun v1 => (lt2 (F_X11_passes v1 t) fun v2 t3 => (if v2 = true then (ob1 (F_X11_isSafe a1 t3) fun v4 => (if v4 = true then some (true, t3) else some (false, t3))) else some (false, t3))))
theorem c_X11_isProtected {w : WP} (hW : gWM w) {Ω : OM}  {t : HV} (e : Ω.2.1 = t) (a1 : Int32) {v : Bool} {t' : HV} (hF : F_X11_isProtected a1 t = some (v, t')) {Ω' : OM} (e2 : (sM Ω t') = Ω') : gM w 4 yX11_isProtected cX11_isProtected 2 (some .boolean) [.ref (wAd w (11, 12, 0, 0)), .int a1] (cA w Ω) (some (.int (b2i v))) (cA w Ω') := by
  refine gM_of "HedgeMessagesModel" rfl (by decide) (kR rfl) fun X C => ?_
  unfold F_X11_isProtected at hF
  subst e2
  show gV w X _ _ 0 [(0, .ref (wAd w (11, 12, 0, 0))), (1, .int a1)] []
  refine r_ct (ct' := cA w (sM Ω t)) (congrArg (cA w) (sM_i e).symm) ?_
  refine r_aload_n C (k := 0) rfl rfl dX11_isProtected_0 ?_
  refine r_aload_n C (k := 0) rfl rfl dX11_isProtected_1 ?_
  refine r_iload_n C (k := 1) rfl rfl dX11_isProtected_2 ?_
  obtain ⟨v1, hv1, hF⟩ := ob1_e hF
  refine r_callV C (d' := 1) [.int a1] (c_X11_isSlot hW (show (sM Ω t).2.1 = t from rfl) a1 hv1) myX11_isSlot wm7_27 ⟨_, _, _, _, (hW.ok k11), rfl, rfl, rfl, rfl⟩ rfl (kR rfl) (by decide) (kR rfl) rfl dX11_isProtected_3 ?_
  obtain ⟨v2, t3, ht3, hF⟩ := lt2_e hF
  refine r_callV C (d' := 0) [.int (b2i v1)] (c_X11_passes hW (show (sM Ω t).2.1 = t from rfl) v1 ht3 rfl) myX11_passes wm7_63 ⟨_, _, _, _, (hW.ok k11), rfl, rfl, rfl, rfl⟩ rfl (kR rfl) (by decide) (kR rfl) rfl dX11_isProtected_6 ?_
  refine r_if_eq C (tgt := 24) rfl dX11_isProtected_9 (fun hc => ?_) (fun hc => ?_)
  · rw [if_neg (b2i_f hc)] at hF
    refine r_iconst C (v := 0) rfl dX11_isProtected_24 ?_
    cases hF
    exact r_zreturn C false rfl dX11_isProtected_25
  · rw [if_pos (b2i_t hc)] at hF
    refine r_aload_n C (k := 0) rfl rfl dX11_isProtected_12 ?_
    refine r_iload_n C (k := 1) rfl rfl dX11_isProtected_13 ?_
    obtain ⟨v4, hv4, hF⟩ := ob1_e hF
    refine r_callV C (d' := 3) [.int a1] (c_X11_isSafe hW (show (sM Ω t3).2.1 = t3 from rfl) a1 hv4) myX11_isSafe wm8_6 ⟨_, _, _, _, (hW.ok k11), rfl, rfl, rfl, rfl⟩ rfl (kR rfl) (by decide) (kR rfl) rfl dX11_isProtected_14 ?_
    refine r_if_eq C (tgt := 24) rfl dX11_isProtected_17 (fun hc => ?_) (fun hc => ?_)
    · rw [if_neg (b2i_f hc)] at hF
      refine r_iconst C (v := 0) rfl dX11_isProtected_24 ?_
      cases hF
      exact r_zreturn C false rfl dX11_isProtected_25
    · rw [if_pos (b2i_t hc)] at hF
      refine r_iconst C (v := 1) rfl dX11_isProtected_20 ?_
      refine r_goto C (tgt := 25) rfl dX11_isProtected_21 ?_
      cases hF
      exact r_zreturn C true rfl dX11_isProtected_25
theorem dX11_nestCount_0 : decode cX11_nestCount 0 = .ok (.aload_n 0, 1) := by decide +kernel
theorem dX11_nestCount_1 : decode cX11_nestCount 1 = .ok (.iconst 0, 1) := by decide +kernel
theorem dX11_nestCount_2 : decode cX11_nestCount 2 = .ok (.putfield 58, 3) := by decide +kernel
theorem dX11_nestCount_5 : decode cX11_nestCount 5 = .ok (.aload_n 0, 1) := by decide +kernel
theorem dX11_nestCount_6 : decode cX11_nestCount 6 = .ok (.invokevirtual 209, 3) := by decide +kernel
theorem dX11_nestCount_9 : decode cX11_nestCount 9 = .ok (.ireturn, 1) := by decide +kernel
def F_X11_nestCount (N : Nat) (t : HV) : Option (Int32 × (HV)) := (lt (sS t 6 0) fun t1 => (ob1 (F_X11_nests N t1) fun v2 => some (v2, t1)))
theorem c_X11_nestCount {w : WP} (hW : gWM w) {Ω : OM}  {t : HV} (e : Ω.2.1 = t) (N : Nat)  {v : Int32} {t' : HV} (hF : F_X11_nestCount N t = some (v, t')) {Ω' : OM} (e2 : (sM Ω t') = Ω') : gM w 2 yX11_nestCount cX11_nestCount 1 (some .int) [.ref (wAd w (11, 12, 0, 0))] (cA w Ω) (some (.int v)) (cA w Ω') := by
  refine gM_of "HedgeMessagesModel" rfl (by decide) (kR rfl) fun X C => ?_
  unfold F_X11_nestCount at hF
  subst e2
  show gV w X _ _ 0 [(0, .ref (wAd w (11, 12, 0, 0)))] []
  refine r_ct (ct' := cA w (sM Ω t)) (congrArg (cA w) (sM_i e).symm) ?_
  refine r_aload_n C (k := 0) rfl rfl dX11_nestCount_0 ?_
  refine r_iconst C (v := 0) rfl dX11_nestCount_1 ?_
  obtain ⟨t1, et1, hF⟩ := lt_e hF
  refine op_11_6 C hW.x (hW.fr k11) (show (sM Ω t).2.1 = t from rfl) wm7_73 dX11_nestCount_2 (congrArg (sM Ω) et1) ?_
  refine r_aload_n C (k := 0) rfl rfl dX11_nestCount_5 ?_
  obtain ⟨v2, hv2, hF⟩ := ob1_e hF
  refine r_callV C (d' := 1) [] (c_X11_nests hW (show (sM Ω t1).2.1 = t1 from rfl) N hv2) myX11_nests wm7_31 ⟨_, _, _, _, (hW.ok k11), rfl, rfl, rfl, rfl⟩ rfl (kR rfl) (by decide) (kR rfl) rfl dX11_nestCount_6 ?_
  cases hF
  exact r_ireturn C dX11_nestCount_9
theorem dX11_pendingCount_0 : decode cX11_pendingCount 0 = .ok (.aload_n 0, 1) := by decide +kernel
theorem dX11_pendingCount_1 : decode cX11_pendingCount 1 = .ok (.iload_n 1, 1) := by decide +kernel
theorem dX11_pendingCount_2 : decode cX11_pendingCount 2 = .ok (.invokestatic 385, 3) := by decide +kernel
theorem dX11_pendingCount_5 : decode cX11_pendingCount 5 = .ok (.invokevirtual 221, 3) := by decide +kernel
theorem dX11_pendingCount_8 : decode cX11_pendingCount 8 = .ok (.ifCond .eq 15, 3) := by decide +kernel
theorem dX11_pendingCount_11 : decode cX11_pendingCount 11 = .ok (.aload_n 0, 1) := by decide +kernel
theorem dX11_pendingCount_12 : decode cX11_pendingCount 12 = .ok (.getfield 7, 3) := by decide +kernel
theorem dX11_pendingCount_15 : decode cX11_pendingCount 15 = .ok (.bipush 12, 2) := by decide +kernel
theorem dX11_pendingCount_17 : decode cX11_pendingCount 17 = .ok (.iload_n 1, 1) := by decide +kernel
theorem dX11_pendingCount_18 : decode cX11_pendingCount 18 = .ok (.iadd, 1) := by decide +kernel
theorem dX11_pendingCount_19 : decode cX11_pendingCount 19 = .ok (.iaload, 1) := by decide +kernel
theorem dX11_pendingCount_20 : decode cX11_pendingCount 20 = .ok (.goto 4, 3) := by decide +kernel
theorem dX11_pendingCount_23 : decode cX11_pendingCount 23 = .ok (.iconst 0, 1) := by decide +kernel
theorem dX11_pendingCount_24 : decode cX11_pendingCount 24 = .ok (.ireturn, 1) := by decide +kernel
def F_X11_pendingCount (a1 : Int32) (t : HV) : Option (Int32 × (HV)) := (lt2 (F_X11_passes (F_X11_isGardener a1) t) fun v1 t2 => (if v1 = true then (if vpb (12 + a1) 760 = true then some ((ag t2 0 (12 + a1)), t2) else none) else some (0, t2)))
theorem c_X11_pendingCount {w : WP} (hW : gWM w) {Ω : OM}  {t : HV} (e : Ω.2.1 = t) (a1 : Int32) {v : Int32} {t' : HV} (hF : F_X11_pendingCount a1 t = some (v, t')) {Ω' : OM} (e2 : (sM Ω t') = Ω') : gM w 2 yX11_pendingCount cX11_pendingCount 2 (some .int) [.ref (wAd w (11, 12, 0, 0)), .int a1] (cA w Ω) (some (.int v)) (cA w Ω') := by
  refine gM_of "HedgeMessagesModel" rfl (by decide) (kR rfl) fun X C => ?_
  unfold F_X11_pendingCount at hF
  subst e2
  show gV w X _ _ 0 [(0, .ref (wAd w (11, 12, 0, 0))), (1, .int a1)] []
  refine r_ct (ct' := cA w (sM Ω t)) (congrArg (cA w) (sM_i e).symm) ?_
  refine r_aload_n C (k := 0) rfl rfl dX11_pendingCount_0 ?_
  refine r_iload_n C (k := 1) rfl rfl dX11_pendingCount_1 ?_
  refine r_callS C (d' := 1) [.int a1] (c_X11_isGardener a1 rfl) myX11_isGardener wm8_193 rfl (kR rfl) (by decide) (kR rfl) rfl dX11_pendingCount_2 ?_
  obtain ⟨v1, t2, ht2, hF⟩ := lt2_e hF
  refine r_callV C (d' := 0) [.int (b2i (F_X11_isGardener a1))] (c_X11_passes hW (show (sM Ω t).2.1 = t from rfl) (F_X11_isGardener a1) ht2 rfl) myX11_passes wm7_63 ⟨_, _, _, _, (hW.ok k11), rfl, rfl, rfl, rfl⟩ rfl (kR rfl) (by decide) (kR rfl) rfl dX11_pendingCount_5 ?_
  refine r_if_eq C (tgt := 23) rfl dX11_pendingCount_8 (fun hc => ?_) (fun hc => ?_)
  · rw [if_neg (b2i_f hc)] at hF
    refine r_iconst C (v := 0) rfl dX11_pendingCount_23 ?_
    cases hF
    exact r_ireturn C dX11_pendingCount_24
  · rw [if_pos (b2i_t hc)] at hF
    refine r_aload_n C (k := 0) rfl rfl dX11_pendingCount_11 ?_
    refine og_11_0 C (hW.ok k11) wm7_67 dX11_pendingCount_12 ?_
    refine r_bipush C (v := 12) rfl dX11_pendingCount_15 ?_
    refine r_iload_n C (k := 1) rfl rfl dX11_pendingCount_17 ?_
    refine r_iadd C dX11_pendingCount_18 ?_
    obtain ⟨b3, hF⟩ := gd_e hF
    refine m_ald C (hW.ok (k12 (a := 0) (by unfold okMa; decide))) (show (sM Ω t2).2.1 = t2 from rfl) rfl b3 dX11_pendingCount_19 ?_
    refine r_goto C (tgt := 24) rfl dX11_pendingCount_20 ?_
    cases hF
    exact r_ireturn C dX11_pendingCount_24
theorem dX11_pendingLetter_0 : decode cX11_pendingLetter 0 = .ok (.aload_n 0, 1) := by decide +kernel
theorem dX11_pendingLetter_1 : decode cX11_pendingLetter 1 = .ok (.iload_n 1, 1) := by decide +kernel
theorem dX11_pendingLetter_2 : decode cX11_pendingLetter 2 = .ok (.invokestatic 385, 3) := by decide +kernel
theorem dX11_pendingLetter_5 : decode cX11_pendingLetter 5 = .ok (.invokevirtual 221, 3) := by decide +kernel
theorem dX11_pendingLetter_8 : decode cX11_pendingLetter 8 = .ok (.ifCond .ne 5, 3) := by decide +kernel
theorem dX11_pendingLetter_11 : decode cX11_pendingLetter 11 = .ok (.iconst 0, 1) := by decide +kernel
theorem dX11_pendingLetter_12 : decode cX11_pendingLetter 12 = .ok (.ireturn, 1) := by decide +kernel
theorem dX11_pendingLetter_13 : decode cX11_pendingLetter 13 = .ok (.iload_n 2, 1) := by decide +kernel
theorem dX11_pendingLetter_14 : decode cX11_pendingLetter 14 = .ok (.i2l, 1) := by decide +kernel
theorem dX11_pendingLetter_15 : decode cX11_pendingLetter 15 = .ok (.lconst 0, 1) := by decide +kernel
theorem dX11_pendingLetter_16 : decode cX11_pendingLetter 16 = .ok (.aload_n 0, 1) := by decide +kernel
theorem dX11_pendingLetter_17 : decode cX11_pendingLetter 17 = .ok (.getfield 7, 3) := by decide +kernel
theorem dX11_pendingLetter_20 : decode cX11_pendingLetter 20 = .ok (.bipush 12, 2) := by decide +kernel
theorem dX11_pendingLetter_22 : decode cX11_pendingLetter 22 = .ok (.iload_n 1, 1) := by decide +kernel
theorem dX11_pendingLetter_23 : decode cX11_pendingLetter 23 = .ok (.iadd, 1) := by decide +kernel
theorem dX11_pendingLetter_24 : decode cX11_pendingLetter 24 = .ok (.iaload, 1) := by decide +kernel
theorem dX11_pendingLetter_25 : decode cX11_pendingLetter 25 = .ok (.iconst 1, 1) := by decide +kernel
theorem dX11_pendingLetter_26 : decode cX11_pendingLetter 26 = .ok (.isub, 1) := by decide +kernel
theorem dX11_pendingLetter_27 : decode cX11_pendingLetter 27 = .ok (.i2l, 1) := by decide +kernel
theorem dX11_pendingLetter_28 : decode cX11_pendingLetter 28 = .ok (.invokestatic 65, 3) := by decide +kernel
theorem dX11_pendingLetter_31 : decode cX11_pendingLetter 31 = .ok (.ifCond .ne 5, 3) := by decide +kernel
theorem dX11_pendingLetter_34 : decode cX11_pendingLetter 34 = .ok (.iconst (-1), 1) := by decide +kernel
theorem dX11_pendingLetter_35 : decode cX11_pendingLetter 35 = .ok (.ireturn, 1) := by decide +kernel
theorem dX11_pendingLetter_36 : decode cX11_pendingLetter 36 = .ok (.iload_n 1, 1) := by decide +kernel
theorem dX11_pendingLetter_37 : decode cX11_pendingLetter 37 = .ok (.iload_n 2, 1) := by decide +kernel
theorem dX11_pendingLetter_38 : decode cX11_pendingLetter 38 = .ok (.invokestatic 114, 3) := by decide +kernel
theorem dX11_pendingLetter_41 : decode cX11_pendingLetter 41 = .ok (.istore 4, 2) := by decide +kernel
theorem dX11_pendingLetter_43 : decode cX11_pendingLetter 43 = .ok (.iload_n 3, 1) := by decide +kernel
theorem dX11_pendingLetter_44 : decode cX11_pendingLetter 44 = .ok (.i2l, 1) := by decide +kernel
theorem dX11_pendingLetter_45 : decode cX11_pendingLetter 45 = .ok (.lconst 0, 1) := by decide +kernel
theorem dX11_pendingLetter_46 : decode cX11_pendingLetter 46 = .ok (.aload_n 0, 1) := by decide +kernel
theorem dX11_pendingLetter_47 : decode cX11_pendingLetter 47 = .ok (.getfield 7, 3) := by decide +kernel
theorem dX11_pendingLetter_50 : decode cX11_pendingLetter 50 = .ok (.iload 4, 2) := by decide +kernel
theorem dX11_pendingLetter_52 : decode cX11_pendingLetter 52 = .ok (.iaload, 1) := by decide +kernel
theorem dX11_pendingLetter_53 : decode cX11_pendingLetter 53 = .ok (.iconst 1, 1) := by decide +kernel
theorem dX11_pendingLetter_54 : decode cX11_pendingLetter 54 = .ok (.isub, 1) := by decide +kernel
theorem dX11_pendingLetter_55 : decode cX11_pendingLetter 55 = .ok (.i2l, 1) := by decide +kernel
theorem dX11_pendingLetter_56 : decode cX11_pendingLetter 56 = .ok (.invokestatic 65, 3) := by decide +kernel
theorem dX11_pendingLetter_59 : decode cX11_pendingLetter 59 = .ok (.ifCond .eq 17, 3) := by decide +kernel
theorem dX11_pendingLetter_62 : decode cX11_pendingLetter 62 = .ok (.aload_n 0, 1) := by decide +kernel
theorem dX11_pendingLetter_63 : decode cX11_pendingLetter 63 = .ok (.getfield 7, 3) := by decide +kernel
theorem dX11_pendingLetter_66 : decode cX11_pendingLetter 66 = .ok (.iload 4, 2) := by decide +kernel
theorem dX11_pendingLetter_68 : decode cX11_pendingLetter 68 = .ok (.iconst 1, 1) := by decide +kernel
theorem dX11_pendingLetter_69 : decode cX11_pendingLetter 69 = .ok (.iadd, 1) := by decide +kernel
theorem dX11_pendingLetter_70 : decode cX11_pendingLetter 70 = .ok (.iload_n 3, 1) := by decide +kernel
theorem dX11_pendingLetter_71 : decode cX11_pendingLetter 71 = .ok (.iadd, 1) := by decide +kernel
theorem dX11_pendingLetter_72 : decode cX11_pendingLetter 72 = .ok (.iaload, 1) := by decide +kernel
theorem dX11_pendingLetter_73 : decode cX11_pendingLetter 73 = .ok (.goto 4, 3) := by decide +kernel
theorem dX11_pendingLetter_76 : decode cX11_pendingLetter 76 = .ok (.iconst (-1), 1) := by decide +kernel
theorem dX11_pendingLetter_77 : decode cX11_pendingLetter 77 = .ok (.ireturn, 1) := by decide +kernel
def F_X11_pendingLetter (a1 : Int32) (a2 : Int32) (a3 : Int32) (t : HV) : Option (Int32 × (HV)) := (lt2 (F_X11_passes (F_X11_isGardener a1) t) fun v1 t2 => (if v1 = true then (if vpb (12 + a1) 760 = true then (if (F_X11_in ((a2 : Int32).toInt64) (0 : Int64) ((((ag t2 0 (12 + a1)) - 1) : Int32).toInt64)) = true then (if vpb (F_X11_waitingAt a1 a2) 760 = true then (if (F_X11_in ((a3 : Int32).toInt64) (0 : Int64) ((((ag t2 0 (F_X11_waitingAt a1 a2)) - 1) : Int32).toInt64)) = true then (if vpb (((F_X11_waitingAt a1 a2) + 1) + a3) 760 = true then some ((ag t2 0 (((F_X11_waitingAt a1 a2) + 1) + a3)), t2) else none) else some ((-1), t2)) else none) else some ((-1), t2)) else none) else some (0, t2)))
theorem c_X11_pendingLetter {w : WP} (hW : gWM w) {Ω : OM}  {t : HV} (e : Ω.2.1 = t) (a1 : Int32) (a2 : Int32) (a3 : Int32) {v : Int32} {t' : HV} (hF : F_X11_pendingLetter a1 a2 a3 t = some (v, t')) {Ω' : OM} (e2 : (sM Ω t') = Ω') : gM w 2 yX11_pendingLetter cX11_pendingLetter 5 (some .int) [.ref (wAd w (11, 12, 0, 0)), .int a1, .int a2, .int a3] (cA w Ω) (some (.int v)) (cA w Ω') := by
  refine gM_of "HedgeMessagesModel" rfl (by decide) (kR rfl) fun X C => ?_
  unfold F_X11_pendingLetter at hF
  subst e2
  show gV w X _ _ 0 [(0, .ref (wAd w (11, 12, 0, 0))), (1, .int a1), (2, .int a2), (3, .int a3)] []
  refine r_ct (ct' := cA w (sM Ω t)) (congrArg (cA w) (sM_i e).symm) ?_
  refine r_aload_n C (k := 0) rfl rfl dX11_pendingLetter_0 ?_
  refine r_iload_n C (k := 1) rfl rfl dX11_pendingLetter_1 ?_
  refine r_callS C (d' := 1) [.int a1] (c_X11_isGardener a1 rfl) myX11_isGardener wm8_193 rfl (kR rfl) (by decide) (kR rfl) rfl dX11_pendingLetter_2 ?_
  obtain ⟨v1, t2, ht2, hF⟩ := lt2_e hF
  refine r_callV C (d' := 0) [.int (b2i (F_X11_isGardener a1))] (c_X11_passes hW (show (sM Ω t).2.1 = t from rfl) (F_X11_isGardener a1) ht2 rfl) myX11_passes wm7_63 ⟨_, _, _, _, (hW.ok k11), rfl, rfl, rfl, rfl⟩ rfl (kR rfl) (by decide) (kR rfl) rfl dX11_pendingLetter_5 ?_
  refine r_if_ne C (tgt := 13) rfl dX11_pendingLetter_8 (fun hc => ?_) (fun hc => ?_)
  · rw [if_pos (b2i_t hc)] at hF
    refine r_iload_n C (k := 2) rfl rfl dX11_pendingLetter_13 ?_
    refine r_i2l C (v := ((a2 : Int32).toInt64)) rfl dX11_pendingLetter_14 ?_
    refine r_lconst C (v := 0) rfl dX11_pendingLetter_15 ?_
    refine r_aload_n C (k := 0) rfl rfl dX11_pendingLetter_16 ?_
    refine og_11_0 C (hW.ok k11) wm7_67 dX11_pendingLetter_17 ?_
    refine r_bipush C (v := 12) rfl dX11_pendingLetter_20 ?_
    refine r_iload_n C (k := 1) rfl rfl dX11_pendingLetter_22 ?_
    refine r_iadd C dX11_pendingLetter_23 ?_
    obtain ⟨b3, hF⟩ := gd_e hF
    refine m_ald C (hW.ok (k12 (a := 0) (by unfold okMa; decide))) (show (sM Ω t2).2.1 = t2 from rfl) rfl b3 dX11_pendingLetter_24 ?_
    refine r_iconst C (v := 1) rfl dX11_pendingLetter_25 ?_
    refine r_isub C dX11_pendingLetter_26 ?_
    refine r_i2l C (v := ((((ag t2 0 (12 + a1)) - 1) : Int32).toInt64)) rfl dX11_pendingLetter_27 ?_
    refine r_callS C (d' := 0) [.long ((a2 : Int32).toInt64), .long (0 : Int64), .long ((((ag t2 0 (12 + a1)) - 1) : Int32).toInt64)] (c_X11_in ((a2 : Int32).toInt64) (0 : Int64) ((((ag t2 0 (12 + a1)) - 1) : Int32).toInt64) rfl) myX11_in wm6_208 rfl (kR rfl) (by decide) (kR rfl) rfl dX11_pendingLetter_28 ?_
    refine r_if_ne C (tgt := 36) rfl dX11_pendingLetter_31 (fun hc => ?_) (fun hc => ?_)
    · rw [if_pos (b2i_t hc)] at hF
      refine r_iload_n C (k := 1) rfl rfl dX11_pendingLetter_36 ?_
      refine r_iload_n C (k := 2) rfl rfl dX11_pendingLetter_37 ?_
      refine r_callS C (d' := 0) [.int a1, .int a2] (c_X11_waitingAt a1 a2 rfl) myX11_waitingAt wm7_56 rfl (kR rfl) (by decide) (kR rfl) rfl dX11_pendingLetter_38 ?_
      refine r_istore C (lo' := [(4, .int (F_X11_waitingAt a1 a2)), (0, .ref (wAd w (11, 12, 0, 0))), (1, .int a1), (2, .int a2), (3, .int a3)]) (by decide) rfl dX11_pendingLetter_41 ?_
      refine r_iload_n C (k := 4) rfl rfl dX11_pendingLetter_43 ?_
      refine r_i2l C (v := ((a3 : Int32).toInt64)) rfl dX11_pendingLetter_44 ?_
      refine r_lconst C (v := 0) rfl dX11_pendingLetter_45 ?_
      refine r_aload_n C (k := 1) rfl rfl dX11_pendingLetter_46 ?_
      refine og_11_0 C (hW.ok k11) wm7_67 dX11_pendingLetter_47 ?_
      refine r_iload C (k := 0) rfl dX11_pendingLetter_50 ?_
      obtain ⟨b4, hF⟩ := gd_e hF
      refine m_ald C (hW.ok (k12 (a := 0) (by unfold okMa; decide))) (show (sM Ω t2).2.1 = t2 from rfl) rfl b4 dX11_pendingLetter_52 ?_
      refine r_iconst C (v := 1) rfl dX11_pendingLetter_53 ?_
      refine r_isub C dX11_pendingLetter_54 ?_
      refine r_i2l C (v := ((((ag t2 0 (F_X11_waitingAt a1 a2)) - 1) : Int32).toInt64)) rfl dX11_pendingLetter_55 ?_
      refine r_callS C (d' := 0) [.long ((a3 : Int32).toInt64), .long (0 : Int64), .long ((((ag t2 0 (F_X11_waitingAt a1 a2)) - 1) : Int32).toInt64)] (c_X11_in ((a3 : Int32).toInt64) (0 : Int64) ((((ag t2 0 (F_X11_waitingAt a1 a2)) - 1) : Int32).toInt64) rfl) myX11_in wm6_208 rfl (kR rfl) (by decide) (kR rfl) rfl dX11_pendingLetter_56 ?_
      refine r_if_eq C (tgt := 76) rfl dX11_pendingLetter_59 (fun hc => ?_) (fun hc => ?_)
      · rw [if_neg (b2i_f hc)] at hF
        refine r_iconst C (v := (-1)) (by decide) dX11_pendingLetter_76 ?_
        cases hF
        exact r_ireturn C dX11_pendingLetter_77
      · rw [if_pos (b2i_t hc)] at hF
        refine r_aload_n C (k := 1) rfl rfl dX11_pendingLetter_62 ?_
        refine og_11_0 C (hW.ok k11) wm7_67 dX11_pendingLetter_63 ?_
        refine r_iload C (k := 0) rfl dX11_pendingLetter_66 ?_
        refine r_iconst C (v := 1) rfl dX11_pendingLetter_68 ?_
        refine r_iadd C dX11_pendingLetter_69 ?_
        refine r_iload_n C (k := 4) rfl rfl dX11_pendingLetter_70 ?_
        refine r_iadd C dX11_pendingLetter_71 ?_
        obtain ⟨b5, hF⟩ := gd_e hF
        refine m_ald C (hW.ok (k12 (a := 0) (by unfold okMa; decide))) (show (sM Ω t2).2.1 = t2 from rfl) rfl b5 dX11_pendingLetter_72 ?_
        refine r_goto C (tgt := 77) rfl dX11_pendingLetter_73 ?_
        cases hF
        exact r_ireturn C dX11_pendingLetter_77
    · rw [if_neg (b2i_f hc)] at hF
      refine r_iconst C (v := (-1)) (by decide) dX11_pendingLetter_34 ?_
      cases hF
      exact r_ireturn C dX11_pendingLetter_35
  · rw [if_neg (b2i_f hc)] at hF
    refine r_iconst C (v := 0) rfl dX11_pendingLetter_11 ?_
    cases hF
    exact r_ireturn C dX11_pendingLetter_12
theorem dX11_lettersWritten_0 : decode cX11_lettersWritten 0 = .ok (.aload_n 0, 1) := by decide +kernel
theorem dX11_lettersWritten_1 : decode cX11_lettersWritten 1 = .ok (.iload_n 1, 1) := by decide +kernel
theorem dX11_lettersWritten_2 : decode cX11_lettersWritten 2 = .ok (.invokestatic 385, 3) := by decide +kernel
theorem dX11_lettersWritten_5 : decode cX11_lettersWritten 5 = .ok (.invokevirtual 221, 3) := by decide +kernel
theorem dX11_lettersWritten_8 : decode cX11_lettersWritten 8 = .ok (.ifCond .ne 5, 3) := by decide +kernel
theorem dX11_lettersWritten_11 : decode cX11_lettersWritten 11 = .ok (.iconst 0, 1) := by decide +kernel
theorem dX11_lettersWritten_12 : decode cX11_lettersWritten 12 = .ok (.ireturn, 1) := by decide +kernel
theorem dX11_lettersWritten_13 : decode cX11_lettersWritten 13 = .ok (.aload_n 0, 1) := by decide +kernel
theorem dX11_lettersWritten_14 : decode cX11_lettersWritten 14 = .ok (.iload_n 1, 1) := by decide +kernel
theorem dX11_lettersWritten_15 : decode cX11_lettersWritten 15 = .ok (.invokevirtual 134, 3) := by decide +kernel
theorem dX11_lettersWritten_18 : decode cX11_lettersWritten 18 = .ok (.ifCond .eq 18, 3) := by decide +kernel
theorem dX11_lettersWritten_21 : decode cX11_lettersWritten 21 = .ok (.aload_n 0, 1) := by decide +kernel
theorem dX11_lettersWritten_22 : decode cX11_lettersWritten 22 = .ok (.getfield 7, 3) := by decide +kernel
theorem dX11_lettersWritten_25 : decode cX11_lettersWritten 25 = .ok (.iload_n 1, 1) := by decide +kernel
theorem dX11_lettersWritten_26 : decode cX11_lettersWritten 26 = .ok (.invokestatic 91, 3) := by decide +kernel
theorem dX11_lettersWritten_29 : decode cX11_lettersWritten 29 = .ok (.bipush 14, 2) := by decide +kernel
theorem dX11_lettersWritten_31 : decode cX11_lettersWritten 31 = .ok (.iadd, 1) := by decide +kernel
theorem dX11_lettersWritten_32 : decode cX11_lettersWritten 32 = .ok (.iaload, 1) := by decide +kernel
theorem dX11_lettersWritten_33 : decode cX11_lettersWritten 33 = .ok (.goto 4, 3) := by decide +kernel
theorem dX11_lettersWritten_36 : decode cX11_lettersWritten 36 = .ok (.iconst 0, 1) := by decide +kernel
theorem dX11_lettersWritten_37 : decode cX11_lettersWritten 37 = .ok (.ireturn, 1) := by decide +kernel
def F_X11_lettersWritten (a1 : Int32) (t : HV) : Option (Int32 × (HV)) := (lt2 (F_X11_passes (F_X11_isGardener a1) t) fun v1 t2 => (if v1 = true then (ob1 (F_X11_isInProgress a1 t2) fun v3 => (if v3 = true then (if vpb ((F_X11_progressOf a1) + 14) 760 = true then some ((ag t2 0 ((F_X11_progressOf a1) + 14)), t2) else none) else some (0, t2))) else some (0, t2)))
theorem c_X11_lettersWritten {w : WP} (hW : gWM w) {Ω : OM}  {t : HV} (e : Ω.2.1 = t) (a1 : Int32) {v : Int32} {t' : HV} (hF : F_X11_lettersWritten a1 t = some (v, t')) {Ω' : OM} (e2 : (sM Ω t') = Ω') : gM w 2 yX11_lettersWritten cX11_lettersWritten 2 (some .int) [.ref (wAd w (11, 12, 0, 0)), .int a1] (cA w Ω) (some (.int v)) (cA w Ω') := by
  refine gM_of "HedgeMessagesModel" rfl (by decide) (kR rfl) fun X C => ?_
  unfold F_X11_lettersWritten at hF
  subst e2
  show gV w X _ _ 0 [(0, .ref (wAd w (11, 12, 0, 0))), (1, .int a1)] []
  refine r_ct (ct' := cA w (sM Ω t)) (congrArg (cA w) (sM_i e).symm) ?_
  refine r_aload_n C (k := 0) rfl rfl dX11_lettersWritten_0 ?_
  refine r_iload_n C (k := 1) rfl rfl dX11_lettersWritten_1 ?_
  refine r_callS C (d' := 1) [.int a1] (c_X11_isGardener a1 rfl) myX11_isGardener wm8_193 rfl (kR rfl) (by decide) (kR rfl) rfl dX11_lettersWritten_2 ?_
  obtain ⟨v1, t2, ht2, hF⟩ := lt2_e hF
  refine r_callV C (d' := 0) [.int (b2i (F_X11_isGardener a1))] (c_X11_passes hW (show (sM Ω t).2.1 = t from rfl) (F_X11_isGardener a1) ht2 rfl) myX11_passes wm7_63 ⟨_, _, _, _, (hW.ok k11), rfl, rfl, rfl, rfl⟩ rfl (kR rfl) (by decide) (kR rfl) rfl dX11_lettersWritten_5 ?_
  refine r_if_ne C (tgt := 13) rfl dX11_lettersWritten_8 (fun hc => ?_) (fun hc => ?_)
  · rw [if_pos (b2i_t hc)] at hF
    refine r_aload_n C (k := 0) rfl rfl dX11_lettersWritten_13 ?_
    refine r_iload_n C (k := 1) rfl rfl dX11_lettersWritten_14 ?_
    obtain ⟨v3, hv3, hF⟩ := ob1_e hF
    refine r_callV C (d' := 1) [.int a1] (c_X11_isInProgress hW (show (sM Ω t2).2.1 = t2 from rfl) a1 hv3) myX11_isInProgress wm8_81 ⟨_, _, _, _, (hW.ok k11), rfl, rfl, rfl, rfl⟩ rfl (kR rfl) (by decide) (kR rfl) rfl dX11_lettersWritten_15 ?_
    refine r_if_eq C (tgt := 36) rfl dX11_lettersWritten_18 (fun hc => ?_) (fun hc => ?_)
    · rw [if_neg (b2i_f hc)] at hF
      refine r_iconst C (v := 0) rfl dX11_lettersWritten_36 ?_
      cases hF
      exact r_ireturn C dX11_lettersWritten_37
    · rw [if_pos (b2i_t hc)] at hF
      refine r_aload_n C (k := 0) rfl rfl dX11_lettersWritten_21 ?_
      refine og_11_0 C (hW.ok k11) wm7_67 dX11_lettersWritten_22 ?_
      refine r_iload_n C (k := 1) rfl rfl dX11_lettersWritten_25 ?_
      refine r_callS C (d' := 0) [.int a1] (c_X11_progressOf a1 rfl) myX11_progressOf wm7_223 rfl (kR rfl) (by decide) (kR rfl) rfl dX11_lettersWritten_26 ?_
      refine r_bipush C (v := 14) rfl dX11_lettersWritten_29 ?_
      refine r_iadd C dX11_lettersWritten_31 ?_
      obtain ⟨b4, hF⟩ := gd_e hF
      refine m_ald C (hW.ok (k12 (a := 0) (by unfold okMa; decide))) (show (sM Ω t2).2.1 = t2 from rfl) rfl b4 dX11_lettersWritten_32 ?_
      refine r_goto C (tgt := 37) rfl dX11_lettersWritten_33 ?_
      cases hF
      exact r_ireturn C dX11_lettersWritten_37
  · rw [if_neg (b2i_f hc)] at hF
    refine r_iconst C (v := 0) rfl dX11_lettersWritten_11 ?_
    cases hF
    exact r_ireturn C dX11_lettersWritten_12
theorem dX11_startSlot_0 : decode cX11_startSlot 0 = .ok (.aload_n 0, 1) := by decide +kernel
theorem dX11_startSlot_1 : decode cX11_startSlot 1 = .ok (.iload_n 1, 1) := by decide +kernel
theorem dX11_startSlot_2 : decode cX11_startSlot 2 = .ok (.invokestatic 385, 3) := by decide +kernel
theorem dX11_startSlot_5 : decode cX11_startSlot 5 = .ok (.invokevirtual 221, 3) := by decide +kernel
theorem dX11_startSlot_8 : decode cX11_startSlot 8 = .ok (.ifCond .ne 5, 3) := by decide +kernel
theorem dX11_startSlot_11 : decode cX11_startSlot 11 = .ok (.iconst 0, 1) := by decide +kernel
theorem dX11_startSlot_12 : decode cX11_startSlot 12 = .ok (.ireturn, 1) := by decide +kernel
theorem dX11_startSlot_13 : decode cX11_startSlot 13 = .ok (.aload_n 0, 1) := by decide +kernel
theorem dX11_startSlot_14 : decode cX11_startSlot 14 = .ok (.iload_n 1, 1) := by decide +kernel
theorem dX11_startSlot_15 : decode cX11_startSlot 15 = .ok (.invokevirtual 134, 3) := by decide +kernel
theorem dX11_startSlot_18 : decode cX11_startSlot 18 = .ok (.ifCond .eq 18, 3) := by decide +kernel
theorem dX11_startSlot_21 : decode cX11_startSlot 21 = .ok (.aload_n 0, 1) := by decide +kernel
theorem dX11_startSlot_22 : decode cX11_startSlot 22 = .ok (.getfield 7, 3) := by decide +kernel
theorem dX11_startSlot_25 : decode cX11_startSlot 25 = .ok (.iload_n 1, 1) := by decide +kernel
theorem dX11_startSlot_26 : decode cX11_startSlot 26 = .ok (.invokestatic 91, 3) := by decide +kernel
theorem dX11_startSlot_29 : decode cX11_startSlot 29 = .ok (.bipush 13, 2) := by decide +kernel
theorem dX11_startSlot_31 : decode cX11_startSlot 31 = .ok (.iadd, 1) := by decide +kernel
theorem dX11_startSlot_32 : decode cX11_startSlot 32 = .ok (.iaload, 1) := by decide +kernel
theorem dX11_startSlot_33 : decode cX11_startSlot 33 = .ok (.goto 4, 3) := by decide +kernel
theorem dX11_startSlot_36 : decode cX11_startSlot 36 = .ok (.iconst (-1), 1) := by decide +kernel
theorem dX11_startSlot_37 : decode cX11_startSlot 37 = .ok (.ireturn, 1) := by decide +kernel
def F_X11_startSlot (a1 : Int32) (t : HV) : Option (Int32 × (HV)) := (lt2 (F_X11_passes (F_X11_isGardener a1) t) fun v1 t2 => (if v1 = true then (ob1 (F_X11_isInProgress a1 t2) fun v3 => (if v3 = true then (if vpb ((F_X11_progressOf a1) + 13) 760 = true then some ((ag t2 0 ((F_X11_progressOf a1) + 13)), t2) else none) else some ((-1), t2))) else some (0, t2)))
theorem c_X11_startSlot {w : WP} (hW : gWM w) {Ω : OM}  {t : HV} (e : Ω.2.1 = t) (a1 : Int32) {v : Int32} {t' : HV} (hF : F_X11_startSlot a1 t = some (v, t')) {Ω' : OM} (e2 : (sM Ω t') = Ω') : gM w 2 yX11_startSlot cX11_startSlot 2 (some .int) [.ref (wAd w (11, 12, 0, 0)), .int a1] (cA w Ω) (some (.int v)) (cA w Ω') := by
  refine gM_of "HedgeMessagesModel" rfl (by decide) (kR rfl) fun X C => ?_
  unfold F_X11_startSlot at hF
  subst e2
  show gV w X _ _ 0 [(0, .ref (wAd w (11, 12, 0, 0))), (1, .int a1)] []
  refine r_ct (ct' := cA w (sM Ω t)) (congrArg (cA w) (sM_i e).symm) ?_
  refine r_aload_n C (k := 0) rfl rfl dX11_startSlot_0 ?_
  refine r_iload_n C (k := 1) rfl rfl dX11_startSlot_1 ?_
  refine r_callS C (d' := 1) [.int a1] (c_X11_isGardener a1 rfl) myX11_isGardener wm8_193 rfl (kR rfl) (by decide) (kR rfl) rfl dX11_startSlot_2 ?_
  obtain ⟨v1, t2, ht2, hF⟩ := lt2_e hF
  refine r_callV C (d' := 0) [.int (b2i (F_X11_isGardener a1))] (c_X11_passes hW (show (sM Ω t).2.1 = t from rfl) (F_X11_isGardener a1) ht2 rfl) myX11_passes wm7_63 ⟨_, _, _, _, (hW.ok k11), rfl, rfl, rfl, rfl⟩ rfl (kR rfl) (by decide) (kR rfl) rfl dX11_startSlot_5 ?_
  refine r_if_ne C (tgt := 13) rfl dX11_startSlot_8 (fun hc => ?_) (fun hc => ?_)
  · rw [if_pos (b2i_t hc)] at hF
    refine r_aload_n C (k := 0) rfl rfl dX11_startSlot_13 ?_
    refine r_iload_n C (k := 1) rfl rfl dX11_startSlot_14 ?_
    obtain ⟨v3, hv3, hF⟩ := ob1_e hF
    refine r_callV C (d' := 1) [.int a1] (c_X11_isInProgress hW (show (sM Ω t2).2.1 = t2 from rfl) a1 hv3) myX11_isInProgress wm8_81 ⟨_, _, _, _, (hW.ok k11), rfl, rfl, rfl, rfl⟩ rfl (kR rfl) (by decide) (kR rfl) rfl dX11_startSlot_15 ?_
    refine r_if_eq C (tgt := 36) rfl dX11_startSlot_18 (fun hc => ?_) (fun hc => ?_)
    · rw [if_neg (b2i_f hc)] at hF
      refine r_iconst C (v := (-1)) (by decide) dX11_startSlot_36 ?_
      cases hF
      exact r_ireturn C dX11_startSlot_37
    · rw [if_pos (b2i_t hc)] at hF
      refine r_aload_n C (k := 0) rfl rfl dX11_startSlot_21 ?_
      refine og_11_0 C (hW.ok k11) wm7_67 dX11_startSlot_22 ?_
      refine r_iload_n C (k := 1) rfl rfl dX11_startSlot_25 ?_
      refine r_callS C (d' := 0) [.int a1] (c_X11_progressOf a1 rfl) myX11_progressOf wm7_223 rfl (kR rfl) (by decide) (kR rfl) rfl dX11_startSlot_26 ?_
      refine r_bipush C (v := 13) rfl dX11_startSlot_29 ?_
      refine r_iadd C dX11_startSlot_31 ?_
      obtain ⟨b4, hF⟩ := gd_e hF
      refine m_ald C (hW.ok (k12 (a := 0) (by unfold okMa; decide))) (show (sM Ω t2).2.1 = t2 from rfl) rfl b4 dX11_startSlot_32 ?_
      refine r_goto C (tgt := 37) rfl dX11_startSlot_33 ?_
      cases hF
      exact r_ireturn C dX11_startSlot_37
  · rw [if_neg (b2i_f hc)] at hF
    refine r_iconst C (v := 0) rfl dX11_startSlot_11 ?_
    cases hF
    exact r_ireturn C dX11_startSlot_12
theorem dX11_postedOf_0 : decode cX11_postedOf 0 = .ok (.iconst 0, 1) := by decide +kernel
theorem dX11_postedOf_1 : decode cX11_postedOf 1 = .ok (.istore_n 2, 1) := by decide +kernel
theorem dX11_postedOf_2 : decode cX11_postedOf 2 = .ok (.iconst 0, 1) := by decide +kernel
theorem dX11_postedOf_3 : decode cX11_postedOf 3 = .ok (.istore_n 3, 1) := by decide +kernel
theorem dX11_postedOf_4 : decode cX11_postedOf 4 = .ok (.iload_n 3, 1) := by decide +kernel
theorem dX11_postedOf_5 : decode cX11_postedOf 5 = .ok (.aload_n 0, 1) := by decide +kernel
theorem dX11_postedOf_6 : decode cX11_postedOf 6 = .ok (.getfield 7, 3) := by decide +kernel
theorem dX11_postedOf_9 : decode cX11_postedOf 9 = .ok (.bipush 11, 2) := by decide +kernel
theorem dX11_postedOf_11 : decode cX11_postedOf 11 = .ok (.iaload, 1) := by decide +kernel
theorem dX11_postedOf_12 : decode cX11_postedOf 12 = .ok (.if_icmp .ge 36, 3) := by decide +kernel
theorem dX11_postedOf_15 : decode cX11_postedOf 15 = .ok (.iload_n 2, 1) := by decide +kernel
theorem dX11_postedOf_16 : decode cX11_postedOf 16 = .ok (.aload_n 0, 1) := by decide +kernel
theorem dX11_postedOf_17 : decode cX11_postedOf 17 = .ok (.getfield 7, 3) := by decide +kernel
theorem dX11_postedOf_20 : decode cX11_postedOf 20 = .ok (.iload_n 3, 1) := by decide +kernel
theorem dX11_postedOf_21 : decode cX11_postedOf 21 = .ok (.invokestatic 95, 3) := by decide +kernel
theorem dX11_postedOf_24 : decode cX11_postedOf 24 = .ok (.bipush 14, 2) := by decide +kernel
theorem dX11_postedOf_26 : decode cX11_postedOf 26 = .ok (.iadd, 1) := by decide +kernel
theorem dX11_postedOf_27 : decode cX11_postedOf 27 = .ok (.iaload, 1) := by decide +kernel
theorem dX11_postedOf_28 : decode cX11_postedOf 28 = .ok (.iload_n 1, 1) := by decide +kernel
theorem dX11_postedOf_29 : decode cX11_postedOf 29 = .ok (.if_icmp .ne 7, 3) := by decide +kernel
theorem dX11_postedOf_32 : decode cX11_postedOf 32 = .ok (.iconst 1, 1) := by decide +kernel
theorem dX11_postedOf_33 : decode cX11_postedOf 33 = .ok (.goto 4, 3) := by decide +kernel
theorem dX11_postedOf_36 : decode cX11_postedOf 36 = .ok (.iconst 0, 1) := by decide +kernel
theorem dX11_postedOf_37 : decode cX11_postedOf 37 = .ok (.invokestatic 80, 3) := by decide +kernel
theorem dX11_postedOf_40 : decode cX11_postedOf 40 = .ok (.iadd, 1) := by decide +kernel
theorem dX11_postedOf_41 : decode cX11_postedOf 41 = .ok (.istore_n 2, 1) := by decide +kernel
theorem dX11_postedOf_42 : decode cX11_postedOf 42 = .ok (.iinc 3 1, 3) := by decide +kernel
theorem dX11_postedOf_45 : decode cX11_postedOf 45 = .ok (.goto (-41), 3) := by decide +kernel
theorem dX11_postedOf_48 : decode cX11_postedOf 48 = .ok (.iload_n 2, 1) := by decide +kernel
theorem dX11_postedOf_49 : decode cX11_postedOf 49 = .ok (.ireturn, 1) := by decide +kernel
def st_X11_postedOf_4 (N : Nat) (l1 : Int32) (l2 : Int32) (l3 : Int32) (t : HV) : Option ((Int32 × Int32) ⊕ (Int32)) := (if vpb 11 760 = true then (if (ag t 0 11) ≤ l3 then some (.inr l2) else (if vpb ((F_X11_postAt l3) + 14) 760 = true then (if (ag t 0 ((F_X11_postAt l3) + 14)) = l1 then some (.inl ((l2 + (F_X11_truth true)), (l3 + 1))) else some (.inl ((l2 + (F_X11_truth false)), (l3 + 1)))) else none)) else none)
def F_X11_postedOf (N : Nat) (a1 : Int32) (t : HV) : Option (Int32) := (lpN N (fun z => st_X11_postedOf_4 N a1 z.1 z.2 t) (0, 0))
theorem lp_X11_postedOf_4 {w : WP} (hW : gWM w) {Ω : OM}  {t : HV} (e : Ω.2.1 = t)  (l1 : Int32) {N : Nat} {X : CX} (C : gC w X cX11_postedOf "HedgeMessagesModel" (some .int) 1 4) {v : Int32}  : ∀ (n : Nat) (l2 : Int32) (l3 : Int32), lpN n (fun z : Int32 × Int32 => st_X11_postedOf_4 N l1 z.1 z.2 t) (l2, l3) = some v → gV w X (some (.int v), cA w Ω) (cA w Ω) 4 [(0, .ref (wAd w (11, 12, 0, 0))), (1, .int l1), (2, .int l2), (3, .int l3)] [] := by
  intro n
  induction n with
  | zero => intro l2 l3 hL; exact lpN_0 hL
  | succ n ih =>
    intro l2 l3 hL
    obtain ⟨q9, hF, hL⟩ := lpN_e hL
    change st_X11_postedOf_4 N l1 l2 l3 t = some q9 at hF
    unfold st_X11_postedOf_4 at hF
    refine r_iload_n C (k := 3) rfl rfl dX11_postedOf_4 ?_
    refine r_aload_n C (k := 0) rfl rfl dX11_postedOf_5 ?_
    refine og_11_0 C (hW.ok k11) wm7_67 dX11_postedOf_6 ?_
    refine r_bipush C (v := 11) rfl dX11_postedOf_9 ?_
    obtain ⟨b1, hF⟩ := gd_e hF
    refine m_ald C (hW.ok (k12 (a := 0) (by unfold okMa; decide))) e rfl b1 dX11_postedOf_11 ?_
    refine r_icmp_ge C (tgt := 48) rfl dX11_postedOf_12 (fun hc => ?_) (fun hc => ?_)
    · rw [if_pos hc] at hF
      refine r_iload_n C (k := 2) rfl rfl dX11_postedOf_48 ?_
      cases hF
      change some _ = some _ at hL
      cases hL
      exact r_ireturn C dX11_postedOf_49
    · rw [if_neg hc] at hF
      refine r_iload_n C (k := 2) rfl rfl dX11_postedOf_15 ?_
      refine r_aload_n C (k := 0) rfl rfl dX11_postedOf_16 ?_
      refine og_11_0 C (hW.ok k11) wm7_67 dX11_postedOf_17 ?_
      refine r_iload_n C (k := 3) rfl rfl dX11_postedOf_20 ?_
      refine r_callS C (d' := 0) [.int l3] (c_X11_postAt l3 rfl) myX11_postAt wm7_216 rfl (kR rfl) (by decide) (kR rfl) rfl dX11_postedOf_21 ?_
      refine r_bipush C (v := 14) rfl dX11_postedOf_24 ?_
      refine r_iadd C dX11_postedOf_26 ?_
      obtain ⟨b2, hF⟩ := gd_e hF
      refine m_ald C (hW.ok (k12 (a := 0) (by unfold okMa; decide))) e rfl b2 dX11_postedOf_27 ?_
      refine r_iload_n C (k := 1) rfl rfl dX11_postedOf_28 ?_
      refine r_icmp_ne C (tgt := 36) rfl dX11_postedOf_29 (fun hc => ?_) (fun hc => ?_)
      · rw [if_neg hc] at hF
        refine r_iconst C (v := 0) rfl dX11_postedOf_36 ?_
        refine r_callS C (d' := 0) [.int (b2i false)] (c_X11_truth false rfl) myX11_truth wm7_35 rfl (kR rfl) (by decide) (kR rfl) rfl dX11_postedOf_37 ?_
        refine r_iadd C dX11_postedOf_40 ?_
        refine r_istore_n C (lo' := [(2, .int (l2 + (F_X11_truth false))), (0, .ref (wAd w (11, 12, 0, 0))), (1, .int l1), (3, .int l3)]) rfl (by decide) rfl dX11_postedOf_41 ?_
        refine r_iinc C (k := 3) (v := (l3 + 1)) (lo' := [(3, .int (l3 + 1)), (2, .int (l2 + (F_X11_truth false))), (0, .ref (wAd w (11, 12, 0, 0))), (1, .int l1)]) rfl rfl (by decide) rfl dX11_postedOf_42 ?_
        refine r_goto C (tgt := 4) rfl dX11_postedOf_45 ?_
        cases hF
        change lpN n _ _ = some _ at hL
        refine r_lo [2, 3, 1, 0] (lo' := [(0, .ref (wAd w (11, 12, 0, 0))), (1, .int l1), (2, .int (l2 + (F_X11_truth false))), (3, .int (l3 + 1))]) rfl ?_
        exact ih (l2 + (F_X11_truth false)) (l3 + 1) hL
      · rw [if_pos hc] at hF
        refine r_iconst C (v := 1) rfl dX11_postedOf_32 ?_
        refine r_goto C (tgt := 37) rfl dX11_postedOf_33 ?_
        refine r_callS C (d' := 0) [.int (b2i true)] (c_X11_truth true rfl) myX11_truth wm7_35 rfl (kR rfl) (by decide) (kR rfl) rfl dX11_postedOf_37 ?_
        refine r_iadd C dX11_postedOf_40 ?_
        refine r_istore_n C (lo' := [(2, .int (l2 + (F_X11_truth true))), (0, .ref (wAd w (11, 12, 0, 0))), (1, .int l1), (3, .int l3)]) rfl (by decide) rfl dX11_postedOf_41 ?_
        refine r_iinc C (k := 3) (v := (l3 + 1)) (lo' := [(3, .int (l3 + 1)), (2, .int (l2 + (F_X11_truth true))), (0, .ref (wAd w (11, 12, 0, 0))), (1, .int l1)]) rfl rfl (by decide) rfl dX11_postedOf_42 ?_
        refine r_goto C (tgt := 4) rfl dX11_postedOf_45 ?_
        cases hF
        change lpN n _ _ = some _ at hL
        refine r_lo [2, 3, 1, 0] (lo' := [(0, .ref (wAd w (11, 12, 0, 0))), (1, .int l1), (2, .int (l2 + (F_X11_truth true))), (3, .int (l3 + 1))]) rfl ?_
        exact ih (l2 + (F_X11_truth true)) (l3 + 1) hL
theorem c_X11_postedOf {w : WP} (hW : gWM w) {Ω : OM}  {t : HV} (e : Ω.2.1 = t) (N : Nat) (a1 : Int32) {v : Int32} (hF : F_X11_postedOf N a1 t = some v) : gM w 1 yX11_postedOf cX11_postedOf 4 (some .int) [.ref (wAd w (11, 12, 0, 0)), .int a1] (cA w Ω) (some (.int v)) (cA w Ω) := by
  refine gM_of "HedgeMessagesModel" rfl (by decide) (kR rfl) fun X C => ?_
  unfold F_X11_postedOf at hF
  show gV w X _ _ 0 [(0, .ref (wAd w (11, 12, 0, 0))), (1, .int a1)] []
  refine r_iconst C (v := 0) rfl dX11_postedOf_0 ?_
  refine r_istore_n C (lo' := [(2, .int 0), (0, .ref (wAd w (11, 12, 0, 0))), (1, .int a1)]) rfl (by decide) rfl dX11_postedOf_1 ?_
  refine r_iconst C (v := 0) rfl dX11_postedOf_2 ?_
  refine r_istore_n C (lo' := [(3, .int 0), (2, .int 0), (0, .ref (wAd w (11, 12, 0, 0))), (1, .int a1)]) rfl (by decide) rfl dX11_postedOf_3 ?_
  refine r_lo [2, 3, 1, 0] (lo' := [(0, .ref (wAd w (11, 12, 0, 0))), (1, .int a1), (2, .int 0), (3, .int 0)]) rfl ?_
  exact lp_X11_postedOf_4 hW e a1 C N 0 0 hF
theorem dX11_postedCount_0 : decode cX11_postedCount 0 = .ok (.aload_n 0, 1) := by decide +kernel
theorem dX11_postedCount_1 : decode cX11_postedCount 1 = .ok (.iload_n 1, 1) := by decide +kernel
theorem dX11_postedCount_2 : decode cX11_postedCount 2 = .ok (.invokestatic 385, 3) := by decide +kernel
theorem dX11_postedCount_5 : decode cX11_postedCount 5 = .ok (.invokevirtual 221, 3) := by decide +kernel
theorem dX11_postedCount_8 : decode cX11_postedCount 8 = .ok (.ifCond .eq 11, 3) := by decide +kernel
theorem dX11_postedCount_11 : decode cX11_postedCount 11 = .ok (.aload_n 0, 1) := by decide +kernel
theorem dX11_postedCount_12 : decode cX11_postedCount 12 = .ok (.iload_n 1, 1) := by decide +kernel
theorem dX11_postedCount_13 : decode cX11_postedCount 13 = .ok (.invokevirtual 388, 3) := by decide +kernel
theorem dX11_postedCount_16 : decode cX11_postedCount 16 = .ok (.goto 4, 3) := by decide +kernel
theorem dX11_postedCount_19 : decode cX11_postedCount 19 = .ok (.iconst 0, 1) := by decide +kernel
theorem dX11_postedCount_20 : decode cX11_postedCount 20 = .ok (.ireturn, 1) := by decide +kernel
def F_X11_postedCount (N : Nat) (a1 : Int32) (t : HV) : Option (Int32 × (HV)) := (lt2 (F_X11_passes (F_X11_isGardener a1) t) fun v1 t2 => (if v1 = true then (ob1 (F_X11_postedOf N a1 t2) fun v3 => some (v3, t2)) else some (0, t2)))
theorem c_X11_postedCount {w : WP} (hW : gWM w) {Ω : OM}  {t : HV} (e : Ω.2.1 = t) (N : Nat) (a1 : Int32) {v : Int32} {t' : HV} (hF : F_X11_postedCount N a1 t = some (v, t')) {Ω' : OM} (e2 : (sM Ω t') = Ω') : gM w 2 yX11_postedCount cX11_postedCount 2 (some .int) [.ref (wAd w (11, 12, 0, 0)), .int a1] (cA w Ω) (some (.int v)) (cA w Ω') := by
  refine gM_of "HedgeMessagesModel" rfl (by decide) (kR rfl) fun X C => ?_
  unfold F_X11_postedCount at hF
  subst e2
  show gV w X _ _ 0 [(0, .ref (wAd w (11, 12, 0, 0))), (1, .int a1)] []
  refine r_ct (ct' := cA w (sM Ω t)) (congrArg (cA w) (sM_i e).symm) ?_
  refine r_aload_n C (k := 0) rfl rfl dX11_postedCount_0 ?_
  refine r_iload_n C (k := 1) rfl rfl dX11_postedCount_1 ?_
  refine r_callS C (d' := 1) [.int a1] (c_X11_isGardener a1 rfl) myX11_isGardener wm8_193 rfl (kR rfl) (by decide) (kR rfl) rfl dX11_postedCount_2 ?_
  obtain ⟨v1, t2, ht2, hF⟩ := lt2_e hF
  refine r_callV C (d' := 0) [.int (b2i (F_X11_isGardener a1))] (c_X11_passes hW (show (sM Ω t).2.1 = t from rfl) (F_X11_isGardener a1) ht2 rfl) myX11_passes wm7_63 ⟨_, _, _, _, (hW.ok k11), rfl, rfl, rfl, rfl⟩ rfl (kR rfl) (by decide) (kR rfl) rfl dX11_postedCount_5 ?_
  refine r_if_eq C (tgt := 19) rfl dX11_postedCount_8 (fun hc => ?_) (fun hc => ?_)
  · rw [if_neg (b2i_f hc)] at hF
    refine r_iconst C (v := 0) rfl dX11_postedCount_19 ?_
    cases hF
    exact r_ireturn C dX11_postedCount_20
  · rw [if_pos (b2i_t hc)] at hF
    refine r_aload_n C (k := 0) rfl rfl dX11_postedCount_11 ?_
    refine r_iload_n C (k := 1) rfl rfl dX11_postedCount_12 ?_
    obtain ⟨v3, hv3, hF⟩ := ob1_e hF
    refine r_callV C (d' := 1) [.int a1] (c_X11_postedOf hW (show (sM Ω t2).2.1 = t2 from rfl) N a1 hv3) myX11_postedOf wm8_212 ⟨_, _, _, _, (hW.ok k11), rfl, rfl, rfl, rfl⟩ rfl (kR rfl) (by decide) (kR rfl) rfl dX11_postedCount_13 ?_
    refine r_goto C (tgt := 20) rfl dX11_postedCount_16 ?_
    cases hF
    exact r_ireturn C dX11_postedCount_20
theorem dX11_nextStartSlot_0 : decode cX11_nextStartSlot 0 = .ok (.aload_n 0, 1) := by decide +kernel
theorem dX11_nextStartSlot_1 : decode cX11_nextStartSlot 1 = .ok (.iload_n 1, 1) := by decide +kernel
theorem dX11_nextStartSlot_2 : decode cX11_nextStartSlot 2 = .ok (.invokestatic 385, 3) := by decide +kernel
theorem dX11_nextStartSlot_5 : decode cX11_nextStartSlot 5 = .ok (.invokevirtual 221, 3) := by decide +kernel
theorem dX11_nextStartSlot_8 : decode cX11_nextStartSlot 8 = .ok (.ifCond .eq 11, 3) := by decide +kernel
theorem dX11_nextStartSlot_11 : decode cX11_nextStartSlot 11 = .ok (.aload_n 0, 1) := by decide +kernel
theorem dX11_nextStartSlot_12 : decode cX11_nextStartSlot 12 = .ok (.iload_n 1, 1) := by decide +kernel
theorem dX11_nextStartSlot_13 : decode cX11_nextStartSlot 13 = .ok (.invokevirtual 137, 3) := by decide +kernel
theorem dX11_nextStartSlot_16 : decode cX11_nextStartSlot 16 = .ok (.goto 4, 3) := by decide +kernel
theorem dX11_nextStartSlot_19 : decode cX11_nextStartSlot 19 = .ok (.iconst 0, 1) := by decide +kernel
theorem dX11_nextStartSlot_20 : decode cX11_nextStartSlot 20 = .ok (.ireturn, 1) := by decide +kernel
def F_X11_nextStartSlot (N : Nat) (a1 : Int32) (t : HV) : Option (Int32 × (HV)) := (lt2 (F_X11_passes (F_X11_isGardener a1) t) fun v1 t2 => (if v1 = true then (ob1 (F_X11_startOfNext N a1 t2) fun v3 => some (v3, t2)) else some (0, t2)))
theorem c_X11_nextStartSlot {w : WP} (hW : gWM w) {Ω : OM}  {t : HV} (e : Ω.2.1 = t) (N : Nat) (a1 : Int32) {v : Int32} {t' : HV} (hF : F_X11_nextStartSlot N a1 t = some (v, t')) {Ω' : OM} (e2 : (sM Ω t') = Ω') : gM w 7 yX11_nextStartSlot cX11_nextStartSlot 2 (some .int) [.ref (wAd w (11, 12, 0, 0)), .int a1] (cA w Ω) (some (.int v)) (cA w Ω') := by
  refine gM_of "HedgeMessagesModel" rfl (by decide) (kR rfl) fun X C => ?_
  unfold F_X11_nextStartSlot at hF
  subst e2
  show gV w X _ _ 0 [(0, .ref (wAd w (11, 12, 0, 0))), (1, .int a1)] []
  refine r_ct (ct' := cA w (sM Ω t)) (congrArg (cA w) (sM_i e).symm) ?_
  refine r_aload_n C (k := 0) rfl rfl dX11_nextStartSlot_0 ?_
  refine r_iload_n C (k := 1) rfl rfl dX11_nextStartSlot_1 ?_
  refine r_callS C (d' := 1) [.int a1] (c_X11_isGardener a1 rfl) myX11_isGardener wm8_193 rfl (kR rfl) (by decide) (kR rfl) rfl dX11_nextStartSlot_2 ?_
  obtain ⟨v1, t2, ht2, hF⟩ := lt2_e hF
  refine r_callV C (d' := 0) [.int (b2i (F_X11_isGardener a1))] (c_X11_passes hW (show (sM Ω t).2.1 = t from rfl) (F_X11_isGardener a1) ht2 rfl) myX11_passes wm7_63 ⟨_, _, _, _, (hW.ok k11), rfl, rfl, rfl, rfl⟩ rfl (kR rfl) (by decide) (kR rfl) rfl dX11_nextStartSlot_5 ?_
  refine r_if_eq C (tgt := 19) rfl dX11_nextStartSlot_8 (fun hc => ?_) (fun hc => ?_)
  · rw [if_neg (b2i_f hc)] at hF
    refine r_iconst C (v := 0) rfl dX11_nextStartSlot_19 ?_
    cases hF
    exact r_ireturn C dX11_nextStartSlot_20
  · rw [if_pos (b2i_t hc)] at hF
    refine r_aload_n C (k := 0) rfl rfl dX11_nextStartSlot_11 ?_
    refine r_iload_n C (k := 1) rfl rfl dX11_nextStartSlot_12 ?_
    obtain ⟨v3, hv3, hF⟩ := ob1_e hF
    refine r_callV C (d' := 6) [.int a1] (c_X11_startOfNext hW (show (sM Ω t2).2.1 = t2 from rfl) N a1 hv3) myX11_startOfNext wm8_85 ⟨_, _, _, _, (hW.ok k11), rfl, rfl, rfl, rfl⟩ rfl (kR rfl) (by decide) (kR rfl) rfl dX11_nextStartSlot_13 ?_
    refine r_goto C (tgt := 20) rfl dX11_nextStartSlot_16 ?_
    cases hF
    exact r_ireturn C dX11_nextStartSlot_20
theorem dX11_longestFreeRun_0 : decode cX11_longestFreeRun 0 = .ok (.aload_n 0, 1) := by decide +kernel
theorem dX11_longestFreeRun_1 : decode cX11_longestFreeRun 1 = .ok (.iconst 0, 1) := by decide +kernel
theorem dX11_longestFreeRun_2 : decode cX11_longestFreeRun 2 = .ok (.putfield 58, 3) := by decide +kernel
theorem dX11_longestFreeRun_5 : decode cX11_longestFreeRun 5 = .ok (.iconst 0, 1) := by decide +kernel
theorem dX11_longestFreeRun_6 : decode cX11_longestFreeRun 6 = .ok (.istore_n 1, 1) := by decide +kernel
theorem dX11_longestFreeRun_7 : decode cX11_longestFreeRun 7 = .ok (.iconst 0, 1) := by decide +kernel
theorem dX11_longestFreeRun_8 : decode cX11_longestFreeRun 8 = .ok (.istore_n 2, 1) := by decide +kernel
theorem dX11_longestFreeRun_9 : decode cX11_longestFreeRun 9 = .ok (.iconst 0, 1) := by decide +kernel
theorem dX11_longestFreeRun_10 : decode cX11_longestFreeRun 10 = .ok (.istore_n 3, 1) := by decide +kernel
theorem dX11_longestFreeRun_11 : decode cX11_longestFreeRun 11 = .ok (.iload_n 3, 1) := by decide +kernel
theorem dX11_longestFreeRun_12 : decode cX11_longestFreeRun 12 = .ok (.aload_n 0, 1) := by decide +kernel
theorem dX11_longestFreeRun_13 : decode cX11_longestFreeRun 13 = .ok (.getfield 7, 3) := by decide +kernel
theorem dX11_longestFreeRun_16 : decode cX11_longestFreeRun 16 = .ok (.iconst 0, 1) := by decide +kernel
theorem dX11_longestFreeRun_17 : decode cX11_longestFreeRun 17 = .ok (.iaload, 1) := by decide +kernel
theorem dX11_longestFreeRun_18 : decode cX11_longestFreeRun 18 = .ok (.if_icmp .ge 31, 3) := by decide +kernel
theorem dX11_longestFreeRun_21 : decode cX11_longestFreeRun 21 = .ok (.aload_n 0, 1) := by decide +kernel
theorem dX11_longestFreeRun_22 : decode cX11_longestFreeRun 22 = .ok (.iload_n 3, 1) := by decide +kernel
theorem dX11_longestFreeRun_23 : decode cX11_longestFreeRun 23 = .ok (.invokevirtual 105, 3) := by decide +kernel
theorem dX11_longestFreeRun_26 : decode cX11_longestFreeRun 26 = .ok (.ifCond .eq 9, 3) := by decide +kernel
theorem dX11_longestFreeRun_29 : decode cX11_longestFreeRun 29 = .ok (.iload_n 2, 1) := by decide +kernel
theorem dX11_longestFreeRun_30 : decode cX11_longestFreeRun 30 = .ok (.iconst 1, 1) := by decide +kernel
theorem dX11_longestFreeRun_31 : decode cX11_longestFreeRun 31 = .ok (.iadd, 1) := by decide +kernel
theorem dX11_longestFreeRun_32 : decode cX11_longestFreeRun 32 = .ok (.goto 4, 3) := by decide +kernel
theorem dX11_longestFreeRun_35 : decode cX11_longestFreeRun 35 = .ok (.iconst 0, 1) := by decide +kernel
theorem dX11_longestFreeRun_36 : decode cX11_longestFreeRun 36 = .ok (.istore_n 2, 1) := by decide +kernel
theorem dX11_longestFreeRun_37 : decode cX11_longestFreeRun 37 = .ok (.iload_n 1, 1) := by decide +kernel
theorem dX11_longestFreeRun_38 : decode cX11_longestFreeRun 38 = .ok (.iload_n 2, 1) := by decide +kernel
theorem dX11_longestFreeRun_39 : decode cX11_longestFreeRun 39 = .ok (.invokestatic 153, 3) := by decide +kernel
theorem dX11_longestFreeRun_42 : decode cX11_longestFreeRun 42 = .ok (.istore_n 1, 1) := by decide +kernel
theorem dX11_longestFreeRun_43 : decode cX11_longestFreeRun 43 = .ok (.iinc 3 1, 3) := by decide +kernel
theorem dX11_longestFreeRun_46 : decode cX11_longestFreeRun 46 = .ok (.goto (-35), 3) := by decide +kernel
theorem dX11_longestFreeRun_49 : decode cX11_longestFreeRun 49 = .ok (.iload_n 1, 1) := by decide +kernel
theorem dX11_longestFreeRun_50 : decode cX11_longestFreeRun 50 = .ok (.ireturn, 1) := by decide +kernel
def st_X11_longestFreeRun_11 (N : Nat) (l1 : Int32) (l2 : Int32) (l3 : Int32) (t : HV) : Option ((Int32 × Int32 × Int32 × HV) ⊕ (Int32 × (HV))) := (if vpb 0 760 = true then (if (ag t 0 0) ≤ l3 then some (.inr (l1, t)) else (ob1 (F_X11_isFree N l3 t) fun v3 => (if v3 = true then some (.inl ((if l1 < (l2 + 1) then (l2 + 1) else l1), (l2 + 1), (l3 + 1), t)) else some (.inl ((if l1 < 0 then 0 else l1), 0, (l3 + 1), t))))) else none)
def F_X11_longestFreeRun (N : Nat) (t : HV) : Option (Int32 × (HV)) := (lt (sS t 6 0) fun t1 => (lpN N (fun z => st_X11_longestFreeRun_11 N z.1 z.2.1 z.2.2.1 z.2.2.2) (0, 0, 0, t1)))
theorem lp_X11_longestFreeRun_11 {w : WP} (hW : gWM w) {Ω : OM}    {N : Nat} {X : CX} (C : gC w X cX11_longestFreeRun "HedgeMessagesModel" (some .int) 4 4) {v : Int32} {t' : HV}  : ∀ (n : Nat) (l1 : Int32) (l2 : Int32) (l3 : Int32) (t : HV), lpN n (fun z : Int32 × Int32 × Int32 × HV => st_X11_longestFreeRun_11 N z.1 z.2.1 z.2.2.1 z.2.2.2) (l1, l2, l3, t) = some (v, t') → gV w X (some (.int v), cA w (sM Ω t')) (cA w (sM Ω t)) 11 [(0, .ref (wAd w (11, 12, 0, 0))), (1, .int l1), (2, .int l2), (3, .int l3)] [] := by
  intro n
  induction n with
  | zero => intro l1 l2 l3 t hL; exact lpN_0 hL
  | succ n ih =>
    intro l1 l2 l3 t hL
    obtain ⟨q9, hF, hL⟩ := lpN_e hL
    change st_X11_longestFreeRun_11 N l1 l2 l3 t = some q9 at hF
    unfold st_X11_longestFreeRun_11 at hF
    refine r_iload_n C (k := 3) rfl rfl dX11_longestFreeRun_11 ?_
    refine r_aload_n C (k := 0) rfl rfl dX11_longestFreeRun_12 ?_
    refine og_11_0 C (hW.ok k11) wm7_67 dX11_longestFreeRun_13 ?_
    refine r_iconst C (v := 0) rfl dX11_longestFreeRun_16 ?_
    obtain ⟨b2, hF⟩ := gd_e hF
    refine m_ald C (hW.ok (k12 (a := 0) (by unfold okMa; decide))) (show (sM Ω t).2.1 = t from rfl) rfl b2 dX11_longestFreeRun_17 ?_
    refine r_icmp_ge C (tgt := 49) rfl dX11_longestFreeRun_18 (fun hc => ?_) (fun hc => ?_)
    · rw [if_pos hc] at hF
      refine r_iload_n C (k := 1) rfl rfl dX11_longestFreeRun_49 ?_
      cases hF
      change some _ = some _ at hL
      cases hL
      exact r_ireturn C dX11_longestFreeRun_50
    · rw [if_neg hc] at hF
      refine r_aload_n C (k := 0) rfl rfl dX11_longestFreeRun_21 ?_
      refine r_iload_n C (k := 3) rfl rfl dX11_longestFreeRun_22 ?_
      obtain ⟨v3, hv3, hF⟩ := ob1_e hF
      refine r_callV C (d' := 3) [.int l3] (c_X11_isFree hW (show (sM Ω t).2.1 = t from rfl) N l3 hv3) myX11_isFree wm8_97 ⟨_, _, _, _, (hW.ok k11), rfl, rfl, rfl, rfl⟩ rfl (kR rfl) (by decide) (kR rfl) rfl dX11_longestFreeRun_23 ?_
      refine r_if_eq C (tgt := 35) rfl dX11_longestFreeRun_26 (fun hc => ?_) (fun hc => ?_)
      · rw [if_neg (b2i_f hc)] at hF
        refine r_iconst C (v := 0) rfl dX11_longestFreeRun_35 ?_
        refine r_istore_n C (lo' := [(2, .int 0), (0, .ref (wAd w (11, 12, 0, 0))), (1, .int l1), (3, .int l3)]) rfl (by decide) rfl dX11_longestFreeRun_36 ?_
        refine r_iload_n C (k := 2) rfl rfl dX11_longestFreeRun_37 ?_
        refine r_iload_n C (k := 0) rfl rfl dX11_longestFreeRun_38 ?_
        refine r_mmax C (by decide) wm8_22 (kR rfl) dX11_longestFreeRun_39 ?_
        refine r_istore_n C (lo' := [(1, .int (if l1 < 0 then 0 else l1)), (2, .int 0), (0, .ref (wAd w (11, 12, 0, 0))), (3, .int l3)]) rfl (by decide) rfl dX11_longestFreeRun_42 ?_
        refine r_iinc C (k := 3) (v := (l3 + 1)) (lo' := [(3, .int (l3 + 1)), (1, .int (if l1 < 0 then 0 else l1)), (2, .int 0), (0, .ref (wAd w (11, 12, 0, 0)))]) rfl rfl (by decide) rfl dX11_longestFreeRun_43 ?_
        refine r_goto C (tgt := 11) rfl dX11_longestFreeRun_46 ?_
        cases hF
        change lpN n _ _ = some _ at hL
        refine r_lo [3, 1, 2, 0] (lo' := [(0, .ref (wAd w (11, 12, 0, 0))), (1, .int (if l1 < 0 then 0 else l1)), (2, .int 0), (3, .int (l3 + 1))]) rfl ?_
        exact ih (if l1 < 0 then 0 else l1) 0 (l3 + 1) t hL
      · rw [if_pos (b2i_t hc)] at hF
        refine r_iload_n C (k := 2) rfl rfl dX11_longestFreeRun_29 ?_
        refine r_iconst C (v := 1) rfl dX11_longestFreeRun_30 ?_
        refine r_iadd C dX11_longestFreeRun_31 ?_
        refine r_goto C (tgt := 36) rfl dX11_longestFreeRun_32 ?_
        refine r_istore_n C (lo' := [(2, .int (l2 + 1)), (0, .ref (wAd w (11, 12, 0, 0))), (1, .int l1), (3, .int l3)]) rfl (by decide) rfl dX11_longestFreeRun_36 ?_
        refine r_iload_n C (k := 2) rfl rfl dX11_longestFreeRun_37 ?_
        refine r_iload_n C (k := 0) rfl rfl dX11_longestFreeRun_38 ?_
        refine r_mmax C (by decide) wm8_22 (kR rfl) dX11_longestFreeRun_39 ?_
        refine r_istore_n C (lo' := [(1, .int (if l1 < (l2 + 1) then (l2 + 1) else l1)), (2, .int (l2 + 1)), (0, .ref (wAd w (11, 12, 0, 0))), (3, .int l3)]) rfl (by decide) rfl dX11_longestFreeRun_42 ?_
        refine r_iinc C (k := 3) (v := (l3 + 1)) (lo' := [(3, .int (l3 + 1)), (1, .int (if l1 < (l2 + 1) then (l2 + 1) else l1)), (2, .int (l2 + 1)), (0, .ref (wAd w (11, 12, 0, 0)))]) rfl rfl (by decide) rfl dX11_longestFreeRun_43 ?_
        refine r_goto C (tgt := 11) rfl dX11_longestFreeRun_46 ?_
        cases hF
        change lpN n _ _ = some _ at hL
        refine r_lo [3, 1, 2, 0] (lo' := [(0, .ref (wAd w (11, 12, 0, 0))), (1, .int (if l1 < (l2 + 1) then (l2 + 1) else l1)), (2, .int (l2 + 1)), (3, .int (l3 + 1))]) rfl ?_
        exact ih (if l1 < (l2 + 1) then (l2 + 1) else l1) (l2 + 1) (l3 + 1) t hL
theorem c_X11_longestFreeRun {w : WP} (hW : gWM w) {Ω : OM}  {t : HV} (e : Ω.2.1 = t) (N : Nat)  {v : Int32} {t' : HV} (hF : F_X11_longestFreeRun N t = some (v, t')) {Ω' : OM} (e2 : (sM Ω t') = Ω') : gM w 4 yX11_longestFreeRun cX11_longestFreeRun 4 (some .int) [.ref (wAd w (11, 12, 0, 0))] (cA w Ω) (some (.int v)) (cA w Ω') := by
  refine gM_of "HedgeMessagesModel" rfl (by decide) (kR rfl) fun X C => ?_
  unfold F_X11_longestFreeRun at hF
  subst e2
  show gV w X _ _ 0 [(0, .ref (wAd w (11, 12, 0, 0)))] []
  refine r_ct (ct' := cA w (sM Ω t)) (congrArg (cA w) (sM_i e).symm) ?_
  refine r_aload_n C (k := 0) rfl rfl dX11_longestFreeRun_0 ?_
  refine r_iconst C (v := 0) rfl dX11_longestFreeRun_1 ?_
  obtain ⟨t1, et1, hF⟩ := lt_e hF
  refine op_11_6 C hW.x (hW.fr k11) (show (sM Ω t).2.1 = t from rfl) wm7_73 dX11_longestFreeRun_2 (congrArg (sM Ω) et1) ?_
  refine r_iconst C (v := 0) rfl dX11_longestFreeRun_5 ?_
  refine r_istore_n C (lo' := [(1, .int 0), (0, .ref (wAd w (11, 12, 0, 0)))]) rfl (by decide) rfl dX11_longestFreeRun_6 ?_
  refine r_iconst C (v := 0) rfl dX11_longestFreeRun_7 ?_
  refine r_istore_n C (lo' := [(2, .int 0), (1, .int 0), (0, .ref (wAd w (11, 12, 0, 0)))]) rfl (by decide) rfl dX11_longestFreeRun_8 ?_
  refine r_iconst C (v := 0) rfl dX11_longestFreeRun_9 ?_
  refine r_istore_n C (lo' := [(3, .int 0), (2, .int 0), (1, .int 0), (0, .ref (wAd w (11, 12, 0, 0)))]) rfl (by decide) rfl dX11_longestFreeRun_10 ?_
  refine r_lo [3, 2, 1, 0] (lo' := [(0, .ref (wAd w (11, 12, 0, 0))), (1, .int 0), (2, .int 0), (3, .int 0)]) rfl ?_
  exact lp_X11_longestFreeRun_11 hW C N 0 0 0 t1 hF
theorem dX11_yardLetterCount_0 : decode cX11_yardLetterCount 0 = .ok (.aload_n 0, 1) := by decide +kernel
theorem dX11_yardLetterCount_1 : decode cX11_yardLetterCount 1 = .ok (.iconst 0, 1) := by decide +kernel
theorem dX11_yardLetterCount_2 : decode cX11_yardLetterCount 2 = .ok (.putfield 58, 3) := by decide +kernel
theorem dX11_yardLetterCount_5 : decode cX11_yardLetterCount 5 = .ok (.iconst 0, 1) := by decide +kernel
theorem dX11_yardLetterCount_6 : decode cX11_yardLetterCount 6 = .ok (.istore_n 2, 1) := by decide +kernel
theorem dX11_yardLetterCount_7 : decode cX11_yardLetterCount 7 = .ok (.iconst 0, 1) := by decide +kernel
theorem dX11_yardLetterCount_8 : decode cX11_yardLetterCount 8 = .ok (.istore_n 3, 1) := by decide +kernel
theorem dX11_yardLetterCount_9 : decode cX11_yardLetterCount 9 = .ok (.iload_n 3, 1) := by decide +kernel
theorem dX11_yardLetterCount_10 : decode cX11_yardLetterCount 10 = .ok (.aload_n 0, 1) := by decide +kernel
theorem dX11_yardLetterCount_11 : decode cX11_yardLetterCount 11 = .ok (.getfield 7, 3) := by decide +kernel
theorem dX11_yardLetterCount_14 : decode cX11_yardLetterCount 14 = .ok (.iconst 0, 1) := by decide +kernel
theorem dX11_yardLetterCount_15 : decode cX11_yardLetterCount 15 = .ok (.iaload, 1) := by decide +kernel
theorem dX11_yardLetterCount_16 : decode cX11_yardLetterCount 16 = .ok (.if_icmp .ge 40, 3) := by decide +kernel
theorem dX11_yardLetterCount_19 : decode cX11_yardLetterCount 19 = .ok (.iload_n 2, 1) := by decide +kernel
theorem dX11_yardLetterCount_20 : decode cX11_yardLetterCount 20 = .ok (.aload_n 0, 1) := by decide +kernel
theorem dX11_yardLetterCount_21 : decode cX11_yardLetterCount 21 = .ok (.iload_n 3, 1) := by decide +kernel
theorem dX11_yardLetterCount_22 : decode cX11_yardLetterCount 22 = .ok (.invokevirtual 84, 3) := by decide +kernel
theorem dX11_yardLetterCount_25 : decode cX11_yardLetterCount 25 = .ok (.ifCond .eq 19, 3) := by decide +kernel
theorem dX11_yardLetterCount_28 : decode cX11_yardLetterCount 28 = .ok (.iload_n 3, 1) := by decide +kernel
theorem dX11_yardLetterCount_29 : decode cX11_yardLetterCount 29 = .ok (.aload_n 0, 1) := by decide +kernel
theorem dX11_yardLetterCount_30 : decode cX11_yardLetterCount 30 = .ok (.getfield 7, 3) := by decide +kernel
theorem dX11_yardLetterCount_33 : decode cX11_yardLetterCount 33 = .ok (.iconst 5, 1) := by decide +kernel
theorem dX11_yardLetterCount_34 : decode cX11_yardLetterCount 34 = .ok (.iaload, 1) := by decide +kernel
theorem dX11_yardLetterCount_35 : decode cX11_yardLetterCount 35 = .ok (.idiv, 1) := by decide +kernel
theorem dX11_yardLetterCount_36 : decode cX11_yardLetterCount 36 = .ok (.iload_n 1, 1) := by decide +kernel
theorem dX11_yardLetterCount_37 : decode cX11_yardLetterCount 37 = .ok (.if_icmp .ne 7, 3) := by decide +kernel
theorem dX11_yardLetterCount_40 : decode cX11_yardLetterCount 40 = .ok (.iconst 1, 1) := by decide +kernel
theorem dX11_yardLetterCount_41 : decode cX11_yardLetterCount 41 = .ok (.goto 4, 3) := by decide +kernel
theorem dX11_yardLetterCount_44 : decode cX11_yardLetterCount 44 = .ok (.iconst 0, 1) := by decide +kernel
theorem dX11_yardLetterCount_45 : decode cX11_yardLetterCount 45 = .ok (.invokestatic 80, 3) := by decide +kernel
theorem dX11_yardLetterCount_48 : decode cX11_yardLetterCount 48 = .ok (.iadd, 1) := by decide +kernel
theorem dX11_yardLetterCount_49 : decode cX11_yardLetterCount 49 = .ok (.istore_n 2, 1) := by decide +kernel
theorem dX11_yardLetterCount_50 : decode cX11_yardLetterCount 50 = .ok (.iinc 3 1, 3) := by decide +kernel
theorem dX11_yardLetterCount_53 : decode cX11_yardLetterCount 53 = .ok (.goto (-44), 3) := by decide +kernel
theorem dX11_yardLetterCount_56 : decode cX11_yardLetterCount 56 = .ok (.iload_n 2, 1) := by decide +kernel
theorem dX11_yardLetterCount_57 : decode cX11_yardLetterCount 57 = .ok (.ireturn, 1) := by decide +kernel
def st_X11_yardLetterCount_9 (N : Nat) (l1 : Int32) (l2 : Int32) (l3 : Int32) (t : HV) : Option ((Int32 × Int32 × HV) ⊕ (Int32 × (HV))) := (if vpb 0 760 = true then (if (ag t 0 0) ≤ l3 then some (.inr (l2, t)) else (ob1 (F_X11_hasTwig l3 t) fun v3 => (if v3 = true then (if vpb 5 760 = true then (if (ag t 0 5) = 0 then none else (if (l3 / (ag t 0 5)) = l1 then some (.inl ((l2 + (F_X11_truth true)), (l3 + 1), t)) else some (.inl ((l2 + (F_X11_truth false)), (l3 + 1), t)))) else none) else some (.inl ((l2 + (F_X11_truth false)), (l3 + 1), t))))) else none)
def F_X11_yardLetterCount (N : Nat) (a1 : Int32) (t : HV) : Option (Int32 × (HV)) := (lt (sS t 6 0) fun t1 => (lpN N (fun z => st_X11_yardLetterCount_9 N a1 z.1 z.2.1 z.2.2) (0, 0, t1)))
theorem lp_X11_yardLetterCount_9 {w : WP} (hW : gWM w) {Ω : OM}   (l1 : Int32) {N : Nat} {X : CX} (C : gC w X cX11_yardLetterCount "HedgeMessagesModel" (some .int) 2 4) {v : Int32} {t' : HV}  : ∀ (n : Nat) (l2 : Int32) (l3 : Int32) (t : HV), lpN n (fun z : Int32 × Int32 × HV => st_X11_yardLetterCount_9 N l1 z.1 z.2.1 z.2.2) (l2, l3, t) = some (v, t') → gV w X (some (.int v), cA w (sM Ω t')) (cA w (sM Ω t)) 9 [(0, .ref (wAd w (11, 12, 0, 0))), (1, .int l1), (2, .int l2), (3, .int l3)] [] := by
  intro n
  induction n with
  | zero => intro l2 l3 t hL; exact lpN_0 hL
  | succ n ih =>
    intro l2 l3 t hL
    obtain ⟨q9, hF, hL⟩ := lpN_e hL
    change st_X11_yardLetterCount_9 N l1 l2 l3 t = some q9 at hF
    unfold st_X11_yardLetterCount_9 at hF
    refine r_iload_n C (k := 3) rfl rfl dX11_yardLetterCount_9 ?_
    refine r_aload_n C (k := 0) rfl rfl dX11_yardLetterCount_10 ?_
    refine og_11_0 C (hW.ok k11) wm7_67 dX11_yardLetterCount_11 ?_
    refine r_iconst C (v := 0) rfl dX11_yardLetterCount_14 ?_
    obtain ⟨b2, hF⟩ := gd_e hF
    refine m_ald C (hW.ok (k12 (a := 0) (by unfold okMa; decide))) (show (sM Ω t).2.1 = t from rfl) rfl b2 dX11_yardLetterCount_15 ?_
    refine r_icmp_ge C (tgt := 56) rfl dX11_yardLetterCount_16 (fun hc => ?_) (fun hc => ?_)
    · rw [if_pos hc] at hF
      refine r_iload_n C (k := 2) rfl rfl dX11_yardLetterCount_56 ?_
      cases hF
      change some _ = some _ at hL
      cases hL
      exact r_ireturn C dX11_yardLetterCount_57
    · rw [if_neg hc] at hF
      refine r_iload_n C (k := 2) rfl rfl dX11_yardLetterCount_19 ?_
      refine r_aload_n C (k := 0) rfl rfl dX11_yardLetterCount_20 ?_
      refine r_iload_n C (k := 3) rfl rfl dX11_yardLetterCount_21 ?_
      obtain ⟨v3, hv3, hF⟩ := ob1_e hF
      refine r_callV C (d' := 1) [.int l3] (c_X11_hasTwig hW (show (sM Ω t).2.1 = t from rfl) l3 hv3) myX11_hasTwig wm6_238 ⟨_, _, _, _, (hW.ok k11), rfl, rfl, rfl, rfl⟩ rfl (kR rfl) (by decide) (kR rfl) rfl dX11_yardLetterCount_22 ?_
      refine r_if_eq C (tgt := 44) rfl dX11_yardLetterCount_25 (fun hc => ?_) (fun hc => ?_)
      · rw [if_neg (b2i_f hc)] at hF
        refine r_iconst C (v := 0) rfl dX11_yardLetterCount_44 ?_
        refine r_callS C (d' := 0) [.int (b2i false)] (c_X11_truth false rfl) myX11_truth wm7_35 rfl (kR rfl) (by decide) (kR rfl) rfl dX11_yardLetterCount_45 ?_
        refine r_iadd C dX11_yardLetterCount_48 ?_
        refine r_istore_n C (lo' := [(2, .int (l2 + (F_X11_truth false))), (0, .ref (wAd w (11, 12, 0, 0))), (1, .int l1), (3, .int l3)]) rfl (by decide) rfl dX11_yardLetterCount_49 ?_
        refine r_iinc C (k := 3) (v := (l3 + 1)) (lo' := [(3, .int (l3 + 1)), (2, .int (l2 + (F_X11_truth false))), (0, .ref (wAd w (11, 12, 0, 0))), (1, .int l1)]) rfl rfl (by decide) rfl dX11_yardLetterCount_50 ?_
        refine r_goto C (tgt := 9) rfl dX11_yardLetterCount_53 ?_
        cases hF
        change lpN n _ _ = some _ at hL
        refine r_lo [2, 3, 1, 0] (lo' := [(0, .ref (wAd w (11, 12, 0, 0))), (1, .int l1), (2, .int (l2 + (F_X11_truth false))), (3, .int (l3 + 1))]) rfl ?_
        exact ih (l2 + (F_X11_truth false)) (l3 + 1) t hL
      · rw [if_pos (b2i_t hc)] at hF
        refine r_iload_n C (k := 3) rfl rfl dX11_yardLetterCount_28 ?_
        refine r_aload_n C (k := 0) rfl rfl dX11_yardLetterCount_29 ?_
        refine og_11_0 C (hW.ok k11) wm7_67 dX11_yardLetterCount_30 ?_
        refine r_iconst C (v := 5) rfl dX11_yardLetterCount_33 ?_
        obtain ⟨b4, hF⟩ := gd_e hF
        refine m_ald C (hW.ok (k12 (a := 0) (by unfold okMa; decide))) (show (sM Ω t).2.1 = t from rfl) rfl b4 dX11_yardLetterCount_34 ?_
        obtain ⟨z5, hF⟩ := dz_e hF
        refine r_idiv C z5 dX11_yardLetterCount_35 ?_
        refine r_iload_n C (k := 1) rfl rfl dX11_yardLetterCount_36 ?_
        refine r_icmp_ne C (tgt := 44) rfl dX11_yardLetterCount_37 (fun hc => ?_) (fun hc => ?_)
        · rw [if_neg hc] at hF
          refine r_iconst C (v := 0) rfl dX11_yardLetterCount_44 ?_
          refine r_callS C (d' := 0) [.int (b2i false)] (c_X11_truth false rfl) myX11_truth wm7_35 rfl (kR rfl) (by decide) (kR rfl) rfl dX11_yardLetterCount_45 ?_
          refine r_iadd C dX11_yardLetterCount_48 ?_
          refine r_istore_n C (lo' := [(2, .int (l2 + (F_X11_truth false))), (0, .ref (wAd w (11, 12, 0, 0))), (1, .int l1), (3, .int l3)]) rfl (by decide) rfl dX11_yardLetterCount_49 ?_
          refine r_iinc C (k := 3) (v := (l3 + 1)) (lo' := [(3, .int (l3 + 1)), (2, .int (l2 + (F_X11_truth false))), (0, .ref (wAd w (11, 12, 0, 0))), (1, .int l1)]) rfl rfl (by decide) rfl dX11_yardLetterCount_50 ?_
          refine r_goto C (tgt := 9) rfl dX11_yardLetterCount_53 ?_
          cases hF
          change lpN n _ _ = some _ at hL
          refine r_lo [2, 3, 1, 0] (lo' := [(0, .ref (wAd w (11, 12, 0, 0))), (1, .int l1), (2, .int (l2 + (F_X11_truth false))), (3, .int (l3 + 1))]) rfl ?_
          exact ih (l2 + (F_X11_truth false)) (l3 + 1) t hL
        · rw [if_pos hc] at hF
          refine r_iconst C (v := 1) rfl dX11_yardLetterCount_40 ?_
          refine r_goto C (tgt := 45) rfl dX11_yardLetterCount_41 ?_
          refine r_callS C (d' := 0) [.int (b2i true)] (c_X11_truth true rfl) myX11_truth wm7_35 rfl (kR rfl) (by decide) (kR rfl) rfl dX11_yardLetterCount_45 ?_
          refine r_iadd C dX11_yardLetterCount_48 ?_
          refine r_istore_n C (lo' := [(2, .int (l2 + (F_X11_truth true))), (0, .ref (wAd w (11, 12, 0, 0))), (1, .int l1), (3, .int l3)]) rfl (by decide) rfl dX11_yardLetterCount_49 ?_
          refine r_iinc C (k := 3) (v := (l3 + 1)) (lo' := [(3, .int (l3 + 1)), (2, .int (l2 + (F_X11_truth true))), (0, .ref (wAd w (11, 12, 0, 0))), (1, .int l1)]) rfl rfl (by decide) rfl dX11_yardLetterCount_50 ?_
          refine r_goto C (tgt := 9) rfl dX11_yardLetterCount_53 ?_
          cases hF
          change lpN n _ _ = some _ at hL
          refine r_lo [2, 3, 1, 0] (lo' := [(0, .ref (wAd w (11, 12, 0, 0))), (1, .int l1), (2, .int (l2 + (F_X11_truth true))), (3, .int (l3 + 1))]) rfl ?_
          exact ih (l2 + (F_X11_truth true)) (l3 + 1) t hL
theorem c_X11_yardLetterCount {w : WP} (hW : gWM w) {Ω : OM}  {t : HV} (e : Ω.2.1 = t) (N : Nat) (a1 : Int32) {v : Int32} {t' : HV} (hF : F_X11_yardLetterCount N a1 t = some (v, t')) {Ω' : OM} (e2 : (sM Ω t') = Ω') : gM w 2 yX11_yardLetterCount cX11_yardLetterCount 4 (some .int) [.ref (wAd w (11, 12, 0, 0)), .int a1] (cA w Ω) (some (.int v)) (cA w Ω') := by
  refine gM_of "HedgeMessagesModel" rfl (by decide) (kR rfl) fun X C => ?_
  unfold F_X11_yardLetterCount at hF
  subst e2
  show gV w X _ _ 0 [(0, .ref (wAd w (11, 12, 0, 0))), (1, .int a1)] []
  refine r_ct (ct' := cA w (sM Ω t)) (congrArg (cA w) (sM_i e).symm) ?_
  refine r_aload_n C (k := 0) rfl rfl dX11_yardLetterCount_0 ?_
  refine r_iconst C (v := 0) rfl dX11_yardLetterCount_1 ?_
  obtain ⟨t1, et1, hF⟩ := lt_e hF
  refine op_11_6 C hW.x (hW.fr k11) (show (sM Ω t).2.1 = t from rfl) wm7_73 dX11_yardLetterCount_2 (congrArg (sM Ω) et1) ?_
  refine r_iconst C (v := 0) rfl dX11_yardLetterCount_5 ?_
  refine r_istore_n C (lo' := [(2, .int 0), (0, .ref (wAd w (11, 12, 0, 0))), (1, .int a1)]) rfl (by decide) rfl dX11_yardLetterCount_6 ?_
  refine r_iconst C (v := 0) rfl dX11_yardLetterCount_7 ?_
  refine r_istore_n C (lo' := [(3, .int 0), (2, .int 0), (0, .ref (wAd w (11, 12, 0, 0))), (1, .int a1)]) rfl (by decide) rfl dX11_yardLetterCount_8 ?_
  refine r_lo [2, 3, 1, 0] (lo' := [(0, .ref (wAd w (11, 12, 0, 0))), (1, .int a1), (2, .int 0), (3, .int 0)]) rfl ?_
  exact lp_X11_yardLetterCount_9 hW a1 C N 0 0 t1 hF
theorem dX11_plantReason_0 : decode cX11_plantReason 0 = .ok (.aload_n 0, 1) := by decide +kernel
theorem dX11_plantReason_1 : decode cX11_plantReason 1 = .ok (.aload_n 0, 1) := by decide +kernel
theorem dX11_plantReason_2 : decode cX11_plantReason 2 = .ok (.iload_n 1, 1) := by decide +kernel
theorem dX11_plantReason_3 : decode cX11_plantReason 3 = .ok (.invokevirtual 73, 3) := by decide +kernel
theorem dX11_plantReason_6 : decode cX11_plantReason 6 = .ok (.invokevirtual 221, 3) := by decide +kernel
theorem dX11_plantReason_9 : decode cX11_plantReason 9 = .ok (.ifCond .eq 11, 3) := by decide +kernel
theorem dX11_plantReason_12 : decode cX11_plantReason 12 = .ok (.aload_n 0, 1) := by decide +kernel
theorem dX11_plantReason_13 : decode cX11_plantReason 13 = .ok (.iload_n 1, 1) := by decide +kernel
theorem dX11_plantReason_14 : decode cX11_plantReason 14 = .ok (.invokevirtual 194, 3) := by decide +kernel
theorem dX11_plantReason_17 : decode cX11_plantReason 17 = .ok (.goto 4, 3) := by decide +kernel
theorem dX11_plantReason_20 : decode cX11_plantReason 20 = .ok (.iconst 0, 1) := by decide +kernel
theorem dX11_plantReason_21 : decode cX11_plantReason 21 = .ok (.ireturn, 1) := by decide +kernel
def F_X11_plantReason (N : Nat) (a1 : Int32) (t : HV) : Option (Int32 × (HV)) := (ob1 (F_X11_isSlot a1 t) fun v1 => (lt2 (F_X11_passes v1 t) fun v2 t3 => (if v2 = true then (ob1 (F_X11_whyNotPlant N a1 t3) fun v4 => some (v4, t3)) else some (0, t3))))
theorem c_X11_plantReason {w : WP} (hW : gWM w) {Ω : OM}  {t : HV} (e : Ω.2.1 = t) (N : Nat) (a1 : Int32) {v : Int32} {t' : HV} (hF : F_X11_plantReason N a1 t = some (v, t')) {Ω' : OM} (e2 : (sM Ω t') = Ω') : gM w 4 yX11_plantReason cX11_plantReason 2 (some .int) [.ref (wAd w (11, 12, 0, 0)), .int a1] (cA w Ω) (some (.int v)) (cA w Ω') := by
  refine gM_of "HedgeMessagesModel" rfl (by decide) (kR rfl) fun X C => ?_
  unfold F_X11_plantReason at hF
  subst e2
  show gV w X _ _ 0 [(0, .ref (wAd w (11, 12, 0, 0))), (1, .int a1)] []
  refine r_ct (ct' := cA w (sM Ω t)) (congrArg (cA w) (sM_i e).symm) ?_
  refine r_aload_n C (k := 0) rfl rfl dX11_plantReason_0 ?_
  refine r_aload_n C (k := 0) rfl rfl dX11_plantReason_1 ?_
  refine r_iload_n C (k := 1) rfl rfl dX11_plantReason_2 ?_
  obtain ⟨v1, hv1, hF⟩ := ob1_e hF
  refine r_callV C (d' := 1) [.int a1] (c_X11_isSlot hW (show (sM Ω t).2.1 = t from rfl) a1 hv1) myX11_isSlot wm7_27 ⟨_, _, _, _, (hW.ok k11), rfl, rfl, rfl, rfl⟩ rfl (kR rfl) (by decide) (kR rfl) rfl dX11_plantReason_3 ?_
  obtain ⟨v2, t3, ht3, hF⟩ := lt2_e hF
  refine r_callV C (d' := 0) [.int (b2i v1)] (c_X11_passes hW (show (sM Ω t).2.1 = t from rfl) v1 ht3 rfl) myX11_passes wm7_63 ⟨_, _, _, _, (hW.ok k11), rfl, rfl, rfl, rfl⟩ rfl (kR rfl) (by decide) (kR rfl) rfl dX11_plantReason_6 ?_
  refine r_if_eq C (tgt := 20) rfl dX11_plantReason_9 (fun hc => ?_) (fun hc => ?_)
  · rw [if_neg (b2i_f hc)] at hF
    refine r_iconst C (v := 0) rfl dX11_plantReason_20 ?_
    cases hF
    exact r_ireturn C dX11_plantReason_21
  · rw [if_pos (b2i_t hc)] at hF
    refine r_aload_n C (k := 0) rfl rfl dX11_plantReason_12 ?_
    refine r_iload_n C (k := 1) rfl rfl dX11_plantReason_13 ?_
    obtain ⟨v4, hv4, hF⟩ := ob1_e hF
    refine r_callV C (d' := 3) [.int a1] (c_X11_whyNotPlant hW (show (sM Ω t3).2.1 = t3 from rfl) N a1 hv4) myX11_whyNotPlant wm7_208 ⟨_, _, _, _, (hW.ok k11), rfl, rfl, rfl, rfl⟩ rfl (kR rfl) (by decide) (kR rfl) rfl dX11_plantReason_14 ?_
    refine r_goto C (tgt := 21) rfl dX11_plantReason_17 ?_
    cases hF
    exact r_ireturn C dX11_plantReason_21
theorem dX11_removeReason_0 : decode cX11_removeReason 0 = .ok (.aload_n 0, 1) := by decide +kernel
theorem dX11_removeReason_1 : decode cX11_removeReason 1 = .ok (.aload_n 0, 1) := by decide +kernel
theorem dX11_removeReason_2 : decode cX11_removeReason 2 = .ok (.iload_n 1, 1) := by decide +kernel
theorem dX11_removeReason_3 : decode cX11_removeReason 3 = .ok (.invokevirtual 73, 3) := by decide +kernel
theorem dX11_removeReason_6 : decode cX11_removeReason 6 = .ok (.invokevirtual 221, 3) := by decide +kernel
theorem dX11_removeReason_9 : decode cX11_removeReason 9 = .ok (.ifCond .eq 11, 3) := by decide +kernel
theorem dX11_removeReason_12 : decode cX11_removeReason 12 = .ok (.aload_n 0, 1) := by decide +kernel
theorem dX11_removeReason_13 : decode cX11_removeReason 13 = .ok (.iload_n 1, 1) := by decide +kernel
theorem dX11_removeReason_14 : decode cX11_removeReason 14 = .ok (.invokevirtual 203, 3) := by decide +kernel
theorem dX11_removeReason_17 : decode cX11_removeReason 17 = .ok (.goto 4, 3) := by decide +kernel
theorem dX11_removeReason_20 : decode cX11_removeReason 20 = .ok (.iconst 0, 1) := by decide +kernel
theorem dX11_removeReason_21 : decode cX11_removeReason 21 = .ok (.ireturn, 1) := by decide +kernel
def F_X11_removeReason (a1 : Int32) (t : HV) : Option (Int32 × (HV)) := (ob1 (F_X11_isSlot a1 t) fun v1 => (lt2 (F_X11_passes v1 t) fun v2 t3 => (if v2 = true then (ob1 (F_X11_whyNotRemove a1 t3) fun v4 => some (v4, t3)) else some (0, t3))))
theorem c_X11_removeReason {w : WP} (hW : gWM w) {Ω : OM}  {t : HV} (e : Ω.2.1 = t) (a1 : Int32) {v : Int32} {t' : HV} (hF : F_X11_removeReason a1 t = some (v, t')) {Ω' : OM} (e2 : (sM Ω t') = Ω') : gM w 5 yX11_removeReason cX11_removeReason 2 (some .int) [.ref (wAd w (11, 12, 0, 0)), .int a1] (cA w Ω) (some (.int v)) (cA w Ω') := by
  refine gM_of "HedgeMessagesModel" rfl (by decide) (kR rfl) fun X C => ?_
  unfold F_X11_removeReason at hF
  subst e2
  show gV w X _ _ 0 [(0, .ref (wAd w (11, 12, 0, 0))), (1, .int a1)] []
  refine r_ct (ct' := cA w (sM Ω t)) (congrArg (cA w) (sM_i e).symm) ?_
  refine r_aload_n C (k := 0) rfl rfl dX11_removeReason_0 ?_
  refine r_aload_n C (k := 0) rfl rfl dX11_removeReason_1 ?_
  refine r_iload_n C (k := 1) rfl rfl dX11_removeReason_2 ?_
  obtain ⟨v1, hv1, hF⟩ := ob1_e hF
  refine r_callV C (d' := 1) [.int a1] (c_X11_isSlot hW (show (sM Ω t).2.1 = t from rfl) a1 hv1) myX11_isSlot wm7_27 ⟨_, _, _, _, (hW.ok k11), rfl, rfl, rfl, rfl⟩ rfl (kR rfl) (by decide) (kR rfl) rfl dX11_removeReason_3 ?_
  obtain ⟨v2, t3, ht3, hF⟩ := lt2_e hF
  refine r_callV C (d' := 0) [.int (b2i v1)] (c_X11_passes hW (show (sM Ω t).2.1 = t from rfl) v1 ht3 rfl) myX11_passes wm7_63 ⟨_, _, _, _, (hW.ok k11), rfl, rfl, rfl, rfl⟩ rfl (kR rfl) (by decide) (kR rfl) rfl dX11_removeReason_6 ?_
  refine r_if_eq C (tgt := 20) rfl dX11_removeReason_9 (fun hc => ?_) (fun hc => ?_)
  · rw [if_neg (b2i_f hc)] at hF
    refine r_iconst C (v := 0) rfl dX11_removeReason_20 ?_
    cases hF
    exact r_ireturn C dX11_removeReason_21
  · rw [if_pos (b2i_t hc)] at hF
    refine r_aload_n C (k := 0) rfl rfl dX11_removeReason_12 ?_
    refine r_iload_n C (k := 1) rfl rfl dX11_removeReason_13 ?_
    obtain ⟨v4, hv4, hF⟩ := ob1_e hF
    refine r_callV C (d' := 4) [.int a1] (c_X11_whyNotRemove hW (show (sM Ω t3).2.1 = t3 from rfl) a1 hv4) myX11_whyNotRemove wm7_238 ⟨_, _, _, _, (hW.ok k11), rfl, rfl, rfl, rfl⟩ rfl (kR rfl) (by decide) (kR rfl) rfl dX11_removeReason_14 ?_
    refine r_goto C (tgt := 21) rfl dX11_removeReason_17 ?_
    cases hF
    exact r_ireturn C dX11_removeReason_21
theorem dX11_trimReason_0 : decode cX11_trimReason 0 = .ok (.aload_n 0, 1) := by decide +kernel
theorem dX11_trimReason_1 : decode cX11_trimReason 1 = .ok (.aload_n 0, 1) := by decide +kernel
theorem dX11_trimReason_2 : decode cX11_trimReason 2 = .ok (.iload_n 1, 1) := by decide +kernel
theorem dX11_trimReason_3 : decode cX11_trimReason 3 = .ok (.invokevirtual 73, 3) := by decide +kernel
theorem dX11_trimReason_6 : decode cX11_trimReason 6 = .ok (.invokevirtual 221, 3) := by decide +kernel
theorem dX11_trimReason_9 : decode cX11_trimReason 9 = .ok (.ifCond .eq 11, 3) := by decide +kernel
theorem dX11_trimReason_12 : decode cX11_trimReason 12 = .ok (.aload_n 0, 1) := by decide +kernel
theorem dX11_trimReason_13 : decode cX11_trimReason 13 = .ok (.iload_n 1, 1) := by decide +kernel
theorem dX11_trimReason_14 : decode cX11_trimReason 14 = .ok (.invokevirtual 206, 3) := by decide +kernel
theorem dX11_trimReason_17 : decode cX11_trimReason 17 = .ok (.goto 4, 3) := by decide +kernel
theorem dX11_trimReason_20 : decode cX11_trimReason 20 = .ok (.iconst 0, 1) := by decide +kernel
theorem dX11_trimReason_21 : decode cX11_trimReason 21 = .ok (.ireturn, 1) := by decide +kernel
def F_X11_trimReason (a1 : Int32) (t : HV) : Option (Int32 × (HV)) := (ob1 (F_X11_isSlot a1 t) fun v1 => (lt2 (F_X11_passes v1 t) fun v2 t3 => (if v2 = true then (ob1 (F_X11_whyNotTrim a1 t3) fun v4 => some (v4, t3)) else some (0, t3))))
theorem c_X11_trimReason {w : WP} (hW : gWM w) {Ω : OM}  {t : HV} (e : Ω.2.1 = t) (a1 : Int32) {v : Int32} {t' : HV} (hF : F_X11_trimReason a1 t = some (v, t')) {Ω' : OM} (e2 : (sM Ω t') = Ω') : gM w 5 yX11_trimReason cX11_trimReason 2 (some .int) [.ref (wAd w (11, 12, 0, 0)), .int a1] (cA w Ω) (some (.int v)) (cA w Ω') := by
  refine gM_of "HedgeMessagesModel" rfl (by decide) (kR rfl) fun X C => ?_
  unfold F_X11_trimReason at hF
  subst e2
  show gV w X _ _ 0 [(0, .ref (wAd w (11, 12, 0, 0))), (1, .int a1)] []
  refine r_ct (ct' := cA w (sM Ω t)) (congrArg (cA w) (sM_i e).symm) ?_
  refine r_aload_n C (k := 0) rfl rfl dX11_trimReason_0 ?_
  refine r_aload_n C (k := 0) rfl rfl dX11_trimReason_1 ?_
  refine r_iload_n C (k := 1) rfl rfl dX11_trimReason_2 ?_
  obtain ⟨v1, hv1, hF⟩ := ob1_e hF
  refine r_callV C (d' := 1) [.int a1] (c_X11_isSlot hW (show (sM Ω t).2.1 = t from rfl) a1 hv1) myX11_isSlot wm7_27 ⟨_, _, _, _, (hW.ok k11), rfl, rfl, rfl, rfl⟩ rfl (kR rfl) (by decide) (kR rfl) rfl dX11_trimReason_3 ?_
  obtain ⟨v2, t3, ht3, hF⟩ := lt2_e hF
  refine r_callV C (d' := 0) [.int (b2i v1)] (c_X11_passes hW (show (sM Ω t).2.1 = t from rfl) v1 ht3 rfl) myX11_passes wm7_63 ⟨_, _, _, _, (hW.ok k11), rfl, rfl, rfl, rfl⟩ rfl (kR rfl) (by decide) (kR rfl) rfl dX11_trimReason_6 ?_
  refine r_if_eq C (tgt := 20) rfl dX11_trimReason_9 (fun hc => ?_) (fun hc => ?_)
  · rw [if_neg (b2i_f hc)] at hF
    refine r_iconst C (v := 0) rfl dX11_trimReason_20 ?_
    cases hF
    exact r_ireturn C dX11_trimReason_21
  · rw [if_pos (b2i_t hc)] at hF
    refine r_aload_n C (k := 0) rfl rfl dX11_trimReason_12 ?_
    refine r_iload_n C (k := 1) rfl rfl dX11_trimReason_13 ?_
    obtain ⟨v4, hv4, hF⟩ := ob1_e hF
    refine r_callV C (d' := 4) [.int a1] (c_X11_whyNotTrim hW (show (sM Ω t3).2.1 = t3 from rfl) a1 hv4) myX11_whyNotTrim wm8_18 ⟨_, _, _, _, (hW.ok k11), rfl, rfl, rfl, rfl⟩ rfl (kR rfl) (by decide) (kR rfl) rfl dX11_trimReason_14 ?_
    refine r_goto C (tgt := 21) rfl dX11_trimReason_17 ?_
    cases hF
    exact r_ireturn C dX11_trimReason_21
theorem dX11_writeReason_0 : decode cX11_writeReason 0 = .ok (.aload_n 0, 1) := by decide +kernel
theorem dX11_writeReason_1 : decode cX11_writeReason 1 = .ok (.iload_n 1, 1) := by decide +kernel
theorem dX11_writeReason_2 : decode cX11_writeReason 2 = .ok (.invokestatic 385, 3) := by decide +kernel
theorem dX11_writeReason_5 : decode cX11_writeReason 5 = .ok (.invokevirtual 221, 3) := by decide +kernel
theorem dX11_writeReason_8 : decode cX11_writeReason 8 = .ok (.ifCond .eq 11, 3) := by decide +kernel
theorem dX11_writeReason_11 : decode cX11_writeReason 11 = .ok (.aload_n 0, 1) := by decide +kernel
theorem dX11_writeReason_12 : decode cX11_writeReason 12 = .ok (.iload_n 1, 1) := by decide +kernel
theorem dX11_writeReason_13 : decode cX11_writeReason 13 = .ok (.invokevirtual 391, 3) := by decide +kernel
theorem dX11_writeReason_16 : decode cX11_writeReason 16 = .ok (.goto 4, 3) := by decide +kernel
theorem dX11_writeReason_19 : decode cX11_writeReason 19 = .ok (.iconst 0, 1) := by decide +kernel
theorem dX11_writeReason_20 : decode cX11_writeReason 20 = .ok (.ireturn, 1) := by decide +kernel
def F_X11_writeReason (N : Nat) (a1 : Int32) (t : HV) : Option (Int32 × (HV)) := (lt2 (F_X11_passes (F_X11_isGardener a1) t) fun v1 t2 => (if v1 = true then (ob1 (F_X11_whyNotWrite N a1 t2) fun v3 => some (v3, t2)) else some (0, t2)))
theorem c_X11_writeReason {w : WP} (hW : gWM w) {Ω : OM}  {t : HV} (e : Ω.2.1 = t) (N : Nat) (a1 : Int32) {v : Int32} {t' : HV} (hF : F_X11_writeReason N a1 t = some (v, t')) {Ω' : OM} (e2 : (sM Ω t') = Ω') : gM w 8 yX11_writeReason cX11_writeReason 2 (some .int) [.ref (wAd w (11, 12, 0, 0)), .int a1] (cA w Ω) (some (.int v)) (cA w Ω') := by
  refine gM_of "HedgeMessagesModel" rfl (by decide) (kR rfl) fun X C => ?_
  unfold F_X11_writeReason at hF
  subst e2
  show gV w X _ _ 0 [(0, .ref (wAd w (11, 12, 0, 0))), (1, .int a1)] []
  refine r_ct (ct' := cA w (sM Ω t)) (congrArg (cA w) (sM_i e).symm) ?_
  refine r_aload_n C (k := 0) rfl rfl dX11_writeReason_0 ?_
  refine r_iload_n C (k := 1) rfl rfl dX11_writeReason_1 ?_
  refine r_callS C (d' := 1) [.int a1] (c_X11_isGardener a1 rfl) myX11_isGardener wm8_193 rfl (kR rfl) (by decide) (kR rfl) rfl dX11_writeReason_2 ?_
  obtain ⟨v1, t2, ht2, hF⟩ := lt2_e hF
  refine r_callV C (d' := 0) [.int (b2i (F_X11_isGardener a1))] (c_X11_passes hW (show (sM Ω t).2.1 = t from rfl) (F_X11_isGardener a1) ht2 rfl) myX11_passes wm7_63 ⟨_, _, _, _, (hW.ok k11), rfl, rfl, rfl, rfl⟩ rfl (kR rfl) (by decide) (kR rfl) rfl dX11_writeReason_5 ?_
  refine r_if_eq C (tgt := 19) rfl dX11_writeReason_8 (fun hc => ?_) (fun hc => ?_)
  · rw [if_neg (b2i_f hc)] at hF
    refine r_iconst C (v := 0) rfl dX11_writeReason_19 ?_
    cases hF
    exact r_ireturn C dX11_writeReason_20
  · rw [if_pos (b2i_t hc)] at hF
    refine r_aload_n C (k := 0) rfl rfl dX11_writeReason_11 ?_
    refine r_iload_n C (k := 1) rfl rfl dX11_writeReason_12 ?_
    obtain ⟨v3, hv3, hF⟩ := ob1_e hF
    refine r_callV C (d' := 7) [.int a1] (c_X11_whyNotWrite hW (show (sM Ω t2).2.1 = t2 from rfl) N a1 hv3) myX11_whyNotWrite wm9_4 ⟨_, _, _, _, (hW.ok k11), rfl, rfl, rfl, rfl⟩ rfl (kR rfl) (by decide) (kR rfl) rfl dX11_writeReason_13 ?_
    refine r_goto C (tgt := 20) rfl dX11_writeReason_16 ?_
    cases hF
    exact r_ireturn C dX11_writeReason_20
theorem dX11_keepReason_0 : decode cX11_keepReason 0 = .ok (.aload_n 0, 1) := by decide +kernel
theorem dX11_keepReason_1 : decode cX11_keepReason 1 = .ok (.aload_n 0, 1) := by decide +kernel
theorem dX11_keepReason_2 : decode cX11_keepReason 2 = .ok (.iload_n 1, 1) := by decide +kernel
theorem dX11_keepReason_3 : decode cX11_keepReason 3 = .ok (.invokevirtual 73, 3) := by decide +kernel
theorem dX11_keepReason_6 : decode cX11_keepReason 6 = .ok (.invokevirtual 221, 3) := by decide +kernel
theorem dX11_keepReason_9 : decode cX11_keepReason 9 = .ok (.ifCond .eq 11, 3) := by decide +kernel
theorem dX11_keepReason_12 : decode cX11_keepReason 12 = .ok (.aload_n 0, 1) := by decide +kernel
theorem dX11_keepReason_13 : decode cX11_keepReason 13 = .ok (.iload_n 1, 1) := by decide +kernel
theorem dX11_keepReason_14 : decode cX11_keepReason 14 = .ok (.invokevirtual 394, 3) := by decide +kernel
theorem dX11_keepReason_17 : decode cX11_keepReason 17 = .ok (.goto 4, 3) := by decide +kernel
theorem dX11_keepReason_20 : decode cX11_keepReason 20 = .ok (.iconst 0, 1) := by decide +kernel
theorem dX11_keepReason_21 : decode cX11_keepReason 21 = .ok (.ireturn, 1) := by decide +kernel
def F_X11_keepReason (a1 : Int32) (t : HV) : Option (Int32 × (HV)) := (ob1 (F_X11_isSlot a1 t) fun v1 => (lt2 (F_X11_passes v1 t) fun v2 t3 => (if v2 = true then (ob1 (F_X11_whyKept a1 t3) fun v4 => some (v4, t3)) else some (0, t3))))
theorem c_X11_keepReason {w : WP} (hW : gWM w) {Ω : OM}  {t : HV} (e : Ω.2.1 = t) (a1 : Int32) {v : Int32} {t' : HV} (hF : F_X11_keepReason a1 t = some (v, t')) {Ω' : OM} (e2 : (sM Ω t') = Ω') : gM w 5 yX11_keepReason cX11_keepReason 2 (some .int) [.ref (wAd w (11, 12, 0, 0)), .int a1] (cA w Ω) (some (.int v)) (cA w Ω') := by
  refine gM_of "HedgeMessagesModel" rfl (by decide) (kR rfl) fun X C => ?_
  unfold F_X11_keepReason at hF
  subst e2
  show gV w X _ _ 0 [(0, .ref (wAd w (11, 12, 0, 0))), (1, .int a1)] []
  refine r_ct (ct' := cA w (sM Ω t)) (congrArg (cA w) (sM_i e).symm) ?_
  refine r_aload_n C (k := 0) rfl rfl dX11_keepReason_0 ?_
  refine r_aload_n C (k := 0) rfl rfl dX11_keepReason_1 ?_
  refine r_iload_n C (k := 1) rfl rfl dX11_keepReason_2 ?_
  obtain ⟨v1, hv1, hF⟩ := ob1_e hF
  refine r_callV C (d' := 1) [.int a1] (c_X11_isSlot hW (show (sM Ω t).2.1 = t from rfl) a1 hv1) myX11_isSlot wm7_27 ⟨_, _, _, _, (hW.ok k11), rfl, rfl, rfl, rfl⟩ rfl (kR rfl) (by decide) (kR rfl) rfl dX11_keepReason_3 ?_
  obtain ⟨v2, t3, ht3, hF⟩ := lt2_e hF
  refine r_callV C (d' := 0) [.int (b2i v1)] (c_X11_passes hW (show (sM Ω t).2.1 = t from rfl) v1 ht3 rfl) myX11_passes wm7_63 ⟨_, _, _, _, (hW.ok k11), rfl, rfl, rfl, rfl⟩ rfl (kR rfl) (by decide) (kR rfl) rfl dX11_keepReason_6 ?_
  refine r_if_eq C (tgt := 20) rfl dX11_keepReason_9 (fun hc => ?_) (fun hc => ?_)
  · rw [if_neg (b2i_f hc)] at hF
    refine r_iconst C (v := 0) rfl dX11_keepReason_20 ?_
    cases hF
    exact r_ireturn C dX11_keepReason_21
  · rw [if_pos (b2i_t hc)] at hF
    refine r_aload_n C (k := 0) rfl rfl dX11_keepReason_12 ?_
    refine r_iload_n C (k := 1) rfl rfl dX11_keepReason_13 ?_
    obtain ⟨v4, hv4, hF⟩ := ob1_e hF
    refine r_callV C (d' := 4) [.int a1] (c_X11_whyKept hW (show (sM Ω t3).2.1 = t3 from rfl) a1 hv4) myX11_whyKept wm9_12 ⟨_, _, _, _, (hW.ok k11), rfl, rfl, rfl, rfl⟩ rfl (kR rfl) (by decide) (kR rfl) rfl dX11_keepReason_14 ?_
    refine r_goto C (tgt := 21) rfl dX11_keepReason_17 ?_
    cases hF
    exact r_ireturn C dX11_keepReason_21
theorem dX11_daysUntilInspection_0 : decode cX11_daysUntilInspection 0 = .ok (.aload_n 0, 1) := by decide +kernel
theorem dX11_daysUntilInspection_1 : decode cX11_daysUntilInspection 1 = .ok (.iconst 0, 1) := by decide +kernel
theorem dX11_daysUntilInspection_2 : decode cX11_daysUntilInspection 2 = .ok (.putfield 58, 3) := by decide +kernel
theorem dX11_daysUntilInspection_5 : decode cX11_daysUntilInspection 5 = .ok (.aload_n 0, 1) := by decide +kernel
theorem dX11_daysUntilInspection_6 : decode cX11_daysUntilInspection 6 = .ok (.getfield 7, 3) := by decide +kernel
theorem dX11_daysUntilInspection_9 : decode cX11_daysUntilInspection 9 = .ok (.iconst 4, 1) := by decide +kernel
theorem dX11_daysUntilInspection_10 : decode cX11_daysUntilInspection 10 = .ok (.iaload, 1) := by decide +kernel
theorem dX11_daysUntilInspection_11 : decode cX11_daysUntilInspection 11 = .ok (.aload_n 0, 1) := by decide +kernel
theorem dX11_daysUntilInspection_12 : decode cX11_daysUntilInspection 12 = .ok (.getfield 7, 3) := by decide +kernel
theorem dX11_daysUntilInspection_15 : decode cX11_daysUntilInspection 15 = .ok (.bipush 6, 2) := by decide +kernel
theorem dX11_daysUntilInspection_17 : decode cX11_daysUntilInspection 17 = .ok (.iaload, 1) := by decide +kernel
theorem dX11_daysUntilInspection_18 : decode cX11_daysUntilInspection 18 = .ok (.aload_n 0, 1) := by decide +kernel
theorem dX11_daysUntilInspection_19 : decode cX11_daysUntilInspection 19 = .ok (.getfield 7, 3) := by decide +kernel
theorem dX11_daysUntilInspection_22 : decode cX11_daysUntilInspection 22 = .ok (.iconst 4, 1) := by decide +kernel
theorem dX11_daysUntilInspection_23 : decode cX11_daysUntilInspection 23 = .ok (.iaload, 1) := by decide +kernel
theorem dX11_daysUntilInspection_24 : decode cX11_daysUntilInspection 24 = .ok (.irem, 1) := by decide +kernel
theorem dX11_daysUntilInspection_25 : decode cX11_daysUntilInspection 25 = .ok (.isub, 1) := by decide +kernel
theorem dX11_daysUntilInspection_26 : decode cX11_daysUntilInspection 26 = .ok (.ireturn, 1) := by decide +kernel
def F_X11_daysUntilInspection (t : HV) : Option (Int32 × (HV)) := (lt (sS t 6 0) fun t1 => (if vpb 4 760 = true then (if vpb 6 760 = true then (if vpb 4 760 = true then (if (ag t1 0 4) = 0 then none else some (((ag t1 0 4) - ((ag t1 0 6) - (ag t1 0 6) / (ag t1 0 4) * (ag t1 0 4))), t1)) else none) else none) else none))
theorem c_X11_daysUntilInspection {w : WP} (hW : gWM w) {Ω : OM}  {t : HV} (e : Ω.2.1 = t)  {v : Int32} {t' : HV} (hF : F_X11_daysUntilInspection t = some (v, t')) {Ω' : OM} (e2 : (sM Ω t') = Ω') : gM w 0 yX11_daysUntilInspection cX11_daysUntilInspection 1 (some .int) [.ref (wAd w (11, 12, 0, 0))] (cA w Ω) (some (.int v)) (cA w Ω') := by
  refine gM_of "HedgeMessagesModel" rfl (by decide) (kR rfl) fun X C => ?_
  unfold F_X11_daysUntilInspection at hF
  subst e2
  show gV w X _ _ 0 [(0, .ref (wAd w (11, 12, 0, 0)))] []
  refine r_ct (ct' := cA w (sM Ω t)) (congrArg (cA w) (sM_i e).symm) ?_
  refine r_aload_n C (k := 0) rfl rfl dX11_daysUntilInspection_0 ?_
  refine r_iconst C (v := 0) rfl dX11_daysUntilInspection_1 ?_
  obtain ⟨t1, et1, hF⟩ := lt_e hF
  refine op_11_6 C hW.x (hW.fr k11) (show (sM Ω t).2.1 = t from rfl) wm7_73 dX11_daysUntilInspection_2 (congrArg (sM Ω) et1) ?_
  refine r_aload_n C (k := 0) rfl rfl dX11_daysUntilInspection_5 ?_
  refine og_11_0 C (hW.ok k11) wm7_67 dX11_daysUntilInspection_6 ?_
  refine r_iconst C (v := 4) rfl dX11_daysUntilInspection_9 ?_
  obtain ⟨b2, hF⟩ := gd_e hF
  refine m_ald C (hW.ok (k12 (a := 0) (by unfold okMa; decide))) (show (sM Ω t1).2.1 = t1 from rfl) rfl b2 dX11_daysUntilInspection_10 ?_
  refine r_aload_n C (k := 0) rfl rfl dX11_daysUntilInspection_11 ?_
  refine og_11_0 C (hW.ok k11) wm7_67 dX11_daysUntilInspection_12 ?_
  refine r_bipush C (v := 6) rfl dX11_daysUntilInspection_15 ?_
  obtain ⟨b3, hF⟩ := gd_e hF
  refine m_ald C (hW.ok (k12 (a := 0) (by unfold okMa; decide))) (show (sM Ω t1).2.1 = t1 from rfl) rfl b3 dX11_daysUntilInspection_17 ?_
  refine r_aload_n C (k := 0) rfl rfl dX11_daysUntilInspection_18 ?_
  refine og_11_0 C (hW.ok k11) wm7_67 dX11_daysUntilInspection_19 ?_
  refine r_iconst C (v := 4) rfl dX11_daysUntilInspection_22 ?_
  obtain ⟨b4, hF⟩ := gd_e hF
  refine m_ald C (hW.ok (k12 (a := 0) (by unfold okMa; decide))) (show (sM Ω t1).2.1 = t1 from rfl) rfl b4 dX11_daysUntilInspection_23 ?_
  obtain ⟨z5, hF⟩ := dz_e hF
  refine r_irem C z5 dX11_daysUntilInspection_24 ?_
  refine r_isub C dX11_daysUntilInspection_25 ?_
  cases hF
  exact r_ireturn C dX11_daysUntilInspection_26
theorem dX11_daysUntilPruned_0 : decode cX11_daysUntilPruned 0 = .ok (.aload_n 0, 1) := by decide +kernel
theorem dX11_daysUntilPruned_1 : decode cX11_daysUntilPruned 1 = .ok (.aload_n 0, 1) := by decide +kernel
theorem dX11_daysUntilPruned_2 : decode cX11_daysUntilPruned 2 = .ok (.iload_n 1, 1) := by decide +kernel
theorem dX11_daysUntilPruned_3 : decode cX11_daysUntilPruned 3 = .ok (.invokevirtual 73, 3) := by decide +kernel
theorem dX11_daysUntilPruned_6 : decode cX11_daysUntilPruned 6 = .ok (.invokevirtual 221, 3) := by decide +kernel
theorem dX11_daysUntilPruned_9 : decode cX11_daysUntilPruned 9 = .ok (.ifCond .ne 5, 3) := by decide +kernel
theorem dX11_daysUntilPruned_12 : decode cX11_daysUntilPruned 12 = .ok (.iconst 0, 1) := by decide +kernel
theorem dX11_daysUntilPruned_13 : decode cX11_daysUntilPruned 13 = .ok (.ireturn, 1) := by decide +kernel
theorem dX11_daysUntilPruned_14 : decode cX11_daysUntilPruned 14 = .ok (.aload_n 0, 1) := by decide +kernel
theorem dX11_daysUntilPruned_15 : decode cX11_daysUntilPruned 15 = .ok (.invokevirtual 397, 3) := by decide +kernel
theorem dX11_daysUntilPruned_18 : decode cX11_daysUntilPruned 18 = .ok (.iconst 0, 1) := by decide +kernel
theorem dX11_daysUntilPruned_19 : decode cX11_daysUntilPruned 19 = .ok (.istore_n 2, 1) := by decide +kernel
theorem dX11_daysUntilPruned_20 : decode cX11_daysUntilPruned 20 = .ok (.iload_n 2, 1) := by decide +kernel
theorem dX11_daysUntilPruned_21 : decode cX11_daysUntilPruned 21 = .ok (.bipush 60, 2) := by decide +kernel
theorem dX11_daysUntilPruned_23 : decode cX11_daysUntilPruned 23 = .ok (.if_icmp .gt 27, 3) := by decide +kernel
theorem dX11_daysUntilPruned_26 : decode cX11_daysUntilPruned 26 = .ok (.aload_n 0, 1) := by decide +kernel
theorem dX11_daysUntilPruned_27 : decode cX11_daysUntilPruned 27 = .ok (.iload_n 1, 1) := by decide +kernel
theorem dX11_daysUntilPruned_28 : decode cX11_daysUntilPruned 28 = .ok (.invokevirtual 84, 3) := by decide +kernel
theorem dX11_daysUntilPruned_31 : decode cX11_daysUntilPruned 31 = .ok (.ifCond .ne 9, 3) := by decide +kernel
theorem dX11_daysUntilPruned_34 : decode cX11_daysUntilPruned 34 = .ok (.aload_n 0, 1) := by decide +kernel
theorem dX11_daysUntilPruned_35 : decode cX11_daysUntilPruned 35 = .ok (.iload_n 2, 1) := by decide +kernel
theorem dX11_daysUntilPruned_36 : decode cX11_daysUntilPruned 36 = .ok (.invokevirtual 400, 3) := by decide +kernel
theorem dX11_daysUntilPruned_39 : decode cX11_daysUntilPruned 39 = .ok (.ireturn, 1) := by decide +kernel
theorem dX11_daysUntilPruned_40 : decode cX11_daysUntilPruned 40 = .ok (.aload_n 0, 1) := by decide +kernel
theorem dX11_daysUntilPruned_41 : decode cX11_daysUntilPruned 41 = .ok (.invokevirtual 188, 3) := by decide +kernel
theorem dX11_daysUntilPruned_44 : decode cX11_daysUntilPruned 44 = .ok (.iinc 2 1, 3) := by decide +kernel
theorem dX11_daysUntilPruned_47 : decode cX11_daysUntilPruned 47 = .ok (.goto (-27), 3) := by decide +kernel
theorem dX11_daysUntilPruned_50 : decode cX11_daysUntilPruned 50 = .ok (.aload_n 0, 1) := by decide +kernel
theorem dX11_daysUntilPruned_51 : decode cX11_daysUntilPruned 51 = .ok (.iconst (-1), 1) := by decide +kernel
theorem dX11_daysUntilPruned_52 : decode cX11_daysUntilPruned 52 = .ok (.invokevirtual 400, 3) := by decide +kernel
theorem dX11_daysUntilPruned_55 : decode cX11_daysUntilPruned 55 = .ok (.ireturn, 1) := by decide +kernel
def st_X11_daysUntilPruned_20 (N : Nat) (l1 : Int32) (l2 : Int32) (t : HV) : Option ((Int32 × HV) ⊕ (Int32 × (HV))) := (if 60 < l2 then (ob (F_X11_laidBack N (-1) t) fun v6 t7 => some (.inr (v6, t7))) else (ob1 (F_X11_hasTwig l1 t) fun v8 => (if v8 = true then (ob1 (F_X11_dayOnce N t) fun t10 => some (.inl ((l2 + 1), t10))) else (ob (F_X11_laidBack N l2 t) fun v11 t12 => some (.inr (v11, t12))))))
def F_X11_daysUntilPruned (N : Nat) (a1 : Int32) (t : HV) : Option (Int32 × (HV)) := (ob1 (F_X11_isSlot a1 t) fun v1 => (lt2 (F_X11_passes v1 t) fun v2 t3 => (if v2 = true then (ob1 (F_X11_tries N t3) fun t5 => (lpN N (fun z => st_X11_daysUntilPruned_20 N a1 z.1 z.2) (0, t5))) else some (0, t3))))
theorem lp_X11_daysUntilPruned_20 {w : WP} (hW : gWM w) {Ω : OM}   (l1 : Int32) {N : Nat} {X : CX} (C : gC w X cX11_daysUntilPruned "HedgeMessagesModel" (some .int) 10 3) {v : Int32} {t' : HV}  : ∀ (n : Nat) (l2 : Int32) (t : HV), lpN n (fun z : Int32 × HV => st_X11_daysUntilPruned_20 N l1 z.1 z.2) (l2, t) = some (v, t') → gV w X (some (.int v), cA w (sM Ω t')) (cA w (sM Ω t)) 20 [(0, .ref (wAd w (11, 12, 0, 0))), (1, .int l1), (2, .int l2)] [] := by
  intro n
  induction n with
  | zero => intro l2 t hL; exact lpN_0 hL
  | succ n ih =>
    intro l2 t hL
    obtain ⟨q9, hF, hL⟩ := lpN_e hL
    change st_X11_daysUntilPruned_20 N l1 l2 t = some q9 at hF
    unfold st_X11_daysUntilPruned_20 at hF
    refine r_iload_n C (k := 2) rfl rfl dX11_daysUntilPruned_20 ?_
    refine r_bipush C (v := 60) rfl dX11_daysUntilPruned_21 ?_
    refine r_icmp_gt C (tgt := 50) rfl dX11_daysUntilPruned_23 (fun hc => ?_) (fun hc => ?_)
    · rw [if_pos hc] at hF
      refine r_aload_n C (k := 0) rfl rfl dX11_daysUntilPruned_50 ?_
      refine r_iconst C (v := (-1)) (by decide) dX11_daysUntilPruned_51 ?_
      obtain ⟨v6, t7, ht7, hF⟩ := ob_e hF
      refine r_callV C (d' := 1) [.int (-1)] (c_X11_laidBack hW (show (sM Ω t).2.1 = t from rfl) N (-1) ht7 rfl) myX11_laidBack wm9_28 ⟨_, _, _, _, (hW.ok k11), rfl, rfl, rfl, rfl⟩ rfl (kR rfl) (by decide) (kR rfl) rfl dX11_daysUntilPruned_52 ?_
      cases hF
      change some _ = some _ at hL
      cases hL
      exact r_ireturn C dX11_daysUntilPruned_55
    · rw [if_neg hc] at hF
      refine r_aload_n C (k := 0) rfl rfl dX11_daysUntilPruned_26 ?_
      refine r_iload_n C (k := 1) rfl rfl dX11_daysUntilPruned_27 ?_
      obtain ⟨v8, hv8, hF⟩ := ob1_e hF
      refine r_callV C (d' := 1) [.int l1] (c_X11_hasTwig hW (show (sM Ω t).2.1 = t from rfl) l1 hv8) myX11_hasTwig wm6_238 ⟨_, _, _, _, (hW.ok k11), rfl, rfl, rfl, rfl⟩ rfl (kR rfl) (by decide) (kR rfl) rfl dX11_daysUntilPruned_28 ?_
      refine r_if_ne C (tgt := 40) rfl dX11_daysUntilPruned_31 (fun hc => ?_) (fun hc => ?_)
      · rw [if_pos (b2i_t hc)] at hF
        refine r_aload_n C (k := 0) rfl rfl dX11_daysUntilPruned_40 ?_
        obtain ⟨t10, ht10, hF⟩ := ob1_e hF
        refine r_callV C (d' := 9) [] (c_X11_dayOnce hW (show (sM Ω t).2.1 = t from rfl) N ht10 rfl) myX11_dayOnce wm8_57 ⟨_, _, _, _, (hW.ok k11), rfl, rfl, rfl, rfl⟩ rfl (kR rfl) (by decide) (kR rfl) rfl dX11_daysUntilPruned_41 ?_
        refine r_iinc C (k := 2) (v := (l2 + 1)) (lo' := [(2, .int (l2 + 1)), (0, .ref (wAd w (11, 12, 0, 0))), (1, .int l1)]) rfl rfl (by decide) rfl dX11_daysUntilPruned_44 ?_
        refine r_goto C (tgt := 20) rfl dX11_daysUntilPruned_47 ?_
        cases hF
        change lpN n _ _ = some _ at hL
        refine r_lo [1, 2, 0] (lo' := [(0, .ref (wAd w (11, 12, 0, 0))), (1, .int l1), (2, .int (l2 + 1))]) rfl ?_
        exact ih (l2 + 1) t10 hL
      · rw [if_neg (b2i_f hc)] at hF
        refine r_aload_n C (k := 0) rfl rfl dX11_daysUntilPruned_34 ?_
        refine r_iload_n C (k := 2) rfl rfl dX11_daysUntilPruned_35 ?_
        obtain ⟨v11, t12, ht12, hF⟩ := ob_e hF
        refine r_callV C (d' := 1) [.int l2] (c_X11_laidBack hW (show (sM Ω t).2.1 = t from rfl) N l2 ht12 rfl) myX11_laidBack wm9_28 ⟨_, _, _, _, (hW.ok k11), rfl, rfl, rfl, rfl⟩ rfl (kR rfl) (by decide) (kR rfl) rfl dX11_daysUntilPruned_36 ?_
        cases hF
        change some _ = some _ at hL
        cases hL
        exact r_ireturn C dX11_daysUntilPruned_39
theorem c_X11_daysUntilPruned {w : WP} (hW : gWM w) {Ω : OM}  {t : HV} (e : Ω.2.1 = t) (N : Nat) (a1 : Int32) {v : Int32} {t' : HV} (hF : F_X11_daysUntilPruned N a1 t = some (v, t')) {Ω' : OM} (e2 : (sM Ω t') = Ω') : gM w 10 yX11_daysUntilPruned cX11_daysUntilPruned 3 (some .int) [.ref (wAd w (11, 12, 0, 0)), .int a1] (cA w Ω) (some (.int v)) (cA w Ω') := by
  refine gM_of "HedgeMessagesModel" rfl (by decide) (kR rfl) fun X C => ?_
  unfold F_X11_daysUntilPruned at hF
  subst e2
  show gV w X _ _ 0 [(0, .ref (wAd w (11, 12, 0, 0))), (1, .int a1)] []
  refine r_ct (ct' := cA w (sM Ω t)) (congrArg (cA w) (sM_i e).symm) ?_
  refine r_aload_n C (k := 0) rfl rfl dX11_daysUntilPruned_0 ?_
  refine r_aload_n C (k := 0) rfl rfl dX11_daysUntilPruned_1 ?_
  refine r_iload_n C (k := 1) rfl rfl dX11_daysUntilPruned_2 ?_
  obtain ⟨v1, hv1, hF⟩ := ob1_e hF
  refine r_callV C (d' := 1) [.int a1] (c_X11_isSlot hW (show (sM Ω t).2.1 = t from rfl) a1 hv1) myX11_isSlot wm7_27 ⟨_, _, _, _, (hW.ok k11), rfl, rfl, rfl, rfl⟩ rfl (kR rfl) (by decide) (kR rfl) rfl dX11_daysUntilPruned_3 ?_
  obtain ⟨v2, t3, ht3, hF⟩ := lt2_e hF
  refine r_callV C (d' := 0) [.int (b2i v1)] (c_X11_passes hW (show (sM Ω t).2.1 = t from rfl) v1 ht3 rfl) myX11_passes wm7_63 ⟨_, _, _, _, (hW.ok k11), rfl, rfl, rfl, rfl⟩ rfl (kR rfl) (by decide) (kR rfl) rfl dX11_daysUntilPruned_6 ?_
  refine r_if_ne C (tgt := 14) rfl dX11_daysUntilPruned_9 (fun hc => ?_) (fun hc => ?_)
  · rw [if_pos (b2i_t hc)] at hF
    refine r_aload_n C (k := 0) rfl rfl dX11_daysUntilPruned_14 ?_
    obtain ⟨t5, ht5, hF⟩ := ob1_e hF
    refine r_callV C (d' := 1) [] (c_X11_tries hW (show (sM Ω t3).2.1 = t3 from rfl) N ht5 rfl) myX11_tries wm9_24 ⟨_, _, _, _, (hW.ok k11), rfl, rfl, rfl, rfl⟩ rfl (kR rfl) (by decide) (kR rfl) rfl dX11_daysUntilPruned_15 ?_
    refine r_iconst C (v := 0) rfl dX11_daysUntilPruned_18 ?_
    refine r_istore_n C (lo' := [(2, .int 0), (0, .ref (wAd w (11, 12, 0, 0))), (1, .int a1)]) rfl (by decide) rfl dX11_daysUntilPruned_19 ?_
    refine r_lo [1, 2, 0] (lo' := [(0, .ref (wAd w (11, 12, 0, 0))), (1, .int a1), (2, .int 0)]) rfl ?_
    exact lp_X11_daysUntilPruned_20 hW a1 C N 0 t5 hF
  · rw [if_neg (b2i_f hc)] at hF
    refine r_iconst C (v := 0) rfl dX11_daysUntilPruned_12 ?_
    cases hF
    exact r_ireturn C dX11_daysUntilPruned_13
theorem dX11_areDays_0 : decode cX11_areDays 0 = .ok (.iload_n 0, 1) := by decide +kernel
theorem dX11_areDays_1 : decode cX11_areDays 1 = .ok (.i2l, 1) := by decide +kernel
theorem dX11_areDays_2 : decode cX11_areDays 2 = .ok (.lconst 0, 1) := by decide +kernel
theorem dX11_areDays_3 : decode cX11_areDays 3 = .ok (.ldc2_w 403, 3) := by decide +kernel
theorem dX11_areDays_6 : decode cX11_areDays 6 = .ok (.invokestatic 65, 3) := by decide +kernel
theorem dX11_areDays_9 : decode cX11_areDays 9 = .ok (.ireturn, 1) := by decide +kernel
def F_X11_areDays (a0 : Int32) : Bool := (F_X11_in ((a0 : Int32).toInt64) (0 : Int64) (60 : Int64))
theorem c_X11_areDays {w : WP}  {ct : CT}  (a0 : Int32) {v : Bool} (hF : F_X11_areDays a0 = v) : gM w 1 yX11_areDays cX11_areDays 1 (some .boolean) [.int a0] (ct) (some (.int (b2i v))) (ct) := by
  refine gM_of "HedgeMessagesModel" rfl (by decide) (kR rfl) fun X C => ?_
  unfold F_X11_areDays at hF
  show gV w X _ _ 0 [(0, .int a0)] []
  refine r_iload_n C (k := 0) rfl rfl dX11_areDays_0 ?_
  refine r_i2l C (v := ((a0 : Int32).toInt64)) rfl dX11_areDays_1 ?_
  refine r_lconst C (v := 0) rfl dX11_areDays_2 ?_
  refine r_ldc2 C wm9_39 dX11_areDays_3 ?_
  refine r_callS C (d' := 0) [.long ((a0 : Int32).toInt64), .long (0 : Int64), .long (60 : Int64)] (c_X11_in ((a0 : Int32).toInt64) (0 : Int64) (60 : Int64) rfl) myX11_in wm6_208 rfl (kR rfl) (by decide) (kR rfl) rfl dX11_areDays_6 ?_
  cases hF
  exact r_zreturn C _ rfl dX11_areDays_9
theorem dX11_deliveredAfter_0 : decode cX11_deliveredAfter 0 = .ok (.aload_n 0, 1) := by decide +kernel
theorem dX11_deliveredAfter_1 : decode cX11_deliveredAfter 1 = .ok (.iload_n 1, 1) := by decide +kernel
theorem dX11_deliveredAfter_2 : decode cX11_deliveredAfter 2 = .ok (.invokestatic 385, 3) := by decide +kernel
theorem dX11_deliveredAfter_5 : decode cX11_deliveredAfter 5 = .ok (.ifCond .eq 14, 3) := by decide +kernel
theorem dX11_deliveredAfter_8 : decode cX11_deliveredAfter 8 = .ok (.iload_n 2, 1) := by decide +kernel
theorem dX11_deliveredAfter_9 : decode cX11_deliveredAfter 9 = .ok (.invokestatic 405, 3) := by decide +kernel
theorem dX11_deliveredAfter_12 : decode cX11_deliveredAfter 12 = .ok (.ifCond .eq 7, 3) := by decide +kernel
theorem dX11_deliveredAfter_15 : decode cX11_deliveredAfter 15 = .ok (.iconst 1, 1) := by decide +kernel
theorem dX11_deliveredAfter_16 : decode cX11_deliveredAfter 16 = .ok (.goto 4, 3) := by decide +kernel
theorem dX11_deliveredAfter_19 : decode cX11_deliveredAfter 19 = .ok (.iconst 0, 1) := by decide +kernel
theorem dX11_deliveredAfter_20 : decode cX11_deliveredAfter 20 = .ok (.invokevirtual 221, 3) := by decide +kernel
theorem dX11_deliveredAfter_23 : decode cX11_deliveredAfter 23 = .ok (.ifCond .ne 5, 3) := by decide +kernel
theorem dX11_deliveredAfter_26 : decode cX11_deliveredAfter 26 = .ok (.iconst 0, 1) := by decide +kernel
theorem dX11_deliveredAfter_27 : decode cX11_deliveredAfter 27 = .ok (.ireturn, 1) := by decide +kernel
theorem dX11_deliveredAfter_28 : decode cX11_deliveredAfter 28 = .ok (.aload_n 0, 1) := by decide +kernel
theorem dX11_deliveredAfter_29 : decode cX11_deliveredAfter 29 = .ok (.getfield 7, 3) := by decide +kernel
theorem dX11_deliveredAfter_32 : decode cX11_deliveredAfter 32 = .ok (.bipush 16, 2) := by decide +kernel
theorem dX11_deliveredAfter_34 : decode cX11_deliveredAfter 34 = .ok (.iload_n 1, 1) := by decide +kernel
theorem dX11_deliveredAfter_35 : decode cX11_deliveredAfter 35 = .ok (.iadd, 1) := by decide +kernel
theorem dX11_deliveredAfter_36 : decode cX11_deliveredAfter 36 = .ok (.iaload, 1) := by decide +kernel
theorem dX11_deliveredAfter_37 : decode cX11_deliveredAfter 37 = .ok (.istore_n 3, 1) := by decide +kernel
theorem dX11_deliveredAfter_38 : decode cX11_deliveredAfter 38 = .ok (.aload_n 0, 1) := by decide +kernel
theorem dX11_deliveredAfter_39 : decode cX11_deliveredAfter 39 = .ok (.invokevirtual 397, 3) := by decide +kernel
theorem dX11_deliveredAfter_42 : decode cX11_deliveredAfter 42 = .ok (.aload_n 0, 1) := by decide +kernel
theorem dX11_deliveredAfter_43 : decode cX11_deliveredAfter 43 = .ok (.iload_n 2, 1) := by decide +kernel
theorem dX11_deliveredAfter_44 : decode cX11_deliveredAfter 44 = .ok (.invokevirtual 218, 3) := by decide +kernel
theorem dX11_deliveredAfter_47 : decode cX11_deliveredAfter 47 = .ok (.aload_n 0, 1) := by decide +kernel
theorem dX11_deliveredAfter_48 : decode cX11_deliveredAfter 48 = .ok (.aload_n 0, 1) := by decide +kernel
theorem dX11_deliveredAfter_49 : decode cX11_deliveredAfter 49 = .ok (.getfield 7, 3) := by decide +kernel
theorem dX11_deliveredAfter_52 : decode cX11_deliveredAfter 52 = .ok (.bipush 16, 2) := by decide +kernel
theorem dX11_deliveredAfter_54 : decode cX11_deliveredAfter 54 = .ok (.iload_n 1, 1) := by decide +kernel
theorem dX11_deliveredAfter_55 : decode cX11_deliveredAfter 55 = .ok (.iadd, 1) := by decide +kernel
theorem dX11_deliveredAfter_56 : decode cX11_deliveredAfter 56 = .ok (.iaload, 1) := by decide +kernel
theorem dX11_deliveredAfter_57 : decode cX11_deliveredAfter 57 = .ok (.invokevirtual 400, 3) := by decide +kernel
theorem dX11_deliveredAfter_60 : decode cX11_deliveredAfter 60 = .ok (.iload_n 3, 1) := by decide +kernel
theorem dX11_deliveredAfter_61 : decode cX11_deliveredAfter 61 = .ok (.isub, 1) := by decide +kernel
theorem dX11_deliveredAfter_62 : decode cX11_deliveredAfter 62 = .ok (.ireturn, 1) := by decide +kernel
def F_X11_deliveredAfter (N : Nat) (a1 : Int32) (a2 : Int32) (t : HV) : Option (Int32 × (HV)) := (if (F_X11_isGardener a1) = true then (if (F_X11_areDays a2) = true then (lt2 (F_X11_passes true t) fun v21 t22 => (if v21 = true then (if vpb (16 + a1) 760 = true then (ob1 (F_X11_tries N t22) fun t25 => (ob1 (F_X11_goBy N a2 t25) fun t27 => (if vpb (16 + a1) 760 = true then (ob (F_X11_laidBack N (ag t27 0 (16 + a1)) t27) fun v29 t30 => some ((v29 - (ag t22 0 (16 + a1))), t30)) else none))) else none) else some (0, t22))) else (lt2 (F_X11_passes false t) fun v11 t12 => (if v11 = true then (if vpb (16 + a1) 760 = true then (ob1 (F_X11_tries N t12) fun t15 => (ob1 (F_X11_goBy N a2 t15) fun t17 => (if vpb (16 + a1) 760 = true then (ob (F_X11_laidBack N (ag t17 0 (16 + a1)) t17) fun v19 t20 => some ((v19 - (ag t12 0 (16 + a1))), t20)) else none))) else none) else some (0, t12)))) else (lt2 (F_X11_passes false t) fun v1 t2 => (if v1 = true then (if vpb (16 + a1) 760 = true then (ob1 (F_X11_tries N t2) fun t5 => (ob1 (F_X11_goBy N a2 t5) fun t7 => (if vpb (16 + a1) 760 = true then (ob (F_X11_laidBack N (ag t7 0 (16 + a1)) t7) fun v9 t10 => some ((v9 - (ag t2 0 (16 + a1))), t10)) else none))) else none) else some (0, t2))))
theorem c_X11_deliveredAfter {w : WP} (hW : gWM w) {Ω : OM}  {t : HV} (e : Ω.2.1 = t) (N : Nat) (a1 : Int32) (a2 : Int32) {v : Int32} {t' : HV} (hF : F_X11_deliveredAfter N a1 a2 t = some (v, t')) {Ω' : OM} (e2 : (sM Ω t') = Ω') : gM w 11 yX11_deliveredAfter cX11_deliveredAfter 4 (some .int) [.ref (wAd w (11, 12, 0, 0)), .int a1, .int a2] (cA w Ω) (some (.int v)) (cA w Ω') := by
  refine gM_of "HedgeMessagesModel" rfl (by decide) (kR rfl) fun X C => ?_
  unfold F_X11_deliveredAfter at hF
  subst e2
  show gV w X _ _ 0 [(0, .ref (wAd w (11, 12, 0, 0))), (1, .int a1), (2, .int a2)] []
  refine r_ct (ct' := cA w (sM Ω t)) (congrArg (cA w) (sM_i e).symm) ?_
  refine r_aload_n C (k := 0) rfl rfl dX11_deliveredAfter_0 ?_
  refine r_iload_n C (k := 1) rfl rfl dX11_deliveredAfter_1 ?_
  refine r_callS C (d' := 1) [.int a1] (c_X11_isGardener a1 rfl) myX11_isGardener wm8_193 rfl (kR rfl) (by decide) (kR rfl) rfl dX11_deliveredAfter_2 ?_
  refine r_if_eq C (tgt := 19) rfl dX11_deliveredAfter_5 (fun hc => ?_) (fun hc => ?_)
  · rw [if_neg (b2i_f hc)] at hF
    refine r_iconst C (v := 0) rfl dX11_deliveredAfter_19 ?_
    obtain ⟨v1, t2, ht2, hF⟩ := lt2_e hF
    refine r_callV C (d' := 0) [.int (b2i false)] (c_X11_passes hW (show (sM Ω t).2.1 = t from rfl) false ht2 rfl) myX11_passes wm7_63 ⟨_, _, _, _, (hW.ok k11), rfl, rfl, rfl, rfl⟩ rfl (kR rfl) (by decide) (kR rfl) rfl dX11_deliveredAfter_20 ?_
    refine r_if_ne C (tgt := 28) rfl dX11_deliveredAfter_23 (fun hc => ?_) (fun hc => ?_)
    · rw [if_pos (b2i_t hc)] at hF
      refine r_aload_n C (k := 0) rfl rfl dX11_deliveredAfter_28 ?_
      refine og_11_0 C (hW.ok k11) wm7_67 dX11_deliveredAfter_29 ?_
      refine r_bipush C (v := 16) rfl dX11_deliveredAfter_32 ?_
      refine r_iload_n C (k := 1) rfl rfl dX11_deliveredAfter_34 ?_
      refine r_iadd C dX11_deliveredAfter_35 ?_
      obtain ⟨b3, hF⟩ := gd_e hF
      refine m_ald C (hW.ok (k12 (a := 0) (by unfold okMa; decide))) (show (sM Ω t2).2.1 = t2 from rfl) rfl b3 dX11_deliveredAfter_36 ?_
      refine r_istore_n C (lo' := [(3, .int (ag t2 0 (16 + a1))), (0, .ref (wAd w (11, 12, 0, 0))), (1, .int a1), (2, .int a2)]) rfl (by decide) rfl dX11_deliveredAfter_37 ?_
      refine r_aload_n C (k := 1) rfl rfl dX11_deliveredAfter_38 ?_
      obtain ⟨t5, ht5, hF⟩ := ob1_e hF
      refine r_callV C (d' := 1) [] (c_X11_tries hW (show (sM Ω t2).2.1 = t2 from rfl) N ht5 rfl) myX11_tries wm9_24 ⟨_, _, _, _, (hW.ok k11), rfl, rfl, rfl, rfl⟩ rfl (kR rfl) (by decide) (kR rfl) rfl dX11_deliveredAfter_39 ?_
      refine r_aload_n C (k := 1) rfl rfl dX11_deliveredAfter_42 ?_
      refine r_iload_n C (k := 3) rfl rfl dX11_deliveredAfter_43 ?_
      obtain ⟨t7, ht7, hF⟩ := ob1_e hF
      refine r_callV C (d' := 10) [.int a2] (c_X11_goBy hW (show (sM Ω t5).2.1 = t5 from rfl) N a2 ht7 rfl) myX11_goBy wm8_53 ⟨_, _, _, _, (hW.ok k11), rfl, rfl, rfl, rfl⟩ rfl (kR rfl) (by decide) (kR rfl) rfl dX11_deliveredAfter_44 ?_
      refine r_aload_n C (k := 1) rfl rfl dX11_deliveredAfter_47 ?_
      refine r_aload_n C (k := 1) rfl rfl dX11_deliveredAfter_48 ?_
      refine og_11_0 C (hW.ok k11) wm7_67 dX11_deliveredAfter_49 ?_
      refine r_bipush C (v := 16) rfl dX11_deliveredAfter_52 ?_
      refine r_iload_n C (k := 2) rfl rfl dX11_deliveredAfter_54 ?_
      refine r_iadd C dX11_deliveredAfter_55 ?_
      obtain ⟨b8, hF⟩ := gd_e hF
      refine m_ald C (hW.ok (k12 (a := 0) (by unfold okMa; decide))) (show (sM Ω t7).2.1 = t7 from rfl) rfl b8 dX11_deliveredAfter_56 ?_
      obtain ⟨v9, t10, ht10, hF⟩ := ob_e hF
      refine r_callV C (d' := 1) [.int (ag t7 0 (16 + a1))] (c_X11_laidBack hW (show (sM Ω t7).2.1 = t7 from rfl) N (ag t7 0 (16 + a1)) ht10 rfl) myX11_laidBack wm9_28 ⟨_, _, _, _, (hW.ok k11), rfl, rfl, rfl, rfl⟩ rfl (kR rfl) (by decide) (kR rfl) rfl dX11_deliveredAfter_57 ?_
      refine r_iload_n C (k := 0) rfl rfl dX11_deliveredAfter_60 ?_
      refine r_isub C dX11_deliveredAfter_61 ?_
      cases hF
      exact r_ireturn C dX11_deliveredAfter_62
    · rw [if_neg (b2i_f hc)] at hF
      refine r_iconst C (v := 0) rfl dX11_deliveredAfter_26 ?_
      cases hF
      exact r_ireturn C dX11_deliveredAfter_27
  · rw [if_pos (b2i_t hc)] at hF
    refine r_iload_n C (k := 2) rfl rfl dX11_deliveredAfter_8 ?_
    refine r_callS C (d' := 1) [.int a2] (c_X11_areDays a2 rfl) myX11_areDays wm9_36 rfl (kR rfl) (by decide) (kR rfl) rfl dX11_deliveredAfter_9 ?_
    refine r_if_eq C (tgt := 19) rfl dX11_deliveredAfter_12 (fun hc => ?_) (fun hc => ?_)
    · rw [if_neg (b2i_f hc)] at hF
      refine r_iconst C (v := 0) rfl dX11_deliveredAfter_19 ?_
      obtain ⟨v11, t12, ht12, hF⟩ := lt2_e hF
      refine r_callV C (d' := 0) [.int (b2i false)] (c_X11_passes hW (show (sM Ω t).2.1 = t from rfl) false ht12 rfl) myX11_passes wm7_63 ⟨_, _, _, _, (hW.ok k11), rfl, rfl, rfl, rfl⟩ rfl (kR rfl) (by decide) (kR rfl) rfl dX11_deliveredAfter_20 ?_
      refine r_if_ne C (tgt := 28) rfl dX11_deliveredAfter_23 (fun hc => ?_) (fun hc => ?_)
      · rw [if_pos (b2i_t hc)] at hF
        refine r_aload_n C (k := 0) rfl rfl dX11_deliveredAfter_28 ?_
        refine og_11_0 C (hW.ok k11) wm7_67 dX11_deliveredAfter_29 ?_
        refine r_bipush C (v := 16) rfl dX11_deliveredAfter_32 ?_
        refine r_iload_n C (k := 1) rfl rfl dX11_deliveredAfter_34 ?_
        refine r_iadd C dX11_deliveredAfter_35 ?_
        obtain ⟨b13, hF⟩ := gd_e hF
        refine m_ald C (hW.ok (k12 (a := 0) (by unfold okMa; decide))) (show (sM Ω t12).2.1 = t12 from rfl) rfl b13 dX11_deliveredAfter_36 ?_
        refine r_istore_n C (lo' := [(3, .int (ag t12 0 (16 + a1))), (0, .ref (wAd w (11, 12, 0, 0))), (1, .int a1), (2, .int a2)]) rfl (by decide) rfl dX11_deliveredAfter_37 ?_
        refine r_aload_n C (k := 1) rfl rfl dX11_deliveredAfter_38 ?_
        obtain ⟨t15, ht15, hF⟩ := ob1_e hF
        refine r_callV C (d' := 1) [] (c_X11_tries hW (show (sM Ω t12).2.1 = t12 from rfl) N ht15 rfl) myX11_tries wm9_24 ⟨_, _, _, _, (hW.ok k11), rfl, rfl, rfl, rfl⟩ rfl (kR rfl) (by decide) (kR rfl) rfl dX11_deliveredAfter_39 ?_
        refine r_aload_n C (k := 1) rfl rfl dX11_deliveredAfter_42 ?_
        refine r_iload_n C (k := 3) rfl rfl dX11_deliveredAfter_43 ?_
        obtain ⟨t17, ht17, hF⟩ := ob1_e hF
        refine r_callV C (d' := 10) [.int a2] (c_X11_goBy hW (show (sM Ω t15).2.1 = t15 from rfl) N a2 ht17 rfl) myX11_goBy wm8_53 ⟨_, _, _, _, (hW.ok k11), rfl, rfl, rfl, rfl⟩ rfl (kR rfl) (by decide) (kR rfl) rfl dX11_deliveredAfter_44 ?_
        refine r_aload_n C (k := 1) rfl rfl dX11_deliveredAfter_47 ?_
        refine r_aload_n C (k := 1) rfl rfl dX11_deliveredAfter_48 ?_
        refine og_11_0 C (hW.ok k11) wm7_67 dX11_deliveredAfter_49 ?_
        refine r_bipush C (v := 16) rfl dX11_deliveredAfter_52 ?_
        refine r_iload_n C (k := 2) rfl rfl dX11_deliveredAfter_54 ?_
        refine r_iadd C dX11_deliveredAfter_55 ?_
        obtain ⟨b18, hF⟩ := gd_e hF
        refine m_ald C (hW.ok (k12 (a := 0) (by unfold okMa; decide))) (show (sM Ω t17).2.1 = t17 from rfl) rfl b18 dX11_deliveredAfter_56 ?_
        obtain ⟨v19, t20, ht20, hF⟩ := ob_e hF
        refine r_callV C (d' := 1) [.int (ag t17 0 (16 + a1))] (c_X11_laidBack hW (show (sM Ω t17).2.1 = t17 from rfl) N (ag t17 0 (16 + a1)) ht20 rfl) myX11_laidBack wm9_28 ⟨_, _, _, _, (hW.ok k11), rfl, rfl, rfl, rfl⟩ rfl (kR rfl) (by decide) (kR rfl) rfl dX11_deliveredAfter_57 ?_
        refine r_iload_n C (k := 0) rfl rfl dX11_deliveredAfter_60 ?_
        refine r_isub C dX11_deliveredAfter_61 ?_
        cases hF
        exact r_ireturn C dX11_deliveredAfter_62
      · rw [if_neg (b2i_f hc)] at hF
        refine r_iconst C (v := 0) rfl dX11_deliveredAfter_26 ?_
        cases hF
        exact r_ireturn C dX11_deliveredAfter_27
    · rw [if_pos (b2i_t hc)] at hF
      refine r_iconst C (v := 1) rfl dX11_deliveredAfter_15 ?_
      refine r_goto C (tgt := 20) rfl dX11_deliveredAfter_16 ?_
      obtain ⟨v21, t22, ht22, hF⟩ := lt2_e hF
      refine r_callV C (d' := 0) [.int (b2i true)] (c_X11_passes hW (show (sM Ω t).2.1 = t from rfl) true ht22 rfl) myX11_passes wm7_63 ⟨_, _, _, _, (hW.ok k11), rfl, rfl, rfl, rfl⟩ rfl (kR rfl) (by decide) (kR rfl) rfl dX11_deliveredAfter_20 ?_
      refine r_if_ne C (tgt := 28) rfl dX11_deliveredAfter_23 (fun hc => ?_) (fun hc => ?_)
      · rw [if_pos (b2i_t hc)] at hF
        refine r_aload_n C (k := 0) rfl rfl dX11_deliveredAfter_28 ?_
        refine og_11_0 C (hW.ok k11) wm7_67 dX11_deliveredAfter_29 ?_
        refine r_bipush C (v := 16) rfl dX11_deliveredAfter_32 ?_
        refine r_iload_n C (k := 1) rfl rfl dX11_deliveredAfter_34 ?_
        refine r_iadd C dX11_deliveredAfter_35 ?_
        obtain ⟨b23, hF⟩ := gd_e hF
        refine m_ald C (hW.ok (k12 (a := 0) (by unfold okMa; decide))) (show (sM Ω t22).2.1 = t22 from rfl) rfl b23 dX11_deliveredAfter_36 ?_
        refine r_istore_n C (lo' := [(3, .int (ag t22 0 (16 + a1))), (0, .ref (wAd w (11, 12, 0, 0))), (1, .int a1), (2, .int a2)]) rfl (by decide) rfl dX11_deliveredAfter_37 ?_
        refine r_aload_n C (k := 1) rfl rfl dX11_deliveredAfter_38 ?_
        obtain ⟨t25, ht25, hF⟩ := ob1_e hF
        refine r_callV C (d' := 1) [] (c_X11_tries hW (show (sM Ω t22).2.1 = t22 from rfl) N ht25 rfl) myX11_tries wm9_24 ⟨_, _, _, _, (hW.ok k11), rfl, rfl, rfl, rfl⟩ rfl (kR rfl) (by decide) (kR rfl) rfl dX11_deliveredAfter_39 ?_
        refine r_aload_n C (k := 1) rfl rfl dX11_deliveredAfter_42 ?_
        refine r_iload_n C (k := 3) rfl rfl dX11_deliveredAfter_43 ?_
        obtain ⟨t27, ht27, hF⟩ := ob1_e hF
        refine r_callV C (d' := 10) [.int a2] (c_X11_goBy hW (show (sM Ω t25).2.1 = t25 from rfl) N a2 ht27 rfl) myX11_goBy wm8_53 ⟨_, _, _, _, (hW.ok k11), rfl, rfl, rfl, rfl⟩ rfl (kR rfl) (by decide) (kR rfl) rfl dX11_deliveredAfter_44 ?_
        refine r_aload_n C (k := 1) rfl rfl dX11_deliveredAfter_47 ?_
        refine r_aload_n C (k := 1) rfl rfl dX11_deliveredAfter_48 ?_
        refine og_11_0 C (hW.ok k11) wm7_67 dX11_deliveredAfter_49 ?_
        refine r_bipush C (v := 16) rfl dX11_deliveredAfter_52 ?_
        refine r_iload_n C (k := 2) rfl rfl dX11_deliveredAfter_54 ?_
        refine r_iadd C dX11_deliveredAfter_55 ?_
        obtain ⟨b28, hF⟩ := gd_e hF
        refine m_ald C (hW.ok (k12 (a := 0) (by unfold okMa; decide))) (show (sM Ω t27).2.1 = t27 from rfl) rfl b28 dX11_deliveredAfter_56 ?_
        obtain ⟨v29, t30, ht30, hF⟩ := ob_e hF
        refine r_callV C (d' := 1) [.int (ag t27 0 (16 + a1))] (c_X11_laidBack hW (show (sM Ω t27).2.1 = t27 from rfl) N (ag t27 0 (16 + a1)) ht30 rfl) myX11_laidBack wm9_28 ⟨_, _, _, _, (hW.ok k11), rfl, rfl, rfl, rfl⟩ rfl (kR rfl) (by decide) (kR rfl) rfl dX11_deliveredAfter_57 ?_
        refine r_iload_n C (k := 0) rfl rfl dX11_deliveredAfter_60 ?_
        refine r_isub C dX11_deliveredAfter_61 ?_
        cases hF
        exact r_ireturn C dX11_deliveredAfter_62
      · rw [if_neg (b2i_f hc)] at hF
        refine r_iconst C (v := 0) rfl dX11_deliveredAfter_26 ?_
        cases hF
        exact r_ireturn C dX11_deliveredAfter_27
theorem dX11_pendingAfter_0 : decode cX11_pendingAfter 0 = .ok (.aload_n 0, 1) := by decide +kernel
theorem dX11_pendingAfter_1 : decode cX11_pendingAfter 1 = .ok (.iload_n 1, 1) := by decide +kernel
theorem dX11_pendingAfter_2 : decode cX11_pendingAfter 2 = .ok (.invokestatic 385, 3) := by decide +kernel
theorem dX11_pendingAfter_5 : decode cX11_pendingAfter 5 = .ok (.ifCond .eq 14, 3) := by decide +kernel
theorem dX11_pendingAfter_8 : decode cX11_pendingAfter 8 = .ok (.iload_n 2, 1) := by decide +kernel
theorem dX11_pendingAfter_9 : decode cX11_pendingAfter 9 = .ok (.invokestatic 405, 3) := by decide +kernel
theorem dX11_pendingAfter_12 : decode cX11_pendingAfter 12 = .ok (.ifCond .eq 7, 3) := by decide +kernel
theorem dX11_pendingAfter_15 : decode cX11_pendingAfter 15 = .ok (.iconst 1, 1) := by decide +kernel
theorem dX11_pendingAfter_16 : decode cX11_pendingAfter 16 = .ok (.goto 4, 3) := by decide +kernel
theorem dX11_pendingAfter_19 : decode cX11_pendingAfter 19 = .ok (.iconst 0, 1) := by decide +kernel
theorem dX11_pendingAfter_20 : decode cX11_pendingAfter 20 = .ok (.invokevirtual 221, 3) := by decide +kernel
theorem dX11_pendingAfter_23 : decode cX11_pendingAfter 23 = .ok (.ifCond .ne 5, 3) := by decide +kernel
theorem dX11_pendingAfter_26 : decode cX11_pendingAfter 26 = .ok (.iconst 0, 1) := by decide +kernel
theorem dX11_pendingAfter_27 : decode cX11_pendingAfter 27 = .ok (.ireturn, 1) := by decide +kernel
theorem dX11_pendingAfter_28 : decode cX11_pendingAfter 28 = .ok (.aload_n 0, 1) := by decide +kernel
theorem dX11_pendingAfter_29 : decode cX11_pendingAfter 29 = .ok (.invokevirtual 397, 3) := by decide +kernel
theorem dX11_pendingAfter_32 : decode cX11_pendingAfter 32 = .ok (.aload_n 0, 1) := by decide +kernel
theorem dX11_pendingAfter_33 : decode cX11_pendingAfter 33 = .ok (.iload_n 2, 1) := by decide +kernel
theorem dX11_pendingAfter_34 : decode cX11_pendingAfter 34 = .ok (.invokevirtual 218, 3) := by decide +kernel
theorem dX11_pendingAfter_37 : decode cX11_pendingAfter 37 = .ok (.aload_n 0, 1) := by decide +kernel
theorem dX11_pendingAfter_38 : decode cX11_pendingAfter 38 = .ok (.aload_n 0, 1) := by decide +kernel
theorem dX11_pendingAfter_39 : decode cX11_pendingAfter 39 = .ok (.getfield 7, 3) := by decide +kernel
theorem dX11_pendingAfter_42 : decode cX11_pendingAfter 42 = .ok (.bipush 12, 2) := by decide +kernel
theorem dX11_pendingAfter_44 : decode cX11_pendingAfter 44 = .ok (.iload_n 1, 1) := by decide +kernel
theorem dX11_pendingAfter_45 : decode cX11_pendingAfter 45 = .ok (.iadd, 1) := by decide +kernel
theorem dX11_pendingAfter_46 : decode cX11_pendingAfter 46 = .ok (.iaload, 1) := by decide +kernel
theorem dX11_pendingAfter_47 : decode cX11_pendingAfter 47 = .ok (.invokevirtual 400, 3) := by decide +kernel
theorem dX11_pendingAfter_50 : decode cX11_pendingAfter 50 = .ok (.ireturn, 1) := by decide +kernel
def F_X11_pendingAfter (N : Nat) (a1 : Int32) (a2 : Int32) (t : HV) : Option (Int32 × (HV)) := (if (F_X11_isGardener a1) = true then (if (F_X11_areDays a2) = true then (lt2 (F_X11_passes true t) fun v19 t20 => (if v19 = true then (ob1 (F_X11_tries N t20) fun t22 => (ob1 (F_X11_goBy N a2 t22) fun t24 => (if vpb (12 + a1) 760 = true then (ob (F_X11_laidBack N (ag t24 0 (12 + a1)) t24) fun v26 t27 => some (v26, t27)) else none))) else some (0, t20))) else (lt2 (F_X11_passes false t) fun v10 t11 => (if v10 = true then (ob1 (F_X11_tries N t11) fun t13 => (ob1 (F_X11_goBy N a2 t13) fun t15 => (if vpb (12 + a1) 760 = true then (ob (F_X11_laidBack N (ag t15 0 (12 + a1)) t15) fun v17 t18 => some (v17, t18)) else none))) else some (0, t11)))) else (lt2 (F_X11_passes false t) fun v1 t2 => (if v1 = true then (ob1 (F_X11_tries N t2) fun t4 => (ob1 (F_X11_goBy N a2 t4) fun t6 => (if vpb (12 + a1) 760 = true then (ob (F_X11_laidBack N (ag t6 0 (12 + a1)) t6) fun v8 t9 => some (v8, t9)) else none))) else some (0, t2))))
theorem c_X11_pendingAfter {w : WP} (hW : gWM w) {Ω : OM}  {t : HV} (e : Ω.2.1 = t) (N : Nat) (a1 : Int32) (a2 : Int32) {v : Int32} {t' : HV} (hF : F_X11_pendingAfter N a1 a2 t = some (v, t')) {Ω' : OM} (e2 : (sM Ω t') = Ω') : gM w 11 yX11_pendingAfter cX11_pendingAfter 3 (some .int) [.ref (wAd w (11, 12, 0, 0)), .int a1, .int a2] (cA w Ω) (some (.int v)) (cA w Ω') := by
  refine gM_of "HedgeMessagesModel" rfl (by decide) (kR rfl) fun X C => ?_
  unfold F_X11_pendingAfter at hF
  subst e2
  show gV w X _ _ 0 [(0, .ref (wAd w (11, 12, 0, 0))), (1, .int a1), (2, .int a2)] []
  refine r_ct (ct' := cA w (sM Ω t)) (congrArg (cA w) (sM_i e).symm) ?_
  refine r_aload_n C (k := 0) rfl rfl dX11_pendingAfter_0 ?_
  refine r_iload_n C (k := 1) rfl rfl dX11_pendingAfter_1 ?_
  refine r_callS C (d' := 1) [.int a1] (c_X11_isGardener a1 rfl) myX11_isGardener wm8_193 rfl (kR rfl) (by decide) (kR rfl) rfl dX11_pendingAfter_2 ?_
  refine r_if_eq C (tgt := 19) rfl dX11_pendingAfter_5 (fun hc => ?_) (fun hc => ?_)
  · rw [if_neg (b2i_f hc)] at hF
    refine r_iconst C (v := 0) rfl dX11_pendingAfter_19 ?_
    obtain ⟨v1, t2, ht2, hF⟩ := lt2_e hF
    refine r_callV C (d' := 0) [.int (b2i false)] (c_X11_passes hW (show (sM Ω t).2.1 = t from rfl) false ht2 rfl) myX11_passes wm7_63 ⟨_, _, _, _, (hW.ok k11), rfl, rfl, rfl, rfl⟩ rfl (kR rfl) (by decide) (kR rfl) rfl dX11_pendingAfter_20 ?_
    refine r_if_ne C (tgt := 28) rfl dX11_pendingAfter_23 (fun hc => ?_) (fun hc => ?_)
    · rw [if_pos (b2i_t hc)] at hF
      refine r_aload_n C (k := 0) rfl rfl dX11_pendingAfter_28 ?_
      obtain ⟨t4, ht4, hF⟩ := ob1_e hF
      refine r_callV C (d' := 1) [] (c_X11_tries hW (show (sM Ω t2).2.1 = t2 from rfl) N ht4 rfl) myX11_tries wm9_24 ⟨_, _, _, _, (hW.ok k11), rfl, rfl, rfl, rfl⟩ rfl (kR rfl) (by decide) (kR rfl) rfl dX11_pendingAfter_29 ?_
      refine r_aload_n C (k := 0) rfl rfl dX11_pendingAfter_32 ?_
      refine r_iload_n C (k := 2) rfl rfl dX11_pendingAfter_33 ?_
      obtain ⟨t6, ht6, hF⟩ := ob1_e hF
      refine r_callV C (d' := 10) [.int a2] (c_X11_goBy hW (show (sM Ω t4).2.1 = t4 from rfl) N a2 ht6 rfl) myX11_goBy wm8_53 ⟨_, _, _, _, (hW.ok k11), rfl, rfl, rfl, rfl⟩ rfl (kR rfl) (by decide) (kR rfl) rfl dX11_pendingAfter_34 ?_
      refine r_aload_n C (k := 0) rfl rfl dX11_pendingAfter_37 ?_
      refine r_aload_n C (k := 0) rfl rfl dX11_pendingAfter_38 ?_
      refine og_11_0 C (hW.ok k11) wm7_67 dX11_pendingAfter_39 ?_
      refine r_bipush C (v := 12) rfl dX11_pendingAfter_42 ?_
      refine r_iload_n C (k := 1) rfl rfl dX11_pendingAfter_44 ?_
      refine r_iadd C dX11_pendingAfter_45 ?_
      obtain ⟨b7, hF⟩ := gd_e hF
      refine m_ald C (hW.ok (k12 (a := 0) (by unfold okMa; decide))) (show (sM Ω t6).2.1 = t6 from rfl) rfl b7 dX11_pendingAfter_46 ?_
      obtain ⟨v8, t9, ht9, hF⟩ := ob_e hF
      refine r_callV C (d' := 1) [.int (ag t6 0 (12 + a1))] (c_X11_laidBack hW (show (sM Ω t6).2.1 = t6 from rfl) N (ag t6 0 (12 + a1)) ht9 rfl) myX11_laidBack wm9_28 ⟨_, _, _, _, (hW.ok k11), rfl, rfl, rfl, rfl⟩ rfl (kR rfl) (by decide) (kR rfl) rfl dX11_pendingAfter_47 ?_
      cases hF
      exact r_ireturn C dX11_pendingAfter_50
    · rw [if_neg (b2i_f hc)] at hF
      refine r_iconst C (v := 0) rfl dX11_pendingAfter_26 ?_
      cases hF
      exact r_ireturn C dX11_pendingAfter_27
  · rw [if_pos (b2i_t hc)] at hF
    refine r_iload_n C (k := 2) rfl rfl dX11_pendingAfter_8 ?_
    refine r_callS C (d' := 1) [.int a2] (c_X11_areDays a2 rfl) myX11_areDays wm9_36 rfl (kR rfl) (by decide) (kR rfl) rfl dX11_pendingAfter_9 ?_
    refine r_if_eq C (tgt := 19) rfl dX11_pendingAfter_12 (fun hc => ?_) (fun hc => ?_)
    · rw [if_neg (b2i_f hc)] at hF
      refine r_iconst C (v := 0) rfl dX11_pendingAfter_19 ?_
      obtain ⟨v10, t11, ht11, hF⟩ := lt2_e hF
      refine r_callV C (d' := 0) [.int (b2i false)] (c_X11_passes hW (show (sM Ω t).2.1 = t from rfl) false ht11 rfl) myX11_passes wm7_63 ⟨_, _, _, _, (hW.ok k11), rfl, rfl, rfl, rfl⟩ rfl (kR rfl) (by decide) (kR rfl) rfl dX11_pendingAfter_20 ?_
      refine r_if_ne C (tgt := 28) rfl dX11_pendingAfter_23 (fun hc => ?_) (fun hc => ?_)
      · rw [if_pos (b2i_t hc)] at hF
        refine r_aload_n C (k := 0) rfl rfl dX11_pendingAfter_28 ?_
        obtain ⟨t13, ht13, hF⟩ := ob1_e hF
        refine r_callV C (d' := 1) [] (c_X11_tries hW (show (sM Ω t11).2.1 = t11 from rfl) N ht13 rfl) myX11_tries wm9_24 ⟨_, _, _, _, (hW.ok k11), rfl, rfl, rfl, rfl⟩ rfl (kR rfl) (by decide) (kR rfl) rfl dX11_pendingAfter_29 ?_
        refine r_aload_n C (k := 0) rfl rfl dX11_pendingAfter_32 ?_
        refine r_iload_n C (k := 2) rfl rfl dX11_pendingAfter_33 ?_
        obtain ⟨t15, ht15, hF⟩ := ob1_e hF
        refine r_callV C (d' := 10) [.int a2] (c_X11_goBy hW (show (sM Ω t13).2.1 = t13 from rfl) N a2 ht15 rfl) myX11_goBy wm8_53 ⟨_, _, _, _, (hW.ok k11), rfl, rfl, rfl, rfl⟩ rfl (kR rfl) (by decide) (kR rfl) rfl dX11_pendingAfter_34 ?_
        refine r_aload_n C (k := 0) rfl rfl dX11_pendingAfter_37 ?_
        refine r_aload_n C (k := 0) rfl rfl dX11_pendingAfter_38 ?_
        refine og_11_0 C (hW.ok k11) wm7_67 dX11_pendingAfter_39 ?_
        refine r_bipush C (v := 12) rfl dX11_pendingAfter_42 ?_
        refine r_iload_n C (k := 1) rfl rfl dX11_pendingAfter_44 ?_
        refine r_iadd C dX11_pendingAfter_45 ?_
        obtain ⟨b16, hF⟩ := gd_e hF
        refine m_ald C (hW.ok (k12 (a := 0) (by unfold okMa; decide))) (show (sM Ω t15).2.1 = t15 from rfl) rfl b16 dX11_pendingAfter_46 ?_
        obtain ⟨v17, t18, ht18, hF⟩ := ob_e hF
        refine r_callV C (d' := 1) [.int (ag t15 0 (12 + a1))] (c_X11_laidBack hW (show (sM Ω t15).2.1 = t15 from rfl) N (ag t15 0 (12 + a1)) ht18 rfl) myX11_laidBack wm9_28 ⟨_, _, _, _, (hW.ok k11), rfl, rfl, rfl, rfl⟩ rfl (kR rfl) (by decide) (kR rfl) rfl dX11_pendingAfter_47 ?_
        cases hF
        exact r_ireturn C dX11_pendingAfter_50
      · rw [if_neg (b2i_f hc)] at hF
        refine r_iconst C (v := 0) rfl dX11_pendingAfter_26 ?_
        cases hF
        exact r_ireturn C dX11_pendingAfter_27
    · rw [if_pos (b2i_t hc)] at hF
      refine r_iconst C (v := 1) rfl dX11_pendingAfter_15 ?_
      refine r_goto C (tgt := 20) rfl dX11_pendingAfter_16 ?_
      obtain ⟨v19, t20, ht20, hF⟩ := lt2_e hF
      refine r_callV C (d' := 0) [.int (b2i true)] (c_X11_passes hW (show (sM Ω t).2.1 = t from rfl) true ht20 rfl) myX11_passes wm7_63 ⟨_, _, _, _, (hW.ok k11), rfl, rfl, rfl, rfl⟩ rfl (kR rfl) (by decide) (kR rfl) rfl dX11_pendingAfter_20 ?_
      refine r_if_ne C (tgt := 28) rfl dX11_pendingAfter_23 (fun hc => ?_) (fun hc => ?_)
      · rw [if_pos (b2i_t hc)] at hF
        refine r_aload_n C (k := 0) rfl rfl dX11_pendingAfter_28 ?_
        obtain ⟨t22, ht22, hF⟩ := ob1_e hF
        refine r_callV C (d' := 1) [] (c_X11_tries hW (show (sM Ω t20).2.1 = t20 from rfl) N ht22 rfl) myX11_tries wm9_24 ⟨_, _, _, _, (hW.ok k11), rfl, rfl, rfl, rfl⟩ rfl (kR rfl) (by decide) (kR rfl) rfl dX11_pendingAfter_29 ?_
        refine r_aload_n C (k := 0) rfl rfl dX11_pendingAfter_32 ?_
        refine r_iload_n C (k := 2) rfl rfl dX11_pendingAfter_33 ?_
        obtain ⟨t24, ht24, hF⟩ := ob1_e hF
        refine r_callV C (d' := 10) [.int a2] (c_X11_goBy hW (show (sM Ω t22).2.1 = t22 from rfl) N a2 ht24 rfl) myX11_goBy wm8_53 ⟨_, _, _, _, (hW.ok k11), rfl, rfl, rfl, rfl⟩ rfl (kR rfl) (by decide) (kR rfl) rfl dX11_pendingAfter_34 ?_
        refine r_aload_n C (k := 0) rfl rfl dX11_pendingAfter_37 ?_
        refine r_aload_n C (k := 0) rfl rfl dX11_pendingAfter_38 ?_
        refine og_11_0 C (hW.ok k11) wm7_67 dX11_pendingAfter_39 ?_
        refine r_bipush C (v := 12) rfl dX11_pendingAfter_42 ?_
        refine r_iload_n C (k := 1) rfl rfl dX11_pendingAfter_44 ?_
        refine r_iadd C dX11_pendingAfter_45 ?_
        obtain ⟨b25, hF⟩ := gd_e hF
        refine m_ald C (hW.ok (k12 (a := 0) (by unfold okMa; decide))) (show (sM Ω t24).2.1 = t24 from rfl) rfl b25 dX11_pendingAfter_46 ?_
        obtain ⟨v26, t27, ht27, hF⟩ := ob_e hF
        refine r_callV C (d' := 1) [.int (ag t24 0 (12 + a1))] (c_X11_laidBack hW (show (sM Ω t24).2.1 = t24 from rfl) N (ag t24 0 (12 + a1)) ht27 rfl) myX11_laidBack wm9_28 ⟨_, _, _, _, (hW.ok k11), rfl, rfl, rfl, rfl⟩ rfl (kR rfl) (by decide) (kR rfl) rfl dX11_pendingAfter_47 ?_
        cases hF
        exact r_ireturn C dX11_pendingAfter_50
      · rw [if_neg (b2i_f hc)] at hF
        refine r_iconst C (v := 0) rfl dX11_pendingAfter_26 ?_
        cases hF
        exact r_ireturn C dX11_pendingAfter_27
theorem dX11_savedBy_0 : decode cX11_savedBy 0 = .ok (.iconst 0, 1) := by decide +kernel
theorem dX11_savedBy_1 : decode cX11_savedBy 1 = .ok (.istore_n 2, 1) := by decide +kernel
theorem dX11_savedBy_2 : decode cX11_savedBy 2 = .ok (.iload_n 1, 1) := by decide +kernel
theorem dX11_savedBy_3 : decode cX11_savedBy 3 = .ok (.iconst 1, 1) := by decide +kernel
theorem dX11_savedBy_4 : decode cX11_savedBy 4 = .ok (.isub, 1) := by decide +kernel
theorem dX11_savedBy_5 : decode cX11_savedBy 5 = .ok (.istore_n 3, 1) := by decide +kernel
theorem dX11_savedBy_6 : decode cX11_savedBy 6 = .ok (.iload_n 3, 1) := by decide +kernel
theorem dX11_savedBy_7 : decode cX11_savedBy 7 = .ok (.iload_n 1, 1) := by decide +kernel
theorem dX11_savedBy_8 : decode cX11_savedBy 8 = .ok (.iconst 1, 1) := by decide +kernel
theorem dX11_savedBy_9 : decode cX11_savedBy 9 = .ok (.iadd, 1) := by decide +kernel
theorem dX11_savedBy_10 : decode cX11_savedBy 10 = .ok (.if_icmp .gt 36, 3) := by decide +kernel
theorem dX11_savedBy_13 : decode cX11_savedBy 13 = .ok (.iload_n 2, 1) := by decide +kernel
theorem dX11_savedBy_14 : decode cX11_savedBy 14 = .ok (.aload_n 0, 1) := by decide +kernel
theorem dX11_savedBy_15 : decode cX11_savedBy 15 = .ok (.iload_n 3, 1) := by decide +kernel
theorem dX11_savedBy_16 : decode cX11_savedBy 16 = .ok (.invokevirtual 73, 3) := by decide +kernel
theorem dX11_savedBy_19 : decode cX11_savedBy 19 = .ok (.ifCond .eq 15, 3) := by decide +kernel
theorem dX11_savedBy_22 : decode cX11_savedBy 22 = .ok (.aload_n 0, 1) := by decide +kernel
theorem dX11_savedBy_23 : decode cX11_savedBy 23 = .ok (.iload_n 3, 1) := by decide +kernel
theorem dX11_savedBy_24 : decode cX11_savedBy 24 = .ok (.invokevirtual 164, 3) := by decide +kernel
theorem dX11_savedBy_27 : decode cX11_savedBy 27 = .ok (.ifCond .eq 7, 3) := by decide +kernel
theorem dX11_savedBy_30 : decode cX11_savedBy 30 = .ok (.iconst 1, 1) := by decide +kernel
theorem dX11_savedBy_31 : decode cX11_savedBy 31 = .ok (.goto 4, 3) := by decide +kernel
theorem dX11_savedBy_34 : decode cX11_savedBy 34 = .ok (.iconst 0, 1) := by decide +kernel
theorem dX11_savedBy_35 : decode cX11_savedBy 35 = .ok (.invokestatic 80, 3) := by decide +kernel
theorem dX11_savedBy_38 : decode cX11_savedBy 38 = .ok (.iadd, 1) := by decide +kernel
theorem dX11_savedBy_39 : decode cX11_savedBy 39 = .ok (.istore_n 2, 1) := by decide +kernel
theorem dX11_savedBy_40 : decode cX11_savedBy 40 = .ok (.iinc 3 1, 3) := by decide +kernel
theorem dX11_savedBy_43 : decode cX11_savedBy 43 = .ok (.goto (-37), 3) := by decide +kernel
theorem dX11_savedBy_46 : decode cX11_savedBy 46 = .ok (.iload_n 2, 1) := by decide +kernel
theorem dX11_savedBy_47 : decode cX11_savedBy 47 = .ok (.ireturn, 1) := by decide +kernel
def st_X11_savedBy_6 (N : Nat) (l1 : Int32) (l2 : Int32) (l3 : Int32) (t : HV) : Option ((Int32 × Int32) ⊕ (Int32)) := (if (l1 + 1) < l3 then some (.inr l2) else (ob1 (F_X11_isSlot l3 t) fun v1 => (if v1 = true then (ob1 (F_X11_wouldPrune l3 t) fun v2 => (if v2 = true then some (.inl ((l2 + (F_X11_truth true)), (l3 + 1))) else some (.inl ((l2 + (F_X11_truth false)), (l3 + 1))))) else some (.inl ((l2 + (F_X11_truth false)), (l3 + 1))))))
def F_X11_savedBy (N : Nat) (a1 : Int32) (t : HV) : Option (Int32) := (lpN N (fun z => st_X11_savedBy_6 N a1 z.1 z.2 t) (0, (a1 - 1)))
theorem lp_X11_savedBy_6 {w : WP} (hW : gWM w) {Ω : OM}  {t : HV} (e : Ω.2.1 = t)  (l1 : Int32) {N : Nat} {X : CX} (C : gC w X cX11_savedBy "HedgeMessagesModel" (some .int) 5 4) {v : Int32}  : ∀ (n : Nat) (l2 : Int32) (l3 : Int32), lpN n (fun z : Int32 × Int32 => st_X11_savedBy_6 N l1 z.1 z.2 t) (l2, l3) = some v → gV w X (some (.int v), cA w Ω) (cA w Ω) 6 [(0, .ref (wAd w (11, 12, 0, 0))), (1, .int l1), (2, .int l2), (3, .int l3)] [] := by
  intro n
  induction n with
  | zero => intro l2 l3 hL; exact lpN_0 hL
  | succ n ih =>
    intro l2 l3 hL
    obtain ⟨q9, hF, hL⟩ := lpN_e hL
    change st_X11_savedBy_6 N l1 l2 l3 t = some q9 at hF
    unfold st_X11_savedBy_6 at hF
    refine r_iload_n C (k := 3) rfl rfl dX11_savedBy_6 ?_
    refine r_iload_n C (k := 1) rfl rfl dX11_savedBy_7 ?_
    refine r_iconst C (v := 1) rfl dX11_savedBy_8 ?_
    refine r_iadd C dX11_savedBy_9 ?_
    refine r_icmp_gt C (tgt := 46) rfl dX11_savedBy_10 (fun hc => ?_) (fun hc => ?_)
    · rw [if_pos hc] at hF
      refine r_iload_n C (k := 2) rfl rfl dX11_savedBy_46 ?_
      cases hF
      change some _ = some _ at hL
      cases hL
      exact r_ireturn C dX11_savedBy_47
    · rw [if_neg hc] at hF
      refine r_iload_n C (k := 2) rfl rfl dX11_savedBy_13 ?_
      refine r_aload_n C (k := 0) rfl rfl dX11_savedBy_14 ?_
      refine r_iload_n C (k := 3) rfl rfl dX11_savedBy_15 ?_
      obtain ⟨v1, hv1, hF⟩ := ob1_e hF
      refine r_callV C (d' := 1) [.int l3] (c_X11_isSlot hW e l3 hv1) myX11_isSlot wm7_27 ⟨_, _, _, _, (hW.ok k11), rfl, rfl, rfl, rfl⟩ rfl (kR rfl) (by decide) (kR rfl) rfl dX11_savedBy_16 ?_
      refine r_if_eq C (tgt := 34) rfl dX11_savedBy_19 (fun hc => ?_) (fun hc => ?_)
      · rw [if_neg (b2i_f hc)] at hF
        refine r_iconst C (v := 0) rfl dX11_savedBy_34 ?_
        refine r_callS C (d' := 0) [.int (b2i false)] (c_X11_truth false rfl) myX11_truth wm7_35 rfl (kR rfl) (by decide) (kR rfl) rfl dX11_savedBy_35 ?_
        refine r_iadd C dX11_savedBy_38 ?_
        refine r_istore_n C (lo' := [(2, .int (l2 + (F_X11_truth false))), (0, .ref (wAd w (11, 12, 0, 0))), (1, .int l1), (3, .int l3)]) rfl (by decide) rfl dX11_savedBy_39 ?_
        refine r_iinc C (k := 3) (v := (l3 + 1)) (lo' := [(3, .int (l3 + 1)), (2, .int (l2 + (F_X11_truth false))), (0, .ref (wAd w (11, 12, 0, 0))), (1, .int l1)]) rfl rfl (by decide) rfl dX11_savedBy_40 ?_
        refine r_goto C (tgt := 6) rfl dX11_savedBy_43 ?_
        cases hF
        change lpN n _ _ = some _ at hL
        refine r_lo [2, 3, 1, 0] (lo' := [(0, .ref (wAd w (11, 12, 0, 0))), (1, .int l1), (2, .int (l2 + (F_X11_truth false))), (3, .int (l3 + 1))]) rfl ?_
        exact ih (l2 + (F_X11_truth false)) (l3 + 1) hL
      · rw [if_pos (b2i_t hc)] at hF
        refine r_aload_n C (k := 0) rfl rfl dX11_savedBy_22 ?_
        refine r_iload_n C (k := 3) rfl rfl dX11_savedBy_23 ?_
        obtain ⟨v2, hv2, hF⟩ := ob1_e hF
        refine r_callV C (d' := 4) [.int l3] (c_X11_wouldPrune hW e l3 hv2) myX11_wouldPrune wm8_121 ⟨_, _, _, _, (hW.ok k11), rfl, rfl, rfl, rfl⟩ rfl (kR rfl) (by decide) (kR rfl) rfl dX11_savedBy_24 ?_
        refine r_if_eq C (tgt := 34) rfl dX11_savedBy_27 (fun hc => ?_) (fun hc => ?_)
        · rw [if_neg (b2i_f hc)] at hF
          refine r_iconst C (v := 0) rfl dX11_savedBy_34 ?_
          refine r_callS C (d' := 0) [.int (b2i false)] (c_X11_truth false rfl) myX11_truth wm7_35 rfl (kR rfl) (by decide) (kR rfl) rfl dX11_savedBy_35 ?_
          refine r_iadd C dX11_savedBy_38 ?_
          refine r_istore_n C (lo' := [(2, .int (l2 + (F_X11_truth false))), (0, .ref (wAd w (11, 12, 0, 0))), (1, .int l1), (3, .int l3)]) rfl (by decide) rfl dX11_savedBy_39 ?_
          refine r_iinc C (k := 3) (v := (l3 + 1)) (lo' := [(3, .int (l3 + 1)), (2, .int (l2 + (F_X11_truth false))), (0, .ref (wAd w (11, 12, 0, 0))), (1, .int l1)]) rfl rfl (by decide) rfl dX11_savedBy_40 ?_
          refine r_goto C (tgt := 6) rfl dX11_savedBy_43 ?_
          cases hF
          change lpN n _ _ = some _ at hL
          refine r_lo [2, 3, 1, 0] (lo' := [(0, .ref (wAd w (11, 12, 0, 0))), (1, .int l1), (2, .int (l2 + (F_X11_truth false))), (3, .int (l3 + 1))]) rfl ?_
          exact ih (l2 + (F_X11_truth false)) (l3 + 1) hL
        · rw [if_pos (b2i_t hc)] at hF
          refine r_iconst C (v := 1) rfl dX11_savedBy_30 ?_
          refine r_goto C (tgt := 35) rfl dX11_savedBy_31 ?_
          refine r_callS C (d' := 0) [.int (b2i true)] (c_X11_truth true rfl) myX11_truth wm7_35 rfl (kR rfl) (by decide) (kR rfl) rfl dX11_savedBy_35 ?_
          refine r_iadd C dX11_savedBy_38 ?_
          refine r_istore_n C (lo' := [(2, .int (l2 + (F_X11_truth true))), (0, .ref (wAd w (11, 12, 0, 0))), (1, .int l1), (3, .int l3)]) rfl (by decide) rfl dX11_savedBy_39 ?_
          refine r_iinc C (k := 3) (v := (l3 + 1)) (lo' := [(3, .int (l3 + 1)), (2, .int (l2 + (F_X11_truth true))), (0, .ref (wAd w (11, 12, 0, 0))), (1, .int l1)]) rfl rfl (by decide) rfl dX11_savedBy_40 ?_
          refine r_goto C (tgt := 6) rfl dX11_savedBy_43 ?_
          cases hF
          change lpN n _ _ = some _ at hL
          refine r_lo [2, 3, 1, 0] (lo' := [(0, .ref (wAd w (11, 12, 0, 0))), (1, .int l1), (2, .int (l2 + (F_X11_truth true))), (3, .int (l3 + 1))]) rfl ?_
          exact ih (l2 + (F_X11_truth true)) (l3 + 1) hL
theorem c_X11_savedBy {w : WP} (hW : gWM w) {Ω : OM}  {t : HV} (e : Ω.2.1 = t) (N : Nat) (a1 : Int32) {v : Int32} (hF : F_X11_savedBy N a1 t = some v) : gM w 5 yX11_savedBy cX11_savedBy 4 (some .int) [.ref (wAd w (11, 12, 0, 0)), .int a1] (cA w Ω) (some (.int v)) (cA w Ω) := by
  refine gM_of "HedgeMessagesModel" rfl (by decide) (kR rfl) fun X C => ?_
  unfold F_X11_savedBy at hF
  show gV w X _ _ 0 [(0, .ref (wAd w (11, 12, 0, 0))), (1, .int a1)] []
  refine r_iconst C (v := 0) rfl dX11_savedBy_0 ?_
  refine r_istore_n C (lo' := [(2, .int 0), (0, .ref (wAd w (11, 12, 0, 0))), (1, .int a1)]) rfl (by decide) rfl dX11_savedBy_1 ?_
  refine r_iload_n C (k := 2) rfl rfl dX11_savedBy_2 ?_
  refine r_iconst C (v := 1) rfl dX11_savedBy_3 ?_
  refine r_isub C dX11_savedBy_4 ?_
  refine r_istore_n C (lo' := [(3, .int (a1 - 1)), (2, .int 0), (0, .ref (wAd w (11, 12, 0, 0))), (1, .int a1)]) rfl (by decide) rfl dX11_savedBy_5 ?_
  refine r_lo [2, 3, 1, 0] (lo' := [(0, .ref (wAd w (11, 12, 0, 0))), (1, .int a1), (2, .int 0), (3, .int (a1 - 1))]) rfl ?_
  exact lp_X11_savedBy_6 hW e a1 C N 0 (a1 - 1) hF
