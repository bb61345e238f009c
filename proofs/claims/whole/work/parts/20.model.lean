/-! ===== 20.model: printed by wip/whole/genmodel.py ===== -/
theorem dX11_thrown_0 : decode cX11_thrown 0 = .ok (.aload_n 0, 1) := by decide +kernel
theorem dX11_thrown_1 : decode cX11_thrown 1 = .ok (.getfield 58, 3) := by decide +kernel
theorem dX11_thrown_4 : decode cX11_thrown 4 = .ok (.ireturn, 1) := by decide +kernel
def F_X11_thrown (t : HV) : Int32 := (t.1 6)
theorem c_X11_thrown {w : WP} (hW : gWM w) {Ω : OM}  {t : HV} (e : Ω.2.1 = t)  {v : Int32} (hF : F_X11_thrown t = v) : gM w 0 yX11_thrown cX11_thrown 1 (some .int) [.ref (wAd w (11, 12, 0, 0))] (cA w Ω) (some (.int v)) (cA w Ω) := by
  refine gM_of "HedgeMessagesModel" rfl (by decide) (kR rfl) fun X C => ?_
  unfold F_X11_thrown at hF
  show gV w X _ _ 0 [(0, .ref (wAd w (11, 12, 0, 0)))] []
  refine r_aload_n C (k := 0) rfl rfl dX11_thrown_0 ?_
  refine og_11_6 C (hW.ok k11) e wm7_73 dX11_thrown_1 ?_
  cases hF
  exact r_ireturn C dX11_thrown_4
theorem dX11_in_0 : decode cX11_in 0 = .ok (.lload_n 0, 1) := by decide +kernel
theorem dX11_in_1 : decode cX11_in 1 = .ok (.lload_n 2, 1) := by decide +kernel
theorem dX11_in_2 : decode cX11_in 2 = .ok (.lcmp, 1) := by decide +kernel
theorem dX11_in_3 : decode cX11_in 3 = .ok (.ifCond .lt 14, 3) := by decide +kernel
theorem dX11_in_6 : decode cX11_in 6 = .ok (.lload_n 0, 1) := by decide +kernel
theorem dX11_in_7 : decode cX11_in 7 = .ok (.lload 4, 2) := by decide +kernel
theorem dX11_in_9 : decode cX11_in 9 = .ok (.lcmp, 1) := by decide +kernel
theorem dX11_in_10 : decode cX11_in 10 = .ok (.ifCond .gt 7, 3) := by decide +kernel
theorem dX11_in_13 : decode cX11_in 13 = .ok (.iconst 1, 1) := by decide +kernel
theorem dX11_in_14 : decode cX11_in 14 = .ok (.goto 4, 3) := by decide +kernel
theorem dX11_in_17 : decode cX11_in 17 = .ok (.iconst 0, 1) := by decide +kernel
theorem dX11_in_18 : decode cX11_in 18 = .ok (.ireturn, 1) := by decide +kernel
def F_X11_in (a0 : Int64) (a2 : Int64) (a4 : Int64) : Bool := (if (lg_cmp a0 a2) < 0 then false else (if 0 < (lg_cmp a0 a4) then false else true))
theorem c_X11_in {w : WP}  {ct : CT}  (a0 : Int64) (a2 : Int64) (a4 : Int64) {v : Bool} (hF : F_X11_in a0 a2 a4 = v) : gM w 0 yX11_in cX11_in 6 (some .boolean) [.long a0, .long a2, .long a4] (ct) (some (.int (b2i v))) (ct) := by
  refine gM_of "HedgeMessagesModel" rfl (by decide) (kR rfl) fun X C => ?_
  unfold F_X11_in at hF
  show gV w X _ _ 0 [(0, .long a0), (2, .long a2), (4, .long a4)] []
  refine r_lload_n C (k := 0) rfl rfl dX11_in_0 ?_
  refine r_lload_n C (k := 1) rfl rfl dX11_in_1 ?_
  refine r_lcmp C dX11_in_2 ?_
  refine r_if_lt C (tgt := 17) rfl dX11_in_3 (fun hc => ?_) (fun hc => ?_)
  · rw [if_pos hc] at hF
    refine r_iconst C (v := 0) rfl dX11_in_17 ?_
    cases hF
    exact r_zreturn C false rfl dX11_in_18
  · rw [if_neg hc] at hF
    refine r_lload_n C (k := 0) rfl rfl dX11_in_6 ?_
    refine r_lload C (k := 2) rfl dX11_in_7 ?_
    refine r_lcmp C dX11_in_9 ?_
    refine r_if_gt C (tgt := 17) rfl dX11_in_10 (fun hc => ?_) (fun hc => ?_)
    · rw [if_pos hc] at hF
      refine r_iconst C (v := 0) rfl dX11_in_17 ?_
      cases hF
      exact r_zreturn C false rfl dX11_in_18
    · rw [if_neg hc] at hF
      refine r_iconst C (v := 1) rfl dX11_in_13 ?_
      refine r_goto C (tgt := 18) rfl dX11_in_14 ?_
      cases hF
      exact r_zreturn C true rfl dX11_in_18
theorem dX11_truth_0 : decode cX11_truth 0 = .ok (.iload_n 0, 1) := by decide +kernel
theorem dX11_truth_1 : decode cX11_truth 1 = .ok (.ifCond .eq 7, 3) := by decide +kernel
theorem dX11_truth_4 : decode cX11_truth 4 = .ok (.iconst 1, 1) := by decide +kernel
theorem dX11_truth_5 : decode cX11_truth 5 = .ok (.goto 4, 3) := by decide +kernel
theorem dX11_truth_8 : decode cX11_truth 8 = .ok (.iconst 0, 1) := by decide +kernel
theorem dX11_truth_9 : decode cX11_truth 9 = .ok (.ireturn, 1) := by decide +kernel
def F_X11_truth (a0 : Bool) : Int32 := (if a0 = true then 1 else 0)
theorem c_X11_truth {w : WP}  {ct : CT}  (a0 : Bool) {v : Int32} (hF : F_X11_truth a0 = v) : gM w 0 yX11_truth cX11_truth 1 (some .int) [.int (b2i a0)] (ct) (some (.int v)) (ct) := by
  refine gM_of "HedgeMessagesModel" rfl (by decide) (kR rfl) fun X C => ?_
  unfold F_X11_truth at hF
  show gV w X _ _ 0 [(0, .int (b2i a0))] []
  refine r_iload_n C (k := 0) rfl rfl dX11_truth_0 ?_
  refine r_if_eq C (tgt := 8) rfl dX11_truth_1 (fun hc => ?_) (fun hc => ?_)
  · rw [if_neg (b2i_f hc)] at hF
    refine r_iconst C (v := 0) rfl dX11_truth_8 ?_
    cases hF
    exact r_ireturn C dX11_truth_9
  · rw [if_pos (b2i_t hc)] at hF
    refine r_iconst C (v := 1) rfl dX11_truth_4 ?_
    refine r_goto C (tgt := 9) rfl dX11_truth_5 ?_
    cases hF
    exact r_ireturn C dX11_truth_9
theorem dX11_passes_0 : decode cX11_passes 0 = .ok (.aload_n 0, 1) := by decide +kernel
theorem dX11_passes_1 : decode cX11_passes 1 = .ok (.iload_n 1, 1) := by decide +kernel
theorem dX11_passes_2 : decode cX11_passes 2 = .ok (.ifCond .eq 7, 3) := by decide +kernel
theorem dX11_passes_5 : decode cX11_passes 5 = .ok (.iconst 0, 1) := by decide +kernel
theorem dX11_passes_6 : decode cX11_passes 6 = .ok (.goto 4, 3) := by decide +kernel
theorem dX11_passes_9 : decode cX11_passes 9 = .ok (.iconst 1, 1) := by decide +kernel
theorem dX11_passes_10 : decode cX11_passes 10 = .ok (.putfield 58, 3) := by decide +kernel
theorem dX11_passes_13 : decode cX11_passes 13 = .ok (.iload_n 1, 1) := by decide +kernel
theorem dX11_passes_14 : decode cX11_passes 14 = .ok (.ireturn, 1) := by decide +kernel
def F_X11_passes (a1 : Bool) (t : HV) : Bool × (HV) := (if a1 = true then (lt (sS t 6 0) fun t2 => (a1, t2)) else (lt (sS t 6 1) fun t1 => (a1, t1)))
theorem c_X11_passes {w : WP} (hW : gWM w) {Ω : OM}  {t : HV} (e : Ω.2.1 = t) (a1 : Bool) {v : Bool} {t' : HV} (hF : F_X11_passes a1 t = (v, t')) {Ω' : OM} (e2 : (sM Ω t') = Ω') : gM w 0 yX11_passes cX11_passes 2 (some .boolean) [.ref (wAd w (11, 12, 0, 0)), .int (b2i a1)] (cA w Ω) (some (.int (b2i v))) (cA w Ω') := by
  refine gM_of "HedgeMessagesModel" rfl (by decide) (kR rfl) fun X C => ?_
  unfold F_X11_passes at hF
  subst e2
  show gV w X _ _ 0 [(0, .ref (wAd w (11, 12, 0, 0))), (1, .int (b2i a1))] []
  refine r_ct (ct' := cA w (sM Ω t)) (congrArg (cA w) (sM_i e).symm) ?_
  refine r_aload_n C (k := 0) rfl rfl dX11_passes_0 ?_
  refine r_iload_n C (k := 1) rfl rfl dX11_passes_1 ?_
  refine r_if_eq C (tgt := 9) rfl dX11_passes_2 (fun hc => ?_) (fun hc => ?_)
  · rw [if_neg (b2i_f hc)] at hF
    refine r_iconst C (v := 1) rfl dX11_passes_9 ?_
    obtain ⟨t1, et1, hF⟩ := lt_e hF
    refine op_11_6 C hW.x (hW.fr k11) (show (sM Ω t).2.1 = t from rfl) wm7_73 dX11_passes_10 (congrArg (sM Ω) et1) ?_
    refine r_iload_n C (k := 1) rfl rfl dX11_passes_13 ?_
    cases hF
    exact r_zreturn C _ rfl dX11_passes_14
  · rw [if_pos (b2i_t hc)] at hF
    refine r_iconst C (v := 0) rfl dX11_passes_5 ?_
    refine r_goto C (tgt := 10) rfl dX11_passes_6 ?_
    obtain ⟨t2, et2, hF⟩ := lt_e hF
    refine op_11_6 C hW.x (hW.fr k11) (show (sM Ω t).2.1 = t from rfl) wm7_73 dX11_passes_10 (congrArg (sM Ω) et2) ?_
    refine r_iload_n C (k := 1) rfl rfl dX11_passes_13 ?_
    cases hF
    exact r_zreturn C _ rfl dX11_passes_14
theorem dX11_passesBoth_0 : decode cX11_passesBoth 0 = .ok (.aload_n 0, 1) := by decide +kernel
theorem dX11_passesBoth_1 : decode cX11_passesBoth 1 = .ok (.iload_n 1, 1) := by decide +kernel
theorem dX11_passesBoth_2 : decode cX11_passesBoth 2 = .ok (.ifCond .ne 7, 3) := by decide +kernel
theorem dX11_passesBoth_5 : decode cX11_passesBoth 5 = .ok (.iconst 1, 1) := by decide +kernel
theorem dX11_passesBoth_6 : decode cX11_passesBoth 6 = .ok (.goto 12, 3) := by decide +kernel
theorem dX11_passesBoth_9 : decode cX11_passesBoth 9 = .ok (.iload_n 2, 1) := by decide +kernel
theorem dX11_passesBoth_10 : decode cX11_passesBoth 10 = .ok (.ifCond .ne 7, 3) := by decide +kernel
theorem dX11_passesBoth_13 : decode cX11_passesBoth 13 = .ok (.iconst 2, 1) := by decide +kernel
theorem dX11_passesBoth_14 : decode cX11_passesBoth 14 = .ok (.goto 4, 3) := by decide +kernel
theorem dX11_passesBoth_17 : decode cX11_passesBoth 17 = .ok (.iconst 0, 1) := by decide +kernel
theorem dX11_passesBoth_18 : decode cX11_passesBoth 18 = .ok (.putfield 58, 3) := by decide +kernel
theorem dX11_passesBoth_21 : decode cX11_passesBoth 21 = .ok (.aload_n 0, 1) := by decide +kernel
theorem dX11_passesBoth_22 : decode cX11_passesBoth 22 = .ok (.getfield 58, 3) := by decide +kernel
theorem dX11_passesBoth_25 : decode cX11_passesBoth 25 = .ok (.ifCond .ne 7, 3) := by decide +kernel
theorem dX11_passesBoth_28 : decode cX11_passesBoth 28 = .ok (.iconst 1, 1) := by decide +kernel
theorem dX11_passesBoth_29 : decode cX11_passesBoth 29 = .ok (.goto 4, 3) := by decide +kernel
theorem dX11_passesBoth_32 : decode cX11_passesBoth 32 = .ok (.iconst 0, 1) := by decide +kernel
theorem dX11_passesBoth_33 : decode cX11_passesBoth 33 = .ok (.ireturn, 1) := by decide +kernel
def F_X11_passesBoth (a1 : Bool) (a2 : Bool) (t : HV) : Bool × (HV) := (if a1 = true then (if a2 = true then (lt (sS t 6 0) fun t1 => (if (t1.1 6) = 0 then (true, t1) else (false, t1))) else (lt (sS t 6 2) fun t2 => (if (t2.1 6) = 0 then (true, t2) else (false, t2)))) else (lt (sS t 6 1) fun t3 => (if (t3.1 6) = 0 then (true, t3) else (false, t3))))
theorem c_X11_passesBoth {w : WP} (hW : gWM w) {Ω : OM}  {t : HV} (e : Ω.2.1 = t) (a1 : Bool) (a2 : Bool) {v : Bool} {t' : HV} (hF : F_X11_passesBoth a1 a2 t = (v, t')) {Ω' : OM} (e2 : (sM Ω t') = Ω') : gM w 0 yX11_passesBoth cX11_passesBoth 3 (some .boolean) [.ref (wAd w (11, 12, 0, 0)), .int (b2i a1), .int (b2i a2)] (cA w Ω) (some (.int (b2i v))) (cA w Ω') := by
  refine gM_of "HedgeMessagesModel" rfl (by decide) (kR rfl) fun X C => ?_
  unfold F_X11_passesBoth at hF
  subst e2
  show gV w X _ _ 0 [(0, .ref (wAd w (11, 12, 0, 0))), (1, .int (b2i a1)), (2, .int (b2i a2))] []
  refine r_ct (ct' := cA w (sM Ω t)) (congrArg (cA w) (sM_i e).symm) ?_
  refine r_aload_n C (k := 0) rfl rfl dX11_passesBoth_0 ?_
  refine r_iload_n C (k := 1) rfl rfl dX11_passesBoth_1 ?_
  refine r_if_ne C (tgt := 9) rfl dX11_passesBoth_2 (fun hc => ?_) (fun hc => ?_)
  · rw [if_pos (b2i_t hc)] at hF
    refine r_iload_n C (k := 2) rfl rfl dX11_passesBoth_9 ?_
    refine r_if_ne C (tgt := 17) rfl dX11_passesBoth_10 (fun hc => ?_) (fun hc => ?_)
    · rw [if_pos (b2i_t hc)] at hF
      refine r_iconst C (v := 0) rfl dX11_passesBoth_17 ?_
      obtain ⟨t1, et1, hF⟩ := lt_e hF
      refine op_11_6 C hW.x (hW.fr k11) (show (sM Ω t).2.1 = t from rfl) wm7_73 dX11_passesBoth_18 (congrArg (sM Ω) et1) ?_
      refine r_aload_n C (k := 0) rfl rfl dX11_passesBoth_21 ?_
      refine og_11_6 C (hW.ok k11) (show (sM Ω t1).2.1 = t1 from rfl) wm7_73 dX11_passesBoth_22 ?_
      refine r_if_ne C (tgt := 32) rfl dX11_passesBoth_25 (fun hc => ?_) (fun hc => ?_)
      · rw [if_neg hc] at hF
        refine r_iconst C (v := 0) rfl dX11_passesBoth_32 ?_
        cases hF
        exact r_zreturn C false rfl dX11_passesBoth_33
      · rw [if_pos hc] at hF
        refine r_iconst C (v := 1) rfl dX11_passesBoth_28 ?_
        refine r_goto C (tgt := 33) rfl dX11_passesBoth_29 ?_
        cases hF
        exact r_zreturn C true rfl dX11_passesBoth_33
    · rw [if_neg (b2i_f hc)] at hF
      refine r_iconst C (v := 2) rfl dX11_passesBoth_13 ?_
      refine r_goto C (tgt := 18) rfl dX11_passesBoth_14 ?_
      obtain ⟨t2, et2, hF⟩ := lt_e hF
      refine op_11_6 C hW.x (hW.fr k11) (show (sM Ω t).2.1 = t from rfl) wm7_73 dX11_passesBoth_18 (congrArg (sM Ω) et2) ?_
      refine r_aload_n C (k := 0) rfl rfl dX11_passesBoth_21 ?_
      refine og_11_6 C (hW.ok k11) (show (sM Ω t2).2.1 = t2 from rfl) wm7_73 dX11_passesBoth_22 ?_
      refine r_if_ne C (tgt := 32) rfl dX11_passesBoth_25 (fun hc => ?_) (fun hc => ?_)
      · rw [if_neg hc] at hF
        refine r_iconst C (v := 0) rfl dX11_passesBoth_32 ?_
        cases hF
        exact r_zreturn C false rfl dX11_passesBoth_33
      · rw [if_pos hc] at hF
        refine r_iconst C (v := 1) rfl dX11_passesBoth_28 ?_
        refine r_goto C (tgt := 33) rfl dX11_passesBoth_29 ?_
        cases hF
        exact r_zreturn C true rfl dX11_passesBoth_33
  · rw [if_neg (b2i_f hc)] at hF
    refine r_iconst C (v := 1) rfl dX11_passesBoth_5 ?_
    refine r_goto C (tgt := 18) rfl dX11_passesBoth_6 ?_
    obtain ⟨t3, et3, hF⟩ := lt_e hF
    refine op_11_6 C hW.x (hW.fr k11) (show (sM Ω t).2.1 = t from rfl) wm7_73 dX11_passesBoth_18 (congrArg (sM Ω) et3) ?_
    refine r_aload_n C (k := 0) rfl rfl dX11_passesBoth_21 ?_
    refine og_11_6 C (hW.ok k11) (show (sM Ω t3).2.1 = t3 from rfl) wm7_73 dX11_passesBoth_22 ?_
    refine r_if_ne C (tgt := 32) rfl dX11_passesBoth_25 (fun hc => ?_) (fun hc => ?_)
    · rw [if_neg hc] at hF
      refine r_iconst C (v := 0) rfl dX11_passesBoth_32 ?_
      cases hF
      exact r_zreturn C false rfl dX11_passesBoth_33
    · rw [if_pos hc] at hF
      refine r_iconst C (v := 1) rfl dX11_passesBoth_28 ?_
      refine r_goto C (tgt := 33) rfl dX11_passesBoth_29 ?_
      cases hF
      exact r_zreturn C true rfl dX11_passesBoth_33
theorem dX11_passesAll_0 : decode cX11_passesAll 0 = .ok (.aload_n 0, 1) := by decide +kernel
theorem dX11_passesAll_1 : decode cX11_passesAll 1 = .ok (.iload_n 1, 1) := by decide +kernel
theorem dX11_passesAll_2 : decode cX11_passesAll 2 = .ok (.ifCond .ne 7, 3) := by decide +kernel
theorem dX11_passesAll_5 : decode cX11_passesAll 5 = .ok (.iconst 1, 1) := by decide +kernel
theorem dX11_passesAll_6 : decode cX11_passesAll 6 = .ok (.goto 20, 3) := by decide +kernel
theorem dX11_passesAll_9 : decode cX11_passesAll 9 = .ok (.iload_n 2, 1) := by decide +kernel
theorem dX11_passesAll_10 : decode cX11_passesAll 10 = .ok (.ifCond .ne 7, 3) := by decide +kernel
theorem dX11_passesAll_13 : decode cX11_passesAll 13 = .ok (.iconst 2, 1) := by decide +kernel
theorem dX11_passesAll_14 : decode cX11_passesAll 14 = .ok (.goto 12, 3) := by decide +kernel
theorem dX11_passesAll_17 : decode cX11_passesAll 17 = .ok (.iload_n 3, 1) := by decide +kernel
theorem dX11_passesAll_18 : decode cX11_passesAll 18 = .ok (.ifCond .ne 7, 3) := by decide +kernel
theorem dX11_passesAll_21 : decode cX11_passesAll 21 = .ok (.iconst 3, 1) := by decide +kernel
theorem dX11_passesAll_22 : decode cX11_passesAll 22 = .ok (.goto 4, 3) := by decide +kernel
theorem dX11_passesAll_25 : decode cX11_passesAll 25 = .ok (.iconst 0, 1) := by decide +kernel
theorem dX11_passesAll_26 : decode cX11_passesAll 26 = .ok (.putfield 58, 3) := by decide +kernel
theorem dX11_passesAll_29 : decode cX11_passesAll 29 = .ok (.aload_n 0, 1) := by decide +kernel
theorem dX11_passesAll_30 : decode cX11_passesAll 30 = .ok (.getfield 58, 3) := by decide +kernel
theorem dX11_passesAll_33 : decode cX11_passesAll 33 = .ok (.ifCond .ne 7, 3) := by decide +kernel
theorem dX11_passesAll_36 : decode cX11_passesAll 36 = .ok (.iconst 1, 1) := by decide +kernel
theorem dX11_passesAll_37 : decode cX11_passesAll 37 = .ok (.goto 4, 3) := by decide +kernel
theorem dX11_passesAll_40 : decode cX11_passesAll 40 = .ok (.iconst 0, 1) := by decide +kernel
theorem dX11_passesAll_41 : decode cX11_passesAll 41 = .ok (.ireturn, 1) := by decide +kernel
def F_X11_passesAll (a1 : Bool) (a2 : Bool) (a3 : Bool) (t : HV) : Bool × (HV) := (if a1 = true then (if a2 = true then (if a3 = true then (lt (sS t 6 0) fun t1 => (if (t1.1 6) = 0 then (true, t1) else (false, t1))) else (lt (sS t 6 3) fun t2 => (if (t2.1 6) = 0 then (true, t2) else (false, t2)))) else (lt (sS t 6 2) fun t3 => (if (t3.1 6) = 0 then (true, t3) else (false, t3)))) else (lt (sS t 6 1) fun t4 => (if (t4.1 6) = 0 then (true, t4) else (false, t4))))
theorem c_X11_passesAll {w : WP} (hW : gWM w) {Ω : OM}  {t : HV} (e : Ω.2.1 = t) (a1 : Bool) (a2 : Bool) (a3 : Bool) {v : Bool} {t' : HV} (hF : F_X11_passesAll a1 a2 a3 t = (v, t')) {Ω' : OM} (e2 : (sM Ω t') = Ω') : gM w 0 yX11_passesAll cX11_passesAll 4 (some .boolean) [.ref (wAd w (11, 12, 0, 0)), .int (b2i a1), .int (b2i a2), .int (b2i a3)] (cA w Ω) (some (.int (b2i v))) (cA w Ω') := by
  refine gM_of "HedgeMessagesModel" rfl (by decide) (kR rfl) fun X C => ?_
  unfold F_X11_passesAll at hF
  subst e2
  show gV w X _ _ 0 [(0, .ref (wAd w (11, 12, 0, 0))), (1, .int (b2i a1)), (2, .int (b2i a2)), (3, .int (b2i a3))] []
  refine r_ct (ct' := cA w (sM Ω t)) (congrArg (cA w) (sM_i e).symm) ?_
  refine r_aload_n C (k := 0) rfl rfl dX11_passesAll_0 ?_
  refine r_iload_n C (k := 1) rfl rfl dX11_passesAll_1 ?_
  refine r_if_ne C (tgt := 9) rfl dX11_passesAll_2 (fun hc => ?_) (fun hc => ?_)
  · rw [if_pos (b2i_t hc)] at hF
    refine r_iload_n C (k := 2) rfl rfl dX11_passesAll_9 ?_
    refine r_if_ne C (tgt := 17) rfl dX11_passesAll_10 (fun hc => ?_) (fun hc => ?_)
    · rw [if_pos (b2i_t hc)] at hF
      refine r_iload_n C (k := 3) rfl rfl dX11_passesAll_17 ?_
      refine r_if_ne C (tgt := 25) rfl dX11_passesAll_18 (fun hc => ?_) (fun hc => ?_)
      · rw [if_pos (b2i_t hc)] at hF
        refine r_iconst C (v := 0) rfl dX11_passesAll_25 ?_
        obtain ⟨t1, et1, hF⟩ := lt_e hF
        refine op_11_6 C hW.x (hW.fr k11) (show (sM Ω t).2.1 = t from rfl) wm7_73 dX11_passesAll_26 (congrArg (sM Ω) et1) ?_
        refine r_aload_n C (k := 0) rfl rfl dX11_passesAll_29 ?_
        refine og_11_6 C (hW.ok k11) (show (sM Ω t1).2.1 = t1 from rfl) wm7_73 dX11_passesAll_30 ?_
        refine r_if_ne C (tgt := 40) rfl dX11_passesAll_33 (fun hc => ?_) (fun hc => ?_)
        · rw [if_neg hc] at hF
          refine r_iconst C (v := 0) rfl dX11_passesAll_40 ?_
          cases hF
          exact r_zreturn C false rfl dX11_passesAll_41
        · rw [if_pos hc] at hF
          refine r_iconst C (v := 1) rfl dX11_passesAll_36 ?_
          refine r_goto C (tgt := 41) rfl dX11_passesAll_37 ?_
          cases hF
          exact r_zreturn C true rfl dX11_passesAll_41
      · rw [if_neg (b2i_f hc)] at hF
        refine r_iconst C (v := 3) rfl dX11_passesAll_21 ?_
        refine r_goto C (tgt := 26) rfl dX11_passesAll_22 ?_
        obtain ⟨t2, et2, hF⟩ := lt_e hF
        refine op_11_6 C hW.x (hW.fr k11) (show (sM Ω t).2.1 = t from rfl) wm7_73 dX11_passesAll_26 (congrArg (sM Ω) et2) ?_
        refine r_aload_n C (k := 0) rfl rfl dX11_passesAll_29 ?_
        refine og_11_6 C (hW.ok k11) (show (sM Ω t2).2.1 = t2 from rfl) wm7_73 dX11_passesAll_30 ?_
        refine r_if_ne C (tgt := 40) rfl dX11_passesAll_33 (fun hc => ?_) (fun hc => ?_)
        · rw [if_neg hc] at hF
          refine r_iconst C (v := 0) rfl dX11_passesAll_40 ?_
          cases hF
          exact r_zreturn C false rfl dX11_passesAll_41
        · rw [if_pos hc] at hF
          refine r_iconst C (v := 1) rfl dX11_passesAll_36 ?_
          refine r_goto C (tgt := 41) rfl dX11_passesAll_37 ?_
          cases hF
          exact r_zreturn C true rfl dX11_passesAll_41
    · rw [if_neg (b2i_f hc)] at hF
      refine r_iconst C (v := 2) rfl dX11_passesAll_13 ?_
      refine r_goto C (tgt := 26) rfl dX11_passesAll_14 ?_
      obtain ⟨t3, et3, hF⟩ := lt_e hF
      refine op_11_6 C hW.x (hW.fr k11) (show (sM Ω t).2.1 = t from rfl) wm7_73 dX11_passesAll_26 (congrArg (sM Ω) et3) ?_
      refine r_aload_n C (k := 0) rfl rfl dX11_passesAll_29 ?_
      refine og_11_6 C (hW.ok k11) (show (sM Ω t3).2.1 = t3 from rfl) wm7_73 dX11_passesAll_30 ?_
      refine r_if_ne C (tgt := 40) rfl dX11_passesAll_33 (fun hc => ?_) (fun hc => ?_)
      · rw [if_neg hc] at hF
        refine r_iconst C (v := 0) rfl dX11_passesAll_40 ?_
        cases hF
        exact r_zreturn C false rfl dX11_passesAll_41
      · rw [if_pos hc] at hF
        refine r_iconst C (v := 1) rfl dX11_passesAll_36 ?_
        refine r_goto C (tgt := 41) rfl dX11_passesAll_37 ?_
        cases hF
        exact r_zreturn C true rfl dX11_passesAll_41
  · rw [if_neg (b2i_f hc)] at hF
    refine r_iconst C (v := 1) rfl dX11_passesAll_5 ?_
    refine r_goto C (tgt := 26) rfl dX11_passesAll_6 ?_
    obtain ⟨t4, et4, hF⟩ := lt_e hF
    refine op_11_6 C hW.x (hW.fr k11) (show (sM Ω t).2.1 = t from rfl) wm7_73 dX11_passesAll_26 (congrArg (sM Ω) et4) ?_
    refine r_aload_n C (k := 0) rfl rfl dX11_passesAll_29 ?_
    refine og_11_6 C (hW.ok k11) (show (sM Ω t4).2.1 = t4 from rfl) wm7_73 dX11_passesAll_30 ?_
    refine r_if_ne C (tgt := 40) rfl dX11_passesAll_33 (fun hc => ?_) (fun hc => ?_)
    · rw [if_neg hc] at hF
      refine r_iconst C (v := 0) rfl dX11_passesAll_40 ?_
      cases hF
      exact r_zreturn C false rfl dX11_passesAll_41
    · rw [if_pos hc] at hF
      refine r_iconst C (v := 1) rfl dX11_passesAll_36 ?_
      refine r_goto C (tgt := 41) rfl dX11_passesAll_37 ?_
      cases hF
      exact r_zreturn C true rfl dX11_passesAll_41
theorem dX11_copies_0 : decode cX11_copies 0 = .ok (.iconst 0, 1) := by decide +kernel
theorem dX11_copies_1 : decode cX11_copies 1 = .ok (.istore 4, 2) := by decide +kernel
theorem dX11_copies_3 : decode cX11_copies 3 = .ok (.iload 4, 2) := by decide +kernel
theorem dX11_copies_5 : decode cX11_copies 5 = .ok (.sipush 760, 3) := by decide +kernel
theorem dX11_copies_8 : decode cX11_copies 8 = .ok (.if_icmp .ge 21, 3) := by decide +kernel
theorem dX11_copies_11 : decode cX11_copies 11 = .ok (.aload_n 2, 1) := by decide +kernel
theorem dX11_copies_12 : decode cX11_copies 12 = .ok (.iload_n 3, 1) := by decide +kernel
theorem dX11_copies_13 : decode cX11_copies 13 = .ok (.iload 4, 2) := by decide +kernel
theorem dX11_copies_15 : decode cX11_copies 15 = .ok (.iadd, 1) := by decide +kernel
theorem dX11_copies_16 : decode cX11_copies 16 = .ok (.aload_n 0, 1) := by decide +kernel
theorem dX11_copies_17 : decode cX11_copies 17 = .ok (.iload_n 1, 1) := by decide +kernel
theorem dX11_copies_18 : decode cX11_copies 18 = .ok (.iload 4, 2) := by decide +kernel
theorem dX11_copies_20 : decode cX11_copies 20 = .ok (.iadd, 1) := by decide +kernel
theorem dX11_copies_21 : decode cX11_copies 21 = .ok (.iaload, 1) := by decide +kernel
theorem dX11_copies_22 : decode cX11_copies 22 = .ok (.iastore, 1) := by decide +kernel
theorem dX11_copies_23 : decode cX11_copies 23 = .ok (.iinc 4 1, 3) := by decide +kernel
theorem dX11_copies_26 : decode cX11_copies 26 = .ok (.goto (-23), 3) := by decide +kernel
theorem dX11_copies_29 : decode cX11_copies 29 = .ok (.return_, 1) := by decide +kernel
def st_X11_copies_3 (N : Nat) (a0 : Nat) (a2 : Nat) (l1 : Int32) (l3 : Int32) (l4 : Int32) (t : HV) : Option ((Int32 × HV) ⊕ (HV)) := (if 760 ≤ l4 then some (.inr t) else (if vpb (l1 + l4) (mlen a0) = true then (if vpb (l3 + l4) (mlen a2) = true then (lt (aw t a2 (l3 + l4) (ag t a0 (l1 + l4))) fun t3 => some (.inl ((l4 + 1), t3))) else none) else none))
def F_X11_copies (N : Nat) (a0 : Nat) (a1 : Int32) (a2 : Nat) (a3 : Int32) (t : HV) : Option (HV) := (lpN N (fun z => st_X11_copies_3 N a0 a2 a1 a3 z.1 z.2) (0, t))
theorem lp_X11_copies_3 {w : WP} (hW : gWM w) {Ω : OM}  (a0 : Nat) (ha0 : okMa a0) (a2 : Nat) (ha2 : okMa a2) (l1 : Int32) (l3 : Int32) {N : Nat} {X : CX} (C : gC w X cX11_copies "HedgeMessagesModel" none 0 5) {t' : HV}  : ∀ (n : Nat) (l4 : Int32) (t : HV), lpN n (fun z : Int32 × HV => st_X11_copies_3 N a0 a2 l1 l3 z.1 z.2) (l4, t) = some t' → gV w X (none, cA w (sM Ω t')) (cA w (sM Ω t)) 3 [(0, .ref (wAd w (12, 12, 0, a0))), (1, .int l1), (2, .ref (wAd w (12, 12, 0, a2))), (3, .int l3), (4, .int l4)] [] := by
  intro n
  induction n with
  | zero => intro l4 t hL; exact lpN_0 hL
  | succ n ih =>
    intro l4 t hL
    obtain ⟨q9, hF, hL⟩ := lpN_e hL
    change st_X11_copies_3 N a0 a2 l1 l3 l4 t = some q9 at hF
    unfold st_X11_copies_3 at hF
    refine r_iload C (k := 4) rfl dX11_copies_3 ?_
    refine r_sipush C (v := 760) rfl dX11_copies_5 ?_
    refine r_icmp_ge C (tgt := 29) rfl dX11_copies_8 (fun hc => ?_) (fun hc => ?_)
    · rw [if_pos hc] at hF
      cases hF
      change some _ = some _ at hL
      cases hL
      exact r_return C dX11_copies_29
    · rw [if_neg hc] at hF
      refine r_aload_n C (k := 2) rfl rfl dX11_copies_11 ?_
      refine r_iload_n C (k := 3) rfl rfl dX11_copies_12 ?_
      refine r_iload C (k := 4) rfl dX11_copies_13 ?_
      refine r_iadd C dX11_copies_15 ?_
      refine r_aload_n C (k := 0) rfl rfl dX11_copies_16 ?_
      refine r_iload_n C (k := 1) rfl rfl dX11_copies_17 ?_
      refine r_iload C (k := 4) rfl dX11_copies_18 ?_
      refine r_iadd C dX11_copies_20 ?_
      obtain ⟨b1, hF⟩ := gd_e hF
      refine m_ald C (hW.ok (k12 ha0)) (show (sM Ω t).2.1 = t from rfl) rfl b1 dX11_copies_21 ?_
      obtain ⟨b2, hF⟩ := gd_e hF
      obtain ⟨t3, et3, hF⟩ := lt_e hF
      refine m_ast C hW.x (hW.fr (k12 ha2)) (show (sM Ω t).2.1 = t from rfl) rfl b2 dX11_copies_22 (congrArg (sM Ω) et3) ?_
      refine r_iinc C (k := 4) (v := (l4 + 1)) (lo' := [(4, .int (l4 + 1)), (0, .ref (wAd w (12, 12, 0, a0))), (1, .int l1), (2, .ref (wAd w (12, 12, 0, a2))), (3, .int l3)]) rfl rfl (by decide) rfl dX11_copies_23 ?_
      refine r_goto C (tgt := 3) rfl dX11_copies_26 ?_
      cases hF
      change lpN n _ _ = some _ at hL
      refine r_lo [1, 2, 3, 4, 0] (lo' := [(0, .ref (wAd w (12, 12, 0, a0))), (1, .int l1), (2, .ref (wAd w (12, 12, 0, a2))), (3, .int l3), (4, .int (l4 + 1))]) rfl ?_
      exact ih (l4 + 1) t3 hL
theorem c_X11_copies {w : WP} (hW : gWM w) {Ω : OM}  {t : HV} (e : Ω.2.1 = t) (N : Nat) (a0 : Nat) (ha0 : okMa a0) (a1 : Int32) (a2 : Nat) (ha2 : okMa a2) (a3 : Int32) {t' : HV} (hF : F_X11_copies N a0 a1 a2 a3 t = some t') {Ω' : OM} (e2 : (sM Ω t') = Ω') : gM w 0 yX11_copies cX11_copies 5 none [.ref (wAd w (12, 12, 0, a0)), .int a1, .ref (wAd w (12, 12, 0, a2)), .int a3] (cA w Ω) none (cA w Ω') := by
  refine gM_of "HedgeMessagesModel" rfl (by decide) (kR rfl) fun X C => ?_
  unfold F_X11_copies at hF
  subst e2
  show gV w X _ _ 0 [(0, .ref (wAd w (12, 12, 0, a0))), (1, .int a1), (2, .ref (wAd w (12, 12, 0, a2))), (3, .int a3)] []
  refine r_ct (ct' := cA w (sM Ω t)) (congrArg (cA w) (sM_i e).symm) ?_
  refine r_iconst C (v := 0) rfl dX11_copies_0 ?_
  refine r_istore C (lo' := [(4, .int 0), (0, .ref (wAd w (12, 12, 0, a0))), (1, .int a1), (2, .ref (wAd w (12, 12, 0, a2))), (3, .int a3)]) (by decide) rfl dX11_copies_1 ?_
  refine r_lo [1, 2, 3, 4, 0] (lo' := [(0, .ref (wAd w (12, 12, 0, a0))), (1, .int a1), (2, .ref (wAd w (12, 12, 0, a2))), (3, .int a3), (4, .int 0)]) rfl ?_
  exact lp_X11_copies_3 hW a0 ha0 a2 ha2 a1 a3 C N 0 t hF
theorem dX11_tries_0 : decode cX11_tries 0 = .ok (.aload_n 0, 1) := by decide +kernel
theorem dX11_tries_1 : decode cX11_tries 1 = .ok (.getfield 7, 3) := by decide +kernel
theorem dX11_tries_4 : decode cX11_tries 4 = .ok (.iconst 0, 1) := by decide +kernel
theorem dX11_tries_5 : decode cX11_tries 5 = .ok (.aload_n 0, 1) := by decide +kernel
theorem dX11_tries_6 : decode cX11_tries 6 = .ok (.getfield 19, 3) := by decide +kernel
theorem dX11_tries_9 : decode cX11_tries 9 = .ok (.iconst 0, 1) := by decide +kernel
theorem dX11_tries_10 : decode cX11_tries 10 = .ok (.invokestatic 61, 3) := by decide +kernel
theorem dX11_tries_13 : decode cX11_tries 13 = .ok (.return_, 1) := by decide +kernel
def F_X11_tries (N : Nat) (t : HV) : Option (HV) := (ob1 (F_X11_copies N 0 0 3 0 t) fun t2 => some t2)
theorem c_X11_tries {w : WP} (hW : gWM w) {Ω : OM}  {t : HV} (e : Ω.2.1 = t) (N : Nat)  {t' : HV} (hF : F_X11_tries N t = some t') {Ω' : OM} (e2 : (sM Ω t') = Ω') : gM w 1 yX11_tries cX11_tries 1 none [.ref (wAd w (11, 12, 0, 0))] (cA w Ω) none (cA w Ω') := by
  refine gM_of "HedgeMessagesModel" rfl (by decide) (kR rfl) fun X C => ?_
  unfold F_X11_tries at hF
  subst e2
  show gV w X _ _ 0 [(0, .ref (wAd w (11, 12, 0, 0)))] []
  refine r_ct (ct' := cA w (sM Ω t)) (congrArg (cA w) (sM_i e).symm) ?_
  refine r_aload_n C (k := 0) rfl rfl dX11_tries_0 ?_
  refine og_11_0 C (hW.ok k11) wm7_67 dX11_tries_1 ?_
  refine r_iconst C (v := 0) rfl dX11_tries_4 ?_
  refine r_aload_n C (k := 0) rfl rfl dX11_tries_5 ?_
  refine og_11_3 C (hW.ok k11) wm7_70 dX11_tries_6 ?_
  refine r_iconst C (v := 0) rfl dX11_tries_9 ?_
  obtain ⟨t2, ht2, hF⟩ := ob1_e hF
  refine r_callS C (d' := 0) [.ref (wAd w (12, 12, 0, 0)), .int 0, .ref (wAd w (12, 12, 0, 3)), .int 0] (c_X11_copies hW (show (sM Ω t).2.1 = t from rfl) N 0 (by unfold okMa; decide) 0 3 (by unfold okMa; decide) 0 ht2 rfl) myX11_copies wm6_182 rfl (kR rfl) (by decide) (kR rfl) rfl dX11_tries_10 ?_
  cases hF
  exact r_return C dX11_tries_13
theorem dX11_laidBack_0 : decode cX11_laidBack 0 = .ok (.aload_n 0, 1) := by decide +kernel
theorem dX11_laidBack_1 : decode cX11_laidBack 1 = .ok (.getfield 19, 3) := by decide +kernel
theorem dX11_laidBack_4 : decode cX11_laidBack 4 = .ok (.iconst 0, 1) := by decide +kernel
theorem dX11_laidBack_5 : decode cX11_laidBack 5 = .ok (.aload_n 0, 1) := by decide +kernel
theorem dX11_laidBack_6 : decode cX11_laidBack 6 = .ok (.getfield 7, 3) := by decide +kernel
theorem dX11_laidBack_9 : decode cX11_laidBack 9 = .ok (.iconst 0, 1) := by decide +kernel
theorem dX11_laidBack_10 : decode cX11_laidBack 10 = .ok (.invokestatic 61, 3) := by decide +kernel
theorem dX11_laidBack_13 : decode cX11_laidBack 13 = .ok (.iload_n 1, 1) := by decide +kernel
theorem dX11_laidBack_14 : decode cX11_laidBack 14 = .ok (.ireturn, 1) := by decide +kernel
def F_X11_laidBack (N : Nat) (a1 : Int32) (t : HV) : Option (Int32 × (HV)) := (ob1 (F_X11_copies N 3 0 0 0 t) fun t2 => some (a1, t2))
theorem c_X11_laidBack {w : WP} (hW : gWM w) {Ω : OM}  {t : HV} (e : Ω.2.1 = t) (N : Nat) (a1 : Int32) {v : Int32} {t' : HV} (hF : F_X11_laidBack N a1 t = some (v, t')) {Ω' : OM} (e2 : (sM Ω t') = Ω') : gM w 1 yX11_laidBack cX11_laidBack 2 (some .int) [.ref (wAd w (11, 12, 0, 0)), .int a1] (cA w Ω) (some (.int v)) (cA w Ω') := by
  refine gM_of "HedgeMessagesModel" rfl (by decide) (kR rfl) fun X C => ?_
  unfold F_X11_laidBack at hF
  subst e2
  show gV w X _ _ 0 [(0, .ref (wAd w (11, 12, 0, 0))), (1, .int a1)] []
  refine r_ct (ct' := cA w (sM Ω t)) (congrArg (cA w) (sM_i e).symm) ?_
  refine r_aload_n C (k := 0) rfl rfl dX11_laidBack_0 ?_
  refine og_11_3 C (hW.ok k11) wm7_70 dX11_laidBack_1 ?_
  refine r_iconst C (v := 0) rfl dX11_laidBack_4 ?_
  refine r_aload_n C (k := 0) rfl rfl dX11_laidBack_5 ?_
  refine og_11_0 C (hW.ok k11) wm7_67 dX11_laidBack_6 ?_
  refine r_iconst C (v := 0) rfl dX11_laidBack_9 ?_
  obtain ⟨t2, ht2, hF⟩ := ob1_e hF
  refine r_callS C (d' := 0) [.ref (wAd w (12, 12, 0, 3)), .int 0, .ref (wAd w (12, 12, 0, 0)), .int 0] (c_X11_copies hW (show (sM Ω t).2.1 = t from rfl) N 3 (by unfold okMa; decide) 0 0 (by unfold okMa; decide) 0 ht2 rfl) myX11_copies wm6_182 rfl (kR rfl) (by decide) (kR rfl) rfl dX11_laidBack_10 ?_
  refine r_iload_n C (k := 1) rfl rfl dX11_laidBack_13 ?_
  cases hF
  exact r_ireturn C dX11_laidBack_14
theorem dX11_of_0 : decode cX11_of 0 = .ok (.aload_n 0, 1) := by decide +kernel
theorem dX11_of_1 : decode cX11_of 1 = .ok (.getfield 7, 3) := by decide +kernel
theorem dX11_of_4 : decode cX11_of 4 = .ok (.bipush 22, 2) := by decide +kernel
theorem dX11_of_6 : decode cX11_of 6 = .ok (.iconst 5, 1) := by decide +kernel
theorem dX11_of_7 : decode cX11_of 7 = .ok (.iload_n 1, 1) := by decide +kernel
theorem dX11_of_8 : decode cX11_of 8 = .ok (.imul, 1) := by decide +kernel
theorem dX11_of_9 : decode cX11_of 9 = .ok (.iadd, 1) := by decide +kernel
theorem dX11_of_10 : decode cX11_of 10 = .ok (.iload_n 2, 1) := by decide +kernel
theorem dX11_of_11 : decode cX11_of 11 = .ok (.iadd, 1) := by decide +kernel
theorem dX11_of_12 : decode cX11_of 12 = .ok (.iaload, 1) := by decide +kernel
theorem dX11_of_13 : decode cX11_of 13 = .ok (.ireturn, 1) := by decide +kernel
def F_X11_of (a1 : Int32) (a2 : Int32) (t : HV) : Option (Int32) := (if vpb ((22 + (5 * a1)) + a2) 760 = true then some (ag t 0 ((22 + (5 * a1)) + a2)) else none)
theorem c_X11_of {w : WP} (hW : gWM w) {Ω : OM}  {t : HV} (e : Ω.2.1 = t) (a1 : Int32) (a2 : Int32) {v : Int32} (hF : F_X11_of a1 a2 t = some v) : gM w 0 yX11_of cX11_of 3 (some .int) [.ref (wAd w (11, 12, 0, 0)), .int a1, .int a2] (cA w Ω) (some (.int v)) (cA w Ω) := by
  refine gM_of "HedgeMessagesModel" rfl (by decide) (kR rfl) fun X C => ?_
  unfold F_X11_of at hF
  show gV w X _ _ 0 [(0, .ref (wAd w (11, 12, 0, 0))), (1, .int a1), (2, .int a2)] []
  refine r_aload_n C (k := 0) rfl rfl dX11_of_0 ?_
  refine og_11_0 C (hW.ok k11) wm7_67 dX11_of_1 ?_
  refine r_bipush C (v := 22) rfl dX11_of_4 ?_
  refine r_iconst C (v := 5) rfl dX11_of_6 ?_
  refine r_iload_n C (k := 1) rfl rfl dX11_of_7 ?_
  refine r_imul C dX11_of_8 ?_
  refine r_iadd C dX11_of_9 ?_
  refine r_iload_n C (k := 2) rfl rfl dX11_of_10 ?_
  refine r_iadd C dX11_of_11 ?_
  obtain ⟨b1, hF⟩ := gd_e hF
  refine m_ald C (hW.ok (k12 (a := 0) (by unfold okMa; decide))) e rfl b1 dX11_of_12 ?_
  cases hF
  exact r_ireturn C dX11_of_13
theorem dX11_puts_0 : decode cX11_puts 0 = .ok (.aload_n 0, 1) := by decide +kernel
theorem dX11_puts_1 : decode cX11_puts 1 = .ok (.getfield 7, 3) := by decide +kernel
theorem dX11_puts_4 : decode cX11_puts 4 = .ok (.bipush 22, 2) := by decide +kernel
theorem dX11_puts_6 : decode cX11_puts 6 = .ok (.iconst 5, 1) := by decide +kernel
theorem dX11_puts_7 : decode cX11_puts 7 = .ok (.iload_n 1, 1) := by decide +kernel
theorem dX11_puts_8 : decode cX11_puts 8 = .ok (.imul, 1) := by decide +kernel
theorem dX11_puts_9 : decode cX11_puts 9 = .ok (.iadd, 1) := by decide +kernel
theorem dX11_puts_10 : decode cX11_puts 10 = .ok (.iload_n 2, 1) := by decide +kernel
theorem dX11_puts_11 : decode cX11_puts 11 = .ok (.iadd, 1) := by decide +kernel
theorem dX11_puts_12 : decode cX11_puts 12 = .ok (.iload_n 3, 1) := by decide +kernel
theorem dX11_puts_13 : decode cX11_puts 13 = .ok (.iastore, 1) := by decide +kernel
theorem dX11_puts_14 : decode cX11_puts 14 = .ok (.return_, 1) := by decide +kernel
def F_X11_puts (a1 : Int32) (a2 : Int32) (a3 : Int32) (t : HV) : Option (HV) := (if vpb ((22 + (5 * a1)) + a2) 760 = true then (lt (aw t 0 ((22 + (5 * a1)) + a2) a3) fun t2 => some t2) else none)
theorem c_X11_puts {w : WP} (hW : gWM w) {Ω : OM}  {t : HV} (e : Ω.2.1 = t) (a1 : Int32) (a2 : Int32) (a3 : Int32) {t' : HV} (hF : F_X11_puts a1 a2 a3 t = some t') {Ω' : OM} (e2 : (sM Ω t') = Ω') : gM w 0 yX11_puts cX11_puts 4 none [.ref (wAd w (11, 12, 0, 0)), .int a1, .int a2, .int a3] (cA w Ω) none (cA w Ω') := by
  refine gM_of "HedgeMessagesModel" rfl (by decide) (kR rfl) fun X C => ?_
  unfold F_X11_puts at hF
  subst e2
  show gV w X _ _ 0 [(0, .ref (wAd w (11, 12, 0, 0))), (1, .int a1), (2, .int a2), (3, .int a3)] []
  refine r_ct (ct' := cA w (sM Ω t)) (congrArg (cA w) (sM_i e).symm) ?_
  refine r_aload_n C (k := 0) rfl rfl dX11_puts_0 ?_
  refine og_11_0 C (hW.ok k11) wm7_67 dX11_puts_1 ?_
  refine r_bipush C (v := 22) rfl dX11_puts_4 ?_
  refine r_iconst C (v := 5) rfl dX11_puts_6 ?_
  refine r_iload_n C (k := 1) rfl rfl dX11_puts_7 ?_
  refine r_imul C dX11_puts_8 ?_
  refine r_iadd C dX11_puts_9 ?_
  refine r_iload_n C (k := 2) rfl rfl dX11_puts_10 ?_
  refine r_iadd C dX11_puts_11 ?_
  refine r_iload_n C (k := 3) rfl rfl dX11_puts_12 ?_
  obtain ⟨b1, hF⟩ := gd_e hF
  obtain ⟨t2, et2, hF⟩ := lt_e hF
  refine m_ast C hW.x (hW.fr (k12 (a := 0) (by unfold okMa; decide))) (show (sM Ω t).2.1 = t from rfl) rfl b1 dX11_puts_13 (congrArg (sM Ω) et2) ?_
  cases hF
  exact r_return C dX11_puts_14
theorem dX11_isSlot_0 : decode cX11_isSlot 0 = .ok (.iload_n 1, 1) := by decide +kernel
theorem dX11_isSlot_1 : decode cX11_isSlot 1 = .ok (.i2l, 1) := by decide +kernel
theorem dX11_isSlot_2 : decode cX11_isSlot 2 = .ok (.lconst 0, 1) := by decide +kernel
theorem dX11_isSlot_3 : decode cX11_isSlot 3 = .ok (.aload_n 0, 1) := by decide +kernel
theorem dX11_isSlot_4 : decode cX11_isSlot 4 = .ok (.getfield 7, 3) := by decide +kernel
theorem dX11_isSlot_7 : decode cX11_isSlot 7 = .ok (.iconst 0, 1) := by decide +kernel
theorem dX11_isSlot_8 : decode cX11_isSlot 8 = .ok (.iaload, 1) := by decide +kernel
theorem dX11_isSlot_9 : decode cX11_isSlot 9 = .ok (.iconst 1, 1) := by decide +kernel
theorem dX11_isSlot_10 : decode cX11_isSlot 10 = .ok (.isub, 1) := by decide +kernel
theorem dX11_isSlot_11 : decode cX11_isSlot 11 = .ok (.i2l, 1) := by decide +kernel
theorem dX11_isSlot_12 : decode cX11_isSlot 12 = .ok (.invokestatic 65, 3) := by decide +kernel
theorem dX11_isSlot_15 : decode cX11_isSlot 15 = .ok (.ireturn, 1) := by decide +kernel
def F_X11_isSlot (a1 : Int32) (t : HV) : Option (Bool) := (if vpb 0 760 = true then some (F_X11_in ((a1 : Int32).toInt64) (0 : Int64) ((((ag t 0 0) - 1) : Int32).toInt64)) else none)
theorem c_X11_isSlot {w : WP} (hW : gWM w) {Ω : OM}  {t : HV} (e : Ω.2.1 = t) (a1 : Int32) {v : Bool} (hF : F_X11_isSlot a1 t = some v) : gM w 1 yX11_isSlot cX11_isSlot 2 (some .boolean) [.ref (wAd w (11, 12, 0, 0)), .int a1] (cA w Ω) (some (.int (b2i v))) (cA w Ω) := by
  refine gM_of "HedgeMessagesModel" rfl (by decide) (kR rfl) fun X C => ?_
  unfold F_X11_isSlot at hF
  show gV w X _ _ 0 [(0, .ref (wAd w (11, 12, 0, 0))), (1, .int a1)] []
  refine r_iload_n C (k := 1) rfl rfl dX11_isSlot_0 ?_
  refine r_i2l C (v := ((a1 : Int32).toInt64)) rfl dX11_isSlot_1 ?_
  refine r_lconst C (v := 0) rfl dX11_isSlot_2 ?_
  refine r_aload_n C (k := 0) rfl rfl dX11_isSlot_3 ?_
  refine og_11_0 C (hW.ok k11) wm7_67 dX11_isSlot_4 ?_
  refine r_iconst C (v := 0) rfl dX11_isSlot_7 ?_
  obtain ⟨b1, hF⟩ := gd_e hF
  refine m_ald C (hW.ok (k12 (a := 0) (by unfold okMa; decide))) e rfl b1 dX11_isSlot_8 ?_
  refine r_iconst C (v := 1) rfl dX11_isSlot_9 ?_
  refine r_isub C dX11_isSlot_10 ?_
  refine r_i2l C (v := ((((ag t 0 0) - 1) : Int32).toInt64)) rfl dX11_isSlot_11 ?_
  refine r_callS C (d' := 0) [.long ((a1 : Int32).toInt64), .long (0 : Int64), .long ((((ag t 0 0) - 1) : Int32).toInt64)] (c_X11_in ((a1 : Int32).toInt64) (0 : Int64) ((((ag t 0 0) - 1) : Int32).toInt64) rfl) myX11_in wm6_208 rfl (kR rfl) (by decide) (kR rfl) rfl dX11_isSlot_12 ?_
  cases hF
  exact r_zreturn C _ rfl dX11_isSlot_15
theorem dX11_isGardener_0 : decode cX11_isGardener 0 = .ok (.iload_n 0, 1) := by decide +kernel
theorem dX11_isGardener_1 : decode cX11_isGardener 1 = .ok (.i2l, 1) := by decide +kernel
theorem dX11_isGardener_2 : decode cX11_isGardener 2 = .ok (.lconst 0, 1) := by decide +kernel
theorem dX11_isGardener_3 : decode cX11_isGardener 3 = .ok (.lconst 1, 1) := by decide +kernel
theorem dX11_isGardener_4 : decode cX11_isGardener 4 = .ok (.invokestatic 65, 3) := by decide +kernel
theorem dX11_isGardener_7 : decode cX11_isGardener 7 = .ok (.ireturn, 1) := by decide +kernel
def F_X11_isGardener (a0 : Int32) : Bool := (F_X11_in ((a0 : Int32).toInt64) (0 : Int64) (1 : Int64))
theorem c_X11_isGardener {w : WP}  {ct : CT}  (a0 : Int32) {v : Bool} (hF : F_X11_isGardener a0 = v) : gM w 1 yX11_isGardener cX11_isGardener 1 (some .boolean) [.int a0] (ct) (some (.int (b2i v))) (ct) := by
  refine gM_of "HedgeMessagesModel" rfl (by decide) (kR rfl) fun X C => ?_
  unfold F_X11_isGardener at hF
  show gV w X _ _ 0 [(0, .int a0)] []
  refine r_iload_n C (k := 0) rfl rfl dX11_isGardener_0 ?_
  refine r_i2l C (v := ((a0 : Int32).toInt64)) rfl dX11_isGardener_1 ?_
  refine r_lconst C (v := 0) rfl dX11_isGardener_2 ?_
  refine r_lconst C (v := 1) rfl dX11_isGardener_3 ?_
  refine r_callS C (d' := 0) [.long ((a0 : Int32).toInt64), .long (0 : Int64), .long (1 : Int64)] (c_X11_in ((a0 : Int32).toInt64) (0 : Int64) (1 : Int64) rfl) myX11_in wm6_208 rfl (kR rfl) (by decide) (kR rfl) rfl dX11_isGardener_4 ?_
  cases hF
  exact r_zreturn C _ rfl dX11_isGardener_7
theorem dX11_hasTwig_0 : decode cX11_hasTwig 0 = .ok (.aload_n 0, 1) := by decide +kernel
theorem dX11_hasTwig_1 : decode cX11_hasTwig 1 = .ok (.iload_n 1, 1) := by decide +kernel
theorem dX11_hasTwig_2 : decode cX11_hasTwig 2 = .ok (.iconst 0, 1) := by decide +kernel
theorem dX11_hasTwig_3 : decode cX11_hasTwig 3 = .ok (.invokevirtual 69, 3) := by decide +kernel
theorem dX11_hasTwig_6 : decode cX11_hasTwig 6 = .ok (.ifCond .le 7, 3) := by decide +kernel
theorem dX11_hasTwig_9 : decode cX11_hasTwig 9 = .ok (.iconst 1, 1) := by decide +kernel
theorem dX11_hasTwig_10 : decode cX11_hasTwig 10 = .ok (.goto 4, 3) := by decide +kernel
theorem dX11_hasTwig_13 : decode cX11_hasTwig 13 = .ok (.iconst 0, 1) := by decide +kernel
theorem dX11_hasTwig_14 : decode cX11_hasTwig 14 = .ok (.ireturn, 1) := by decide +kernel
def F_X11_hasTwig (a1 : Int32) (t : HV) : Option (Bool) := (ob1 (F_X11_of a1 0 t) fun v1 => (if v1 ≤ 0 then some false else some true))
theorem c_X11_hasTwig {w : WP} (hW : gWM w) {Ω : OM}  {t : HV} (e : Ω.2.1 = t) (a1 : Int32) {v : Bool} (hF : F_X11_hasTwig a1 t = some v) : gM w 1 yX11_hasTwig cX11_hasTwig 2 (some .boolean) [.ref (wAd w (11, 12, 0, 0)), .int a1] (cA w Ω) (some (.int (b2i v))) (cA w Ω) := by
  refine gM_of "HedgeMessagesModel" rfl (by decide) (kR rfl) fun X C => ?_
  unfold F_X11_hasTwig at hF
  show gV w X _ _ 0 [(0, .ref (wAd w (11, 12, 0, 0))), (1, .int a1)] []
  refine r_aload_n C (k := 0) rfl rfl dX11_hasTwig_0 ?_
  refine r_iload_n C (k := 1) rfl rfl dX11_hasTwig_1 ?_
  refine r_iconst C (v := 0) rfl dX11_hasTwig_2 ?_
  obtain ⟨v1, hv1, hF⟩ := ob1_e hF
  refine r_callV C (d' := 0) [.int a1, .int 0] (c_X11_of hW e a1 0 hv1) myX11_of wm7_2 ⟨_, _, _, _, (hW.ok k11), rfl, rfl, rfl, rfl⟩ rfl (kR rfl) (by decide) (kR rfl) rfl dX11_hasTwig_3 ?_
  refine r_if_le C (tgt := 13) rfl dX11_hasTwig_6 (fun hc => ?_) (fun hc => ?_)
  · rw [if_pos hc] at hF
    refine r_iconst C (v := 0) rfl dX11_hasTwig_13 ?_
    cases hF
    exact r_zreturn C false rfl dX11_hasTwig_14
  · rw [if_neg hc] at hF
    refine r_iconst C (v := 1) rfl dX11_hasTwig_9 ?_
    refine r_goto C (tgt := 14) rfl dX11_hasTwig_10 ?_
    cases hF
    exact r_zreturn C true rfl dX11_hasTwig_14
theorem dX11_hasNest_0 : decode cX11_hasNest 0 = .ok (.aload_n 0, 1) := by decide +kernel
theorem dX11_hasNest_1 : decode cX11_hasNest 1 = .ok (.iload_n 1, 1) := by decide +kernel
theorem dX11_hasNest_2 : decode cX11_hasNest 2 = .ok (.invokevirtual 73, 3) := by decide +kernel
theorem dX11_hasNest_5 : decode cX11_hasNest 5 = .ok (.ifCond .eq 16, 3) := by decide +kernel
theorem dX11_hasNest_8 : decode cX11_hasNest 8 = .ok (.aload_n 0, 1) := by decide +kernel
theorem dX11_hasNest_9 : decode cX11_hasNest 9 = .ok (.iload_n 1, 1) := by decide +kernel
theorem dX11_hasNest_10 : decode cX11_hasNest 10 = .ok (.iconst 4, 1) := by decide +kernel
theorem dX11_hasNest_11 : decode cX11_hasNest 11 = .ok (.invokevirtual 69, 3) := by decide +kernel
theorem dX11_hasNest_14 : decode cX11_hasNest 14 = .ok (.ifCond .le 7, 3) := by decide +kernel
theorem dX11_hasNest_17 : decode cX11_hasNest 17 = .ok (.iconst 1, 1) := by decide +kernel
theorem dX11_hasNest_18 : decode cX11_hasNest 18 = .ok (.goto 4, 3) := by decide +kernel
theorem dX11_hasNest_21 : decode cX11_hasNest 21 = .ok (.iconst 0, 1) := by decide +kernel
theorem dX11_hasNest_22 : decode cX11_hasNest 22 = .ok (.ireturn, 1) := by decide +kernel
def F_X11_hasNest (a1 : Int32) (t : HV) : Option (Bool) := (ob1 (F_X11_isSlot a1 t) fun v1 => (if v1 = true then (ob1 (F_X11_of a1 4 t) fun v2 => (if v2 ≤ 0 then some false else some true)) else some false))
theorem c_X11_hasNest {w : WP} (hW : gWM w) {Ω : OM}  {t : HV} (e : Ω.2.1 = t) (a1 : Int32) {v : Bool} (hF : F_X11_hasNest a1 t = some v) : gM w 2 yX11_hasNest cX11_hasNest 2 (some .boolean) [.ref (wAd w (11, 12, 0, 0)), .int a1] (cA w Ω) (some (.int (b2i v))) (cA w Ω) := by
  refine gM_of "HedgeMessagesModel" rfl (by decide) (kR rfl) fun X C => ?_
  unfold F_X11_hasNest at hF
  show gV w X _ _ 0 [(0, .ref (wAd w (11, 12, 0, 0))), (1, .int a1)] []
  refine r_aload_n C (k := 0) rfl rfl dX11_hasNest_0 ?_
  refine r_iload_n C (k := 1) rfl rfl dX11_hasNest_1 ?_
  obtain ⟨v1, hv1, hF⟩ := ob1_e hF
  refine r_callV C (d' := 1) [.int a1] (c_X11_isSlot hW e a1 hv1) myX11_isSlot wm7_27 ⟨_, _, _, _, (hW.ok k11), rfl, rfl, rfl, rfl⟩ rfl (kR rfl) (by decide) (kR rfl) rfl dX11_hasNest_2 ?_
  refine r_if_eq C (tgt := 21) rfl dX11_hasNest_5 (fun hc => ?_) (fun hc => ?_)
  · rw [if_neg (b2i_f hc)] at hF
    refine r_iconst C (v := 0) rfl dX11_hasNest_21 ?_
    cases hF
    exact r_zreturn C false rfl dX11_hasNest_22
  · rw [if_pos (b2i_t hc)] at hF
    refine r_aload_n C (k := 0) rfl rfl dX11_hasNest_8 ?_
    refine r_iload_n C (k := 1) rfl rfl dX11_hasNest_9 ?_
    refine r_iconst C (v := 4) rfl dX11_hasNest_10 ?_
    obtain ⟨v2, hv2, hF⟩ := ob1_e hF
    refine r_callV C (d' := 0) [.int a1, .int 4] (c_X11_of hW e a1 4 hv2) myX11_of wm7_2 ⟨_, _, _, _, (hW.ok k11), rfl, rfl, rfl, rfl⟩ rfl (kR rfl) (by decide) (kR rfl) rfl dX11_hasNest_11 ?_
    refine r_if_le C (tgt := 21) rfl dX11_hasNest_14 (fun hc => ?_) (fun hc => ?_)
    · rw [if_pos hc] at hF
      refine r_iconst C (v := 0) rfl dX11_hasNest_21 ?_
      cases hF
      exact r_zreturn C false rfl dX11_hasNest_22
    · rw [if_neg hc] at hF
      refine r_iconst C (v := 1) rfl dX11_hasNest_17 ?_
      refine r_goto C (tgt := 22) rfl dX11_hasNest_18 ?_
      cases hF
      exact r_zreturn C true rfl dX11_hasNest_22
theorem dX11_isSafe_0 : decode cX11_isSafe 0 = .ok (.aload_n 0, 1) := by decide +kernel
theorem dX11_isSafe_1 : decode cX11_isSafe 1 = .ok (.iload_n 1, 1) := by decide +kernel
theorem dX11_isSafe_2 : decode cX11_isSafe 2 = .ok (.invokevirtual 77, 3) := by decide +kernel
theorem dX11_isSafe_5 : decode cX11_isSafe 5 = .ok (.ifCond .ne 23, 3) := by decide +kernel
theorem dX11_isSafe_8 : decode cX11_isSafe 8 = .ok (.aload_n 0, 1) := by decide +kernel
theorem dX11_isSafe_9 : decode cX11_isSafe 9 = .ok (.iload_n 1, 1) := by decide +kernel
theorem dX11_isSafe_10 : decode cX11_isSafe 10 = .ok (.iconst 1, 1) := by decide +kernel
theorem dX11_isSafe_11 : decode cX11_isSafe 11 = .ok (.isub, 1) := by decide +kernel
theorem dX11_isSafe_12 : decode cX11_isSafe 12 = .ok (.invokevirtual 77, 3) := by decide +kernel
theorem dX11_isSafe_15 : decode cX11_isSafe 15 = .ok (.ifCond .ne 13, 3) := by decide +kernel
theorem dX11_isSafe_18 : decode cX11_isSafe 18 = .ok (.aload_n 0, 1) := by decide +kernel
theorem dX11_isSafe_19 : decode cX11_isSafe 19 = .ok (.iload_n 1, 1) := by decide +kernel
theorem dX11_isSafe_20 : decode cX11_isSafe 20 = .ok (.iconst 1, 1) := by decide +kernel
theorem dX11_isSafe_21 : decode cX11_isSafe 21 = .ok (.iadd, 1) := by decide +kernel
theorem dX11_isSafe_22 : decode cX11_isSafe 22 = .ok (.invokevirtual 77, 3) := by decide +kernel
theorem dX11_isSafe_25 : decode cX11_isSafe 25 = .ok (.ifCond .eq 7, 3) := by decide +kernel
theorem dX11_isSafe_28 : decode cX11_isSafe 28 = .ok (.iconst 1, 1) := by decide +kernel
theorem dX11_isSafe_29 : decode cX11_isSafe 29 = .ok (.goto 4, 3) := by decide +kernel
theorem dX11_isSafe_32 : decode cX11_isSafe 32 = .ok (.iconst 0, 1) := by decide +kernel
theorem dX11_isSafe_33 : decode cX11_isSafe 33 = .ok (.ireturn, 1) := by decide +kernel
def F_X11_isSafe (a1 : Int32) (t : HV) : Option (Bool) := (ob1 (F_X11_hasNest a1 t) fun v1 => (if v1 = true then some true else (ob1 (F_X11_hasNest (a1 - 1) t) fun v2 => (if v2 = true then some true else (ob1 (F_X11_hasNest (a1 + 1) t) fun v3 => (if v3 = true then some true else some false))))))
theorem c_X11_isSafe {w : WP} (hW : gWM w) {Ω : OM}  {t : HV} (e : Ω.2.1 = t) (a1 : Int32) {v : Bool} (hF : F_X11_isSafe a1 t = some v) : gM w 3 yX11_isSafe cX11_isSafe 2 (some .boolean) [.ref (wAd w (11, 12, 0, 0)), .int a1] (cA w Ω) (some (.int (b2i v))) (cA w Ω) := by
  refine gM_of "HedgeMessagesModel" rfl (by decide) (kR rfl) fun X C => ?_
  unfold F_X11_isSafe at hF
  show gV w X _ _ 0 [(0, .ref (wAd w (11, 12, 0, 0))), (1, .int a1)] []
  refine r_aload_n C (k := 0) rfl rfl dX11_isSafe_0 ?_
  refine r_iload_n C (k := 1) rfl rfl dX11_isSafe_1 ?_
  obtain ⟨v1, hv1, hF⟩ := ob1_e hF
  refine r_callV C (d' := 2) [.int a1] (c_X11_hasNest hW e a1 hv1) myX11_hasNest wm7_23 ⟨_, _, _, _, (hW.ok k11), rfl, rfl, rfl, rfl⟩ rfl (kR rfl) (by decide) (kR rfl) rfl dX11_isSafe_2 ?_
  refine r_if_ne C (tgt := 28) rfl dX11_isSafe_5 (fun hc => ?_) (fun hc => ?_)
  · rw [if_pos (b2i_t hc)] at hF
    refine r_iconst C (v := 1) rfl dX11_isSafe_28 ?_
    refine r_goto C (tgt := 33) rfl dX11_isSafe_29 ?_
    cases hF
    exact r_zreturn C true rfl dX11_isSafe_33
  · rw [if_neg (b2i_f hc)] at hF
    refine r_aload_n C (k := 0) rfl rfl dX11_isSafe_8 ?_
    refine r_iload_n C (k := 1) rfl rfl dX11_isSafe_9 ?_
    refine r_iconst C (v := 1) rfl dX11_isSafe_10 ?_
    refine r_isub C dX11_isSafe_11 ?_
    obtain ⟨v2, hv2, hF⟩ := ob1_e hF
    refine r_callV C (d' := 2) [.int (a1 - 1)] (c_X11_hasNest hW e (a1 - 1) hv2) myX11_hasNest wm7_23 ⟨_, _, _, _, (hW.ok k11), rfl, rfl, rfl, rfl⟩ rfl (kR rfl) (by decide) (kR rfl) rfl dX11_isSafe_12 ?_
    refine r_if_ne C (tgt := 28) rfl dX11_isSafe_15 (fun hc => ?_) (fun hc => ?_)
    · rw [if_pos (b2i_t hc)] at hF
      refine r_iconst C (v := 1) rfl dX11_isSafe_28 ?_
      refine r_goto C (tgt := 33) rfl dX11_isSafe_29 ?_
      cases hF
      exact r_zreturn C true rfl dX11_isSafe_33
    · rw [if_neg (b2i_f hc)] at hF
      refine r_aload_n C (k := 0) rfl rfl dX11_isSafe_18 ?_
      refine r_iload_n C (k := 1) rfl rfl dX11_isSafe_19 ?_
      refine r_iconst C (v := 1) rfl dX11_isSafe_20 ?_
      refine r_iadd C dX11_isSafe_21 ?_
      obtain ⟨v3, hv3, hF⟩ := ob1_e hF
      refine r_callV C (d' := 2) [.int (a1 + 1)] (c_X11_hasNest hW e (a1 + 1) hv3) myX11_hasNest wm7_23 ⟨_, _, _, _, (hW.ok k11), rfl, rfl, rfl, rfl⟩ rfl (kR rfl) (by decide) (kR rfl) rfl dX11_isSafe_22 ?_
      refine r_if_eq C (tgt := 32) rfl dX11_isSafe_25 (fun hc => ?_) (fun hc => ?_)
      · rw [if_neg (b2i_f hc)] at hF
        refine r_iconst C (v := 0) rfl dX11_isSafe_32 ?_
        cases hF
        exact r_zreturn C false rfl dX11_isSafe_33
      · rw [if_pos (b2i_t hc)] at hF
        refine r_iconst C (v := 1) rfl dX11_isSafe_28 ?_
        refine r_goto C (tgt := 33) rfl dX11_isSafe_29 ?_
        cases hF
        exact r_zreturn C true rfl dX11_isSafe_33
theorem dX11_nests_0 : decode cX11_nests 0 = .ok (.iconst 0, 1) := by decide +kernel
theorem dX11_nests_1 : decode cX11_nests 1 = .ok (.istore_n 1, 1) := by decide +kernel
theorem dX11_nests_2 : decode cX11_nests 2 = .ok (.iconst 0, 1) := by decide +kernel
theorem dX11_nests_3 : decode cX11_nests 3 = .ok (.istore_n 2, 1) := by decide +kernel
theorem dX11_nests_4 : decode cX11_nests 4 = .ok (.iload_n 2, 1) := by decide +kernel
theorem dX11_nests_5 : decode cX11_nests 5 = .ok (.aload_n 0, 1) := by decide +kernel
theorem dX11_nests_6 : decode cX11_nests 6 = .ok (.getfield 7, 3) := by decide +kernel
theorem dX11_nests_9 : decode cX11_nests 9 = .ok (.iconst 0, 1) := by decide +kernel
theorem dX11_nests_10 : decode cX11_nests 10 = .ok (.iaload, 1) := by decide +kernel
theorem dX11_nests_11 : decode cX11_nests 11 = .ok (.if_icmp .ge 29, 3) := by decide +kernel
theorem dX11_nests_14 : decode cX11_nests 14 = .ok (.iload_n 1, 1) := by decide +kernel
theorem dX11_nests_15 : decode cX11_nests 15 = .ok (.aload_n 0, 1) := by decide +kernel
theorem dX11_nests_16 : decode cX11_nests 16 = .ok (.iload_n 2, 1) := by decide +kernel
theorem dX11_nests_17 : decode cX11_nests 17 = .ok (.iconst 4, 1) := by decide +kernel
theorem dX11_nests_18 : decode cX11_nests 18 = .ok (.invokevirtual 69, 3) := by decide +kernel
theorem dX11_nests_21 : decode cX11_nests 21 = .ok (.ifCond .le 7, 3) := by decide +kernel
theorem dX11_nests_24 : decode cX11_nests 24 = .ok (.iconst 1, 1) := by decide +kernel
theorem dX11_nests_25 : decode cX11_nests 25 = .ok (.goto 4, 3) := by decide +kernel
theorem dX11_nests_28 : decode cX11_nests 28 = .ok (.iconst 0, 1) := by decide +kernel
theorem dX11_nests_29 : decode cX11_nests 29 = .ok (.invokestatic 80, 3) := by decide +kernel
theorem dX11_nests_32 : decode cX11_nests 32 = .ok (.iadd, 1) := by decide +kernel
theorem dX11_nests_33 : decode cX11_nests 33 = .ok (.istore_n 1, 1) := by decide +kernel
theorem dX11_nests_34 : decode cX11_nests 34 = .ok (.iinc 2 1, 3) := by decide +kernel
theorem dX11_nests_37 : decode cX11_nests 37 = .ok (.goto (-33), 3) := by decide +kernel
theorem dX11_nests_40 : decode cX11_nests 40 = .ok (.iload_n 1, 1) := by decide +kernel
theorem dX11_nests_41 : decode cX11_nests 41 = .ok (.ireturn, 1) := by decide +kernel
def st_X11_nests_4 (N : Nat) (l1 : Int32) (l2 : Int32) (t : HV) : Option ((Int32 × Int32) ⊕ (Int32)) := (if vpb 0 760 = true then (if (ag t 0 0) ≤ l2 then some (.inr l1) else (ob1 (F_X11_of l2 4 t) fun v2 => (if v2 ≤ 0 then some (.inl ((l1 + (F_X11_truth false)), (l2 + 1))) else some (.inl ((l1 + (F_X11_truth true)), (l2 + 1)))))) else none)
def F_X11_nests (N : Nat) (t : HV) : Option (Int32) := (lpN N (fun z => st_X11_nests_4 N z.1 z.2 t) (0, 0))
theorem lp_X11_nests_4 {w : WP} (hW : gWM w) {Ω : OM}  {t : HV} (e : Ω.2.1 = t)   {N : Nat} {X : CX} (C : gC w X cX11_nests "HedgeMessagesModel" (some .int) 1 3) {v : Int32}  : ∀ (n : Nat) (l1 : Int32) (l2 : Int32), lpN n (fun z : Int32 × Int32 => st_X11_nests_4 N z.1 z.2 t) (l1, l2) = some v → gV w X (some (.int v), cA w Ω) (cA w Ω) 4 [(0, .ref (wAd w (11, 12, 0, 0))), (1, .int l1), (2, .int l2)] [] := by
  intro n
  induction n with
  | zero => intro l1 l2 hL; exact lpN_0 hL
  | succ n ih =>
    intro l1 l2 hL
    obtain ⟨q9, hF, hL⟩ := lpN_e hL
    change st_X11_nests_4 N l1 l2 t = some q9 at hF
    unfold st_X11_nests_4 at hF
    refine r_iload_n C (k := 2) rfl rfl dX11_nests_4 ?_
    refine r_aload_n C (k := 0) rfl rfl dX11_nests_5 ?_
    refine og_11_0 C (hW.ok k11) wm7_67 dX11_nests_6 ?_
    refine r_iconst C (v := 0) rfl dX11_nests_9 ?_
    obtain ⟨b1, hF⟩ := gd_e hF
    refine m_ald C (hW.ok (k12 (a := 0) (by unfold okMa; decide))) e rfl b1 dX11_nests_10 ?_
    refine r_icmp_ge C (tgt := 40) rfl dX11_nests_11 (fun hc => ?_) (fun hc => ?_)
    · rw [if_pos hc] at hF
      refine r_iload_n C (k := 1) rfl rfl dX11_nests_40 ?_
      cases hF
      change some _ = some _ at hL
      cases hL
      exact r_ireturn C dX11_nests_41
    · rw [if_neg hc] at hF
      refine r_iload_n C (k := 1) rfl rfl dX11_nests_14 ?_
      refine r_aload_n C (k := 0) rfl rfl dX11_nests_15 ?_
      refine r_iload_n C (k := 2) rfl rfl dX11_nests_16 ?_
      refine r_iconst C (v := 4) rfl dX11_nests_17 ?_
      obtain ⟨v2, hv2, hF⟩ := ob1_e hF
      refine r_callV C (d' := 0) [.int l2, .int 4] (c_X11_of hW e l2 4 hv2) myX11_of wm7_2 ⟨_, _, _, _, (hW.ok k11), rfl, rfl, rfl, rfl⟩ rfl (kR rfl) (by decide) (kR rfl) rfl dX11_nests_18 ?_
      refine r_if_le C (tgt := 28) rfl dX11_nests_21 (fun hc => ?_) (fun hc => ?_)
      · rw [if_pos hc] at hF
        refine r_iconst C (v := 0) rfl dX11_nests_28 ?_
        refine r_callS C (d' := 0) [.int (b2i false)] (c_X11_truth false rfl) myX11_truth wm7_35 rfl (kR rfl) (by decide) (kR rfl) rfl dX11_nests_29 ?_
        refine r_iadd C dX11_nests_32 ?_
        refine r_istore_n C (lo' := [(1, .int (l1 + (F_X11_truth false))), (0, .ref (wAd w (11, 12, 0, 0))), (2, .int l2)]) rfl (by decide) rfl dX11_nests_33 ?_
        refine r_iinc C (k := 2) (v := (l2 + 1)) (lo' := [(2, .int (l2 + 1)), (1, .int (l1 + (F_X11_truth false))), (0, .ref (wAd w (11, 12, 0, 0)))]) rfl rfl (by decide) rfl dX11_nests_34 ?_
        refine r_goto C (tgt := 4) rfl dX11_nests_37 ?_
        cases hF
        change lpN n _ _ = some _ at hL
        refine r_lo [2, 1, 0] (lo' := [(0, .ref (wAd w (11, 12, 0, 0))), (1, .int (l1 + (F_X11_truth false))), (2, .int (l2 + 1))]) rfl ?_
        exact ih (l1 + (F_X11_truth false)) (l2 + 1) hL
      · rw [if_neg hc] at hF
        refine r_iconst C (v := 1) rfl dX11_nests_24 ?_
        refine r_goto C (tgt := 29) rfl dX11_nests_25 ?_
        refine r_callS C (d' := 0) [.int (b2i true)] (c_X11_truth true rfl) myX11_truth wm7_35 rfl (kR rfl) (by decide) (kR rfl) rfl dX11_nests_29 ?_
        refine r_iadd C dX11_nests_32 ?_
        refine r_istore_n C (lo' := [(1, .int (l1 + (F_X11_truth true))), (0, .ref (wAd w (11, 12, 0, 0))), (2, .int l2)]) rfl (by decide) rfl dX11_nests_33 ?_
        refine r_iinc C (k := 2) (v := (l2 + 1)) (lo' := [(2, .int (l2 + 1)), (1, .int (l1 + (F_X11_truth true))), (0, .ref (wAd w (11, 12, 0, 0)))]) rfl rfl (by decide) rfl dX11_nests_34 ?_
        refine r_goto C (tgt := 4) rfl dX11_nests_37 ?_
        cases hF
        change lpN n _ _ = some _ at hL
        refine r_lo [2, 1, 0] (lo' := [(0, .ref (wAd w (11, 12, 0, 0))), (1, .int (l1 + (F_X11_truth true))), (2, .int (l2 + 1))]) rfl ?_
        exact ih (l1 + (F_X11_truth true)) (l2 + 1) hL
theorem c_X11_nests {w : WP} (hW : gWM w) {Ω : OM}  {t : HV} (e : Ω.2.1 = t) (N : Nat)  {v : Int32} (hF : F_X11_nests N t = some v) : gM w 1 yX11_nests cX11_nests 3 (some .int) [.ref (wAd w (11, 12, 0, 0))] (cA w Ω) (some (.int v)) (cA w Ω) := by
  refine gM_of "HedgeMessagesModel" rfl (by decide) (kR rfl) fun X C => ?_
  unfold F_X11_nests at hF
  show gV w X _ _ 0 [(0, .ref (wAd w (11, 12, 0, 0)))] []
  refine r_iconst C (v := 0) rfl dX11_nests_0 ?_
  refine r_istore_n C (lo' := [(1, .int 0), (0, .ref (wAd w (11, 12, 0, 0)))]) rfl (by decide) rfl dX11_nests_1 ?_
  refine r_iconst C (v := 0) rfl dX11_nests_2 ?_
  refine r_istore_n C (lo' := [(2, .int 0), (1, .int 0), (0, .ref (wAd w (11, 12, 0, 0)))]) rfl (by decide) rfl dX11_nests_3 ?_
  refine r_lo [2, 1, 0] (lo' := [(0, .ref (wAd w (11, 12, 0, 0))), (1, .int 0), (2, .int 0)]) rfl ?_
  exact lp_X11_nests_4 hW e C N 0 0 hF
theorem dX11_twigs_0 : decode cX11_twigs 0 = .ok (.iconst 0, 1) := by decide +kernel
theorem dX11_twigs_1 : decode cX11_twigs 1 = .ok (.istore_n 1, 1) := by decide +kernel
theorem dX11_twigs_2 : decode cX11_twigs 2 = .ok (.iconst 0, 1) := by decide +kernel
theorem dX11_twigs_3 : decode cX11_twigs 3 = .ok (.istore_n 2, 1) := by decide +kernel
theorem dX11_twigs_4 : decode cX11_twigs 4 = .ok (.iload_n 2, 1) := by decide +kernel
theorem dX11_twigs_5 : decode cX11_twigs 5 = .ok (.aload_n 0, 1) := by decide +kernel
theorem dX11_twigs_6 : decode cX11_twigs 6 = .ok (.getfield 7, 3) := by decide +kernel
theorem dX11_twigs_9 : decode cX11_twigs 9 = .ok (.iconst 0, 1) := by decide +kernel
theorem dX11_twigs_10 : decode cX11_twigs 10 = .ok (.iaload, 1) := by decide +kernel
theorem dX11_twigs_11 : decode cX11_twigs 11 = .ok (.if_icmp .ge 20, 3) := by decide +kernel
theorem dX11_twigs_14 : decode cX11_twigs 14 = .ok (.iload_n 1, 1) := by decide +kernel
theorem dX11_twigs_15 : decode cX11_twigs 15 = .ok (.aload_n 0, 1) := by decide +kernel
theorem dX11_twigs_16 : decode cX11_twigs 16 = .ok (.iload_n 2, 1) := by decide +kernel
theorem dX11_twigs_17 : decode cX11_twigs 17 = .ok (.invokevirtual 84, 3) := by decide +kernel
theorem dX11_twigs_20 : decode cX11_twigs 20 = .ok (.invokestatic 80, 3) := by decide +kernel
theorem dX11_twigs_23 : decode cX11_twigs 23 = .ok (.iadd, 1) := by decide +kernel
theorem dX11_twigs_24 : decode cX11_twigs 24 = .ok (.istore_n 1, 1) := by decide +kernel
theorem dX11_twigs_25 : decode cX11_twigs 25 = .ok (.iinc 2 1, 3) := by decide +kernel
theorem dX11_twigs_28 : decode cX11_twigs 28 = .ok (.goto (-24), 3) := by decide +kernel
theorem dX11_twigs_31 : decode cX11_twigs 31 = .ok (.iload_n 1, 1) := by decide +kernel
theorem dX11_twigs_32 : decode cX11_twigs 32 = .ok (.ireturn, 1) := by decide +kernel
def st_X11_twigs_4 (N : Nat) (l1 : Int32) (l2 : Int32) (t : HV) : Option ((Int32 × Int32) ⊕ (Int32)) := (if vpb 0 760 = true then (if (ag t 0 0) ≤ l2 then some (.inr l1) else (ob1 (F_X11_hasTwig l2 t) fun v2 => some (.inl ((l1 + (F_X11_truth v2)), (l2 + 1))))) else none)
def F_X11_twigs (N : Nat) (t : HV) : Option (Int32) := (lpN N (fun z => st_X11_twigs_4 N z.1 z.2 t) (0, 0))
theorem lp_X11_twigs_4 {w : WP} (hW : gWM w) {Ω : OM}  {t : HV} (e : Ω.2.1 = t)   {N : Nat} {X : CX} (C : gC w X cX11_twigs "HedgeMessagesModel" (some .int) 2 3) {v : Int32}  : ∀ (n : Nat) (l1 : Int32) (l2 : Int32), lpN n (fun z : Int32 × Int32 => st_X11_twigs_4 N z.1 z.2 t) (l1, l2) = some v → gV w X (some (.int v), cA w Ω) (cA w Ω) 4 [(0, .ref (wAd w (11, 12, 0, 0))), (1, .int l1), (2, .int l2)] [] := by
  intro n
  induction n with
  | zero => intro l1 l2 hL; exact lpN_0 hL
  | succ n ih =>
    intro l1 l2 hL
    obtain ⟨q9, hF, hL⟩ := lpN_e hL
    change st_X11_twigs_4 N l1 l2 t = some q9 at hF
    unfold st_X11_twigs_4 at hF
    refine r_iload_n C (k := 2) rfl rfl dX11_twigs_4 ?_
    refine r_aload_n C (k := 0) rfl rfl dX11_twigs_5 ?_
    refine og_11_0 C (hW.ok k11) wm7_67 dX11_twigs_6 ?_
    refine r_iconst C (v := 0) rfl dX11_twigs_9 ?_
    obtain ⟨b1, hF⟩ := gd_e hF
    refine m_ald C (hW.ok (k12 (a := 0) (by unfold okMa; decide))) e rfl b1 dX11_twigs_10 ?_
    refine r_icmp_ge C (tgt := 31) rfl dX11_twigs_11 (fun hc => ?_) (fun hc => ?_)
    · rw [if_pos hc] at hF
      refine r_iload_n C (k := 1) rfl rfl dX11_twigs_31 ?_
      cases hF
      change some _ = some _ at hL
      cases hL
      exact r_ireturn C dX11_twigs_32
    · rw [if_neg hc] at hF
      refine r_iload_n C (k := 1) rfl rfl dX11_twigs_14 ?_
      refine r_aload_n C (k := 0) rfl rfl dX11_twigs_15 ?_
      refine r_iload_n C (k := 2) rfl rfl dX11_twigs_16 ?_
      obtain ⟨v2, hv2, hF⟩ := ob1_e hF
      refine r_callV C (d' := 1) [.int l2] (c_X11_hasTwig hW e l2 hv2) myX11_hasTwig wm6_238 ⟨_, _, _, _, (hW.ok k11), rfl, rfl, rfl, rfl⟩ rfl (kR rfl) (by decide) (kR rfl) rfl dX11_twigs_17 ?_
      refine r_callS C (d' := 0) [.int (b2i v2)] (c_X11_truth v2 rfl) myX11_truth wm7_35 rfl (kR rfl) (by decide) (kR rfl) rfl dX11_twigs_20 ?_
      refine r_iadd C dX11_twigs_23 ?_
      refine r_istore_n C (lo' := [(1, .int (l1 + (F_X11_truth v2))), (0, .ref (wAd w (11, 12, 0, 0))), (2, .int l2)]) rfl (by decide) rfl dX11_twigs_24 ?_
      refine r_iinc C (k := 2) (v := (l2 + 1)) (lo' := [(2, .int (l2 + 1)), (1, .int (l1 + (F_X11_truth v2))), (0, .ref (wAd w (11, 12, 0, 0)))]) rfl rfl (by decide) rfl dX11_twigs_25 ?_
      refine r_goto C (tgt := 4) rfl dX11_twigs_28 ?_
      cases hF
      change lpN n _ _ = some _ at hL
      refine r_lo [2, 1, 0] (lo' := [(0, .ref (wAd w (11, 12, 0, 0))), (1, .int (l1 + (F_X11_truth v2))), (2, .int (l2 + 1))]) rfl ?_
      exact ih (l1 + (F_X11_truth v2)) (l2 + 1) hL
theorem c_X11_twigs {w : WP} (hW : gWM w) {Ω : OM}  {t : HV} (e : Ω.2.1 = t) (N : Nat)  {v : Int32} (hF : F_X11_twigs N t = some v) : gM w 2 yX11_twigs cX11_twigs 3 (some .int) [.ref (wAd w (11, 12, 0, 0))] (cA w Ω) (some (.int v)) (cA w Ω) := by
  refine gM_of "HedgeMessagesModel" rfl (by decide) (kR rfl) fun X C => ?_
  unfold F_X11_twigs at hF
  show gV w X _ _ 0 [(0, .ref (wAd w (11, 12, 0, 0)))] []
  refine r_iconst C (v := 0) rfl dX11_twigs_0 ?_
  refine r_istore_n C (lo' := [(1, .int 0), (0, .ref (wAd w (11, 12, 0, 0)))]) rfl (by decide) rfl dX11_twigs_1 ?_
  refine r_iconst C (v := 0) rfl dX11_twigs_2 ?_
  refine r_istore_n C (lo' := [(2, .int 0), (1, .int 0), (0, .ref (wAd w (11, 12, 0, 0)))]) rfl (by decide) rfl dX11_twigs_3 ?_
  refine r_lo [2, 1, 0] (lo' := [(0, .ref (wAd w (11, 12, 0, 0))), (1, .int 0), (2, .int 0)]) rfl ?_
  exact lp_X11_twigs_4 hW e C N 0 0 hF
theorem dX11_twigComes_0 : decode cX11_twigComes 0 = .ok (.aload_n 0, 1) := by decide +kernel
theorem dX11_twigComes_1 : decode cX11_twigComes 1 = .ok (.iload_n 1, 1) := by decide +kernel
theorem dX11_twigComes_2 : decode cX11_twigComes 2 = .ok (.iconst 0, 1) := by decide +kernel
theorem dX11_twigComes_3 : decode cX11_twigComes 3 = .ok (.iload_n 2, 1) := by decide +kernel
theorem dX11_twigComes_4 : decode cX11_twigComes 4 = .ok (.invokevirtual 87, 3) := by decide +kernel
theorem dX11_twigComes_7 : decode cX11_twigComes 7 = .ok (.aload_n 0, 1) := by decide +kernel
theorem dX11_twigComes_8 : decode cX11_twigComes 8 = .ok (.iload_n 1, 1) := by decide +kernel
theorem dX11_twigComes_9 : decode cX11_twigComes 9 = .ok (.iconst 1, 1) := by decide +kernel
theorem dX11_twigComes_10 : decode cX11_twigComes 10 = .ok (.iload_n 3, 1) := by decide +kernel
theorem dX11_twigComes_11 : decode cX11_twigComes 11 = .ok (.invokevirtual 87, 3) := by decide +kernel
theorem dX11_twigComes_14 : decode cX11_twigComes 14 = .ok (.aload_n 0, 1) := by decide +kernel
theorem dX11_twigComes_15 : decode cX11_twigComes 15 = .ok (.iload_n 1, 1) := by decide +kernel
theorem dX11_twigComes_16 : decode cX11_twigComes 16 = .ok (.iconst 2, 1) := by decide +kernel
theorem dX11_twigComes_17 : decode cX11_twigComes 17 = .ok (.iload 4, 2) := by decide +kernel
theorem dX11_twigComes_19 : decode cX11_twigComes 19 = .ok (.invokevirtual 87, 3) := by decide +kernel
theorem dX11_twigComes_22 : decode cX11_twigComes 22 = .ok (.aload_n 0, 1) := by decide +kernel
theorem dX11_twigComes_23 : decode cX11_twigComes 23 = .ok (.iload_n 1, 1) := by decide +kernel
theorem dX11_twigComes_24 : decode cX11_twigComes 24 = .ok (.iconst 3, 1) := by decide +kernel
theorem dX11_twigComes_25 : decode cX11_twigComes 25 = .ok (.iload 5, 2) := by decide +kernel
theorem dX11_twigComes_27 : decode cX11_twigComes 27 = .ok (.invokevirtual 87, 3) := by decide +kernel
theorem dX11_twigComes_30 : decode cX11_twigComes 30 = .ok (.aload_n 0, 1) := by decide +kernel
theorem dX11_twigComes_31 : decode cX11_twigComes 31 = .ok (.getfield 7, 3) := by decide +kernel
theorem dX11_twigComes_34 : decode cX11_twigComes 34 = .ok (.bipush 8, 2) := by decide +kernel
theorem dX11_twigComes_36 : decode cX11_twigComes 36 = .ok (.dup2, 1) := by decide +kernel
theorem dX11_twigComes_37 : decode cX11_twigComes 37 = .ok (.iaload, 1) := by decide +kernel
theorem dX11_twigComes_38 : decode cX11_twigComes 38 = .ok (.iconst 1, 1) := by decide +kernel
theorem dX11_twigComes_39 : decode cX11_twigComes 39 = .ok (.iadd, 1) := by decide +kernel
theorem dX11_twigComes_40 : decode cX11_twigComes 40 = .ok (.iastore, 1) := by decide +kernel
theorem dX11_twigComes_41 : decode cX11_twigComes 41 = .ok (.return_, 1) := by decide +kernel
def F_X11_twigComes (a1 : Int32) (a2 : Int32) (a3 : Int32) (a4 : Int32) (a5 : Int32) (t : HV) : Option (HV) := (ob1 (F_X11_puts a1 0 a2 t) fun t2 => (ob1 (F_X11_puts a1 1 a3 t2) fun t4 => (ob1 (F_X11_puts a1 2 a4 t4) fun t6 => (ob1 (F_X11_puts a1 3 a5 t6) fun t8 => (if vpb 8 760 = true then (if vpb 8 760 = true then (lt (aw t8 0 8 ((ag t8 0 8) + 1)) fun t11 => some t11) else none) else none)))))
theorem c_X11_twigComes {w : WP} (hW : gWM w) {Ω : OM}  {t : HV} (e : Ω.2.1 = t) (a1 : Int32) (a2 : Int32) (a3 : Int32) (a4 : Int32) (a5 : Int32) {t' : HV} (hF : F_X11_twigComes a1 a2 a3 a4 a5 t = some t') {Ω' : OM} (e2 : (sM Ω t') = Ω') : gM w 1 yX11_twigComes cX11_twigComes 6 none [.ref (wAd w (11, 12, 0, 0)), .int a1, .int a2, .int a3, .int a4, .int a5] (cA w Ω) none (cA w Ω') := by
  refine gM_of "HedgeMessagesModel" rfl (by decide) (kR rfl) fun X C => ?_
  unfold F_X11_twigComes at hF
  subst e2
  show gV w X _ _ 0 [(0, .ref (wAd w (11, 12, 0, 0))), (1, .int a1), (2, .int a2), (3, .int a3), (4, .int a4), (5, .int a5)] []
  refine r_ct (ct' := cA w (sM Ω t)) (congrArg (cA w) (sM_i e).symm) ?_
  refine r_aload_n C (k := 0) rfl rfl dX11_twigComes_0 ?_
  refine r_iload_n C (k := 1) rfl rfl dX11_twigComes_1 ?_
  refine r_iconst C (v := 0) rfl dX11_twigComes_2 ?_
  refine r_iload_n C (k := 2) rfl rfl dX11_twigComes_3 ?_
  obtain ⟨t2, ht2, hF⟩ := ob1_e hF
  refine r_callV C (d' := 0) [.int a1, .int 0, .int a2] (c_X11_puts hW (show (sM Ω t).2.1 = t from rfl) a1 0 a2 ht2 rfl) myX11_puts wm7_14 ⟨_, _, _, _, (hW.ok k11), rfl, rfl, rfl, rfl⟩ rfl (kR rfl) (by decide) (kR rfl) rfl dX11_twigComes_4 ?_
  refine r_aload_n C (k := 0) rfl rfl dX11_twigComes_7 ?_
  refine r_iload_n C (k := 1) rfl rfl dX11_twigComes_8 ?_
  refine r_iconst C (v := 1) rfl dX11_twigComes_9 ?_
  refine r_iload_n C (k := 3) rfl rfl dX11_twigComes_10 ?_
  obtain ⟨t4, ht4, hF⟩ := ob1_e hF
  refine r_callV C (d' := 0) [.int a1, .int 1, .int a3] (c_X11_puts hW (show (sM Ω t2).2.1 = t2 from rfl) a1 1 a3 ht4 rfl) myX11_puts wm7_14 ⟨_, _, _, _, (hW.ok k11), rfl, rfl, rfl, rfl⟩ rfl (kR rfl) (by decide) (kR rfl) rfl dX11_twigComes_11 ?_
  refine r_aload_n C (k := 0) rfl rfl dX11_twigComes_14 ?_
  refine r_iload_n C (k := 1) rfl rfl dX11_twigComes_15 ?_
  refine r_iconst C (v := 2) rfl dX11_twigComes_16 ?_
  refine r_iload C (k := 4) rfl dX11_twigComes_17 ?_
  obtain ⟨t6, ht6, hF⟩ := ob1_e hF
  refine r_callV C (d' := 0) [.int a1, .int 2, .int a4] (c_X11_puts hW (show (sM Ω t4).2.1 = t4 from rfl) a1 2 a4 ht6 rfl) myX11_puts wm7_14 ⟨_, _, _, _, (hW.ok k11), rfl, rfl, rfl, rfl⟩ rfl (kR rfl) (by decide) (kR rfl) rfl dX11_twigComes_19 ?_
  refine r_aload_n C (k := 0) rfl rfl dX11_twigComes_22 ?_
  refine r_iload_n C (k := 1) rfl rfl dX11_twigComes_23 ?_
  refine r_iconst C (v := 3) rfl dX11_twigComes_24 ?_
  refine r_iload C (k := 5) rfl dX11_twigComes_25 ?_
  obtain ⟨t8, ht8, hF⟩ := ob1_e hF
  refine r_callV C (d' := 0) [.int a1, .int 3, .int a5] (c_X11_puts hW (show (sM Ω t6).2.1 = t6 from rfl) a1 3 a5 ht8 rfl) myX11_puts wm7_14 ⟨_, _, _, _, (hW.ok k11), rfl, rfl, rfl, rfl⟩ rfl (kR rfl) (by decide) (kR rfl) rfl dX11_twigComes_27 ?_
  refine r_aload_n C (k := 0) rfl rfl dX11_twigComes_30 ?_
  refine og_11_0 C (hW.ok k11) wm7_67 dX11_twigComes_31 ?_
  refine r_bipush C (v := 8) rfl dX11_twigComes_34 ?_
  refine r_dup2_11 C rfl rfl dX11_twigComes_36 ?_
  obtain ⟨b9, hF⟩ := gd_e hF
  refine m_ald C (hW.ok (k12 (a := 0) (by unfold okMa; decide))) (show (sM Ω t8).2.1 = t8 from rfl) rfl b9 dX11_twigComes_37 ?_
  refine r_iconst C (v := 1) rfl dX11_twigComes_38 ?_
  refine r_iadd C dX11_twigComes_39 ?_
  obtain ⟨b10, hF⟩ := gd_e hF
  obtain ⟨t11, et11, hF⟩ := lt_e hF
  refine m_ast C hW.x (hW.fr (k12 (a := 0) (by unfold okMa; decide))) (show (sM Ω t8).2.1 = t8 from rfl) rfl b10 dX11_twigComes_40 (congrArg (sM Ω) et11) ?_
  cases hF
  exact r_return C dX11_twigComes_41
theorem dX11_twigGoes_0 : decode cX11_twigGoes 0 = .ok (.iconst 0, 1) := by decide +kernel
theorem dX11_twigGoes_1 : decode cX11_twigGoes 1 = .ok (.istore_n 2, 1) := by decide +kernel
theorem dX11_twigGoes_2 : decode cX11_twigGoes 2 = .ok (.iload_n 2, 1) := by decide +kernel
theorem dX11_twigGoes_3 : decode cX11_twigGoes 3 = .ok (.iconst 4, 1) := by decide +kernel
theorem dX11_twigGoes_4 : decode cX11_twigGoes 4 = .ok (.if_icmp .ge 16, 3) := by decide +kernel
theorem dX11_twigGoes_7 : decode cX11_twigGoes 7 = .ok (.aload_n 0, 1) := by decide +kernel
theorem dX11_twigGoes_8 : decode cX11_twigGoes 8 = .ok (.iload_n 1, 1) := by decide +kernel
theorem dX11_twigGoes_9 : decode cX11_twigGoes 9 = .ok (.iload_n 2, 1) := by decide +kernel
theorem dX11_twigGoes_10 : decode cX11_twigGoes 10 = .ok (.iconst 0, 1) := by decide +kernel
theorem dX11_twigGoes_11 : decode cX11_twigGoes 11 = .ok (.invokevirtual 87, 3) := by decide +kernel
theorem dX11_twigGoes_14 : decode cX11_twigGoes 14 = .ok (.iinc 2 1, 3) := by decide +kernel
theorem dX11_twigGoes_17 : decode cX11_twigGoes 17 = .ok (.goto (-15), 3) := by decide +kernel
theorem dX11_twigGoes_20 : decode cX11_twigGoes 20 = .ok (.return_, 1) := by decide +kernel
def st_X11_twigGoes_2 (N : Nat) (l1 : Int32) (l2 : Int32) (t : HV) : Option ((Int32 × HV) ⊕ (HV)) := (if 4 ≤ l2 then some (.inr t) else (ob1 (F_X11_puts l1 l2 0 t) fun t2 => some (.inl ((l2 + 1), t2))))
def F_X11_twigGoes (N : Nat) (a1 : Int32) (t : HV) : Option (HV) := (lpN N (fun z => st_X11_twigGoes_2 N a1 z.1 z.2) (0, t))
theorem lp_X11_twigGoes_2 {w : WP} (hW : gWM w) {Ω : OM}   (l1 : Int32) {N : Nat} {X : CX} (C : gC w X cX11_twigGoes "HedgeMessagesModel" none 1 3) {t' : HV}  : ∀ (n : Nat) (l2 : Int32) (t : HV), lpN n (fun z : Int32 × HV => st_X11_twigGoes_2 N l1 z.1 z.2) (l2, t) = some t' → gV w X (none, cA w (sM Ω t')) (cA w (sM Ω t)) 2 [(0, .ref (wAd w (11, 12, 0, 0))), (1, .int l1), (2, .int l2)] [] := by
  intro n
  induction n with
  | zero => intro l2 t hL; exact lpN_0 hL
  | succ n ih =>
    intro l2 t hL
    obtain ⟨q9, hF, hL⟩ := lpN_e hL
    change st_X11_twigGoes_2 N l1 l2 t = some q9 at hF
    unfold st_X11_twigGoes_2 at hF
    refine r_iload_n C (k := 2) rfl rfl dX11_twigGoes_2 ?_
    refine r_iconst C (v := 4) rfl dX11_twigGoes_3 ?_
    refine r_icmp_ge C (tgt := 20) rfl dX11_twigGoes_4 (fun hc => ?_) (fun hc => ?_)
    · rw [if_pos hc] at hF
      cases hF
      change some _ = some _ at hL
      cases hL
      exact r_return C dX11_twigGoes_20
    · rw [if_neg hc] at hF
      refine r_aload_n C (k := 0) rfl rfl dX11_twigGoes_7 ?_
      refine r_iload_n C (k := 1) rfl rfl dX11_twigGoes_8 ?_
      refine r_iload_n C (k := 2) rfl rfl dX11_twigGoes_9 ?_
      refine r_iconst C (v := 0) rfl dX11_twigGoes_10 ?_
      obtain ⟨t2, ht2, hF⟩ := ob1_e hF
      refine r_callV C (d' := 0) [.int l1, .int l2, .int 0] (c_X11_puts hW (show (sM Ω t).2.1 = t from rfl) l1 l2 0 ht2 rfl) myX11_puts wm7_14 ⟨_, _, _, _, (hW.ok k11), rfl, rfl, rfl, rfl⟩ rfl (kR rfl) (by decide) (kR rfl) rfl dX11_twigGoes_11 ?_
      refine r_iinc C (k := 2) (v := (l2 + 1)) (lo' := [(2, .int (l2 + 1)), (0, .ref (wAd w (11, 12, 0, 0))), (1, .int l1)]) rfl rfl (by decide) rfl dX11_twigGoes_14 ?_
      refine r_goto C (tgt := 2) rfl dX11_twigGoes_17 ?_
      cases hF
      change lpN n _ _ = some _ at hL
      refine r_lo [1, 2, 0] (lo' := [(0, .ref (wAd w (11, 12, 0, 0))), (1, .int l1), (2, .int (l2 + 1))]) rfl ?_
      exact ih (l2 + 1) t2 hL
theorem c_X11_twigGoes {w : WP} (hW : gWM w) {Ω : OM}  {t : HV} (e : Ω.2.1 = t) (N : Nat) (a1 : Int32) {t' : HV} (hF : F_X11_twigGoes N a1 t = some t') {Ω' : OM} (e2 : (sM Ω t') = Ω') : gM w 1 yX11_twigGoes cX11_twigGoes 3 none [.ref (wAd w (11, 12, 0, 0)), .int a1] (cA w Ω) none (cA w Ω') := by
  refine gM_of "HedgeMessagesModel" rfl (by decide) (kR rfl) fun X C => ?_
  unfold F_X11_twigGoes at hF
  subst e2
  show gV w X _ _ 0 [(0, .ref (wAd w (11, 12, 0, 0))), (1, .int a1)] []
  refine r_ct (ct' := cA w (sM Ω t)) (congrArg (cA w) (sM_i e).symm) ?_
  refine r_iconst C (v := 0) rfl dX11_twigGoes_0 ?_
  refine r_istore_n C (lo' := [(2, .int 0), (0, .ref (wAd w (11, 12, 0, 0))), (1, .int a1)]) rfl (by decide) rfl dX11_twigGoes_1 ?_
  refine r_lo [1, 2, 0] (lo' := [(0, .ref (wAd w (11, 12, 0, 0))), (1, .int a1), (2, .int 0)]) rfl ?_
  exact lp_X11_twigGoes_2 hW a1 C N 0 t hF
theorem dX11_activeNow_0 : decode cX11_activeNow 0 = .ok (.aload_n 0, 1) := by decide +kernel
theorem dX11_activeNow_1 : decode cX11_activeNow 1 = .ok (.getfield 7, 3) := by decide +kernel
theorem dX11_activeNow_4 : decode cX11_activeNow 4 = .ok (.bipush 6, 2) := by decide +kernel
theorem dX11_activeNow_6 : decode cX11_activeNow 6 = .ok (.iaload, 1) := by decide +kernel
theorem dX11_activeNow_7 : decode cX11_activeNow 7 = .ok (.iconst 2, 1) := by decide +kernel
theorem dX11_activeNow_8 : decode cX11_activeNow 8 = .ok (.irem, 1) := by decide +kernel
theorem dX11_activeNow_9 : decode cX11_activeNow 9 = .ok (.ireturn, 1) := by decide +kernel
def F_X11_activeNow (t : HV) : Option (Int32) := (if vpb 6 760 = true then some ((ag t 0 6) - (ag t 0 6) / 2 * 2) else none)
theorem c_X11_activeNow {w : WP} (hW : gWM w) {Ω : OM}  {t : HV} (e : Ω.2.1 = t)  {v : Int32} (hF : F_X11_activeNow t = some v) : gM w 0 yX11_activeNow cX11_activeNow 1 (some .int) [.ref (wAd w (11, 12, 0, 0))] (cA w Ω) (some (.int v)) (cA w Ω) := by
  refine gM_of "HedgeMessagesModel" rfl (by decide) (kR rfl) fun X C => ?_
  unfold F_X11_activeNow at hF
  show gV w X _ _ 0 [(0, .ref (wAd w (11, 12, 0, 0)))] []
  refine r_aload_n C (k := 0) rfl rfl dX11_activeNow_0 ?_
  refine og_11_0 C (hW.ok k11) wm7_67 dX11_activeNow_1 ?_
  refine r_bipush C (v := 6) rfl dX11_activeNow_4 ?_
  obtain ⟨b1, hF⟩ := gd_e hF
  refine m_ald C (hW.ok (k12 (a := 0) (by unfold okMa; decide))) e rfl b1 dX11_activeNow_6 ?_
  refine r_iconst C (v := 2) rfl dX11_activeNow_7 ?_
  refine r_irem C (by decide) dX11_activeNow_8 ?_
  cases hF
  exact r_ireturn C dX11_activeNow_9
theorem dX11_progressOf_0 : decode cX11_progressOf 0 = .ok (.sipush 430, 3) := by decide +kernel
theorem dX11_progressOf_3 : decode cX11_progressOf 3 = .ok (.bipush 15, 2) := by decide +kernel
theorem dX11_progressOf_5 : decode cX11_progressOf 5 = .ok (.iload_n 0, 1) := by decide +kernel
theorem dX11_progressOf_6 : decode cX11_progressOf 6 = .ok (.imul, 1) := by decide +kernel
theorem dX11_progressOf_7 : decode cX11_progressOf 7 = .ok (.iadd, 1) := by decide +kernel
theorem dX11_progressOf_8 : decode cX11_progressOf 8 = .ok (.ireturn, 1) := by decide +kernel
def F_X11_progressOf (a0 : Int32) : Int32 := (430 + (15 * a0))
theorem c_X11_progressOf {w : WP}  {ct : CT}  (a0 : Int32) {v : Int32} (hF : F_X11_progressOf a0 = v) : gM w 0 yX11_progressOf cX11_progressOf 1 (some .int) [.int a0] (ct) (some (.int v)) (ct) := by
  refine gM_of "HedgeMessagesModel" rfl (by decide) (kR rfl) fun X C => ?_
  unfold F_X11_progressOf at hF
  show gV w X _ _ 0 [(0, .int a0)] []
  refine r_sipush C (v := 430) rfl dX11_progressOf_0 ?_
  refine r_bipush C (v := 15) rfl dX11_progressOf_3 ?_
  refine r_iload_n C (k := 0) rfl rfl dX11_progressOf_5 ?_
  refine r_imul C dX11_progressOf_6 ?_
  refine r_iadd C dX11_progressOf_7 ?_
  cases hF
  exact r_ireturn C dX11_progressOf_8
theorem dX11_postAt_0 : decode cX11_postAt 0 = .ok (.sipush 460, 3) := by decide +kernel
theorem dX11_postAt_3 : decode cX11_postAt 3 = .ok (.bipush 15, 2) := by decide +kernel
theorem dX11_postAt_5 : decode cX11_postAt 5 = .ok (.iload_n 0, 1) := by decide +kernel
theorem dX11_postAt_6 : decode cX11_postAt 6 = .ok (.imul, 1) := by decide +kernel
theorem dX11_postAt_7 : decode cX11_postAt 7 = .ok (.iadd, 1) := by decide +kernel
theorem dX11_postAt_8 : decode cX11_postAt 8 = .ok (.ireturn, 1) := by decide +kernel
def F_X11_postAt (a0 : Int32) : Int32 := (460 + (15 * a0))
theorem c_X11_postAt {w : WP}  {ct : CT}  (a0 : Int32) {v : Int32} (hF : F_X11_postAt a0 = v) : gM w 0 yX11_postAt cX11_postAt 1 (some .int) [.int a0] (ct) (some (.int v)) (ct) := by
  refine gM_of "HedgeMessagesModel" rfl (by decide) (kR rfl) fun X C => ?_
  unfold F_X11_postAt at hF
  show gV w X _ _ 0 [(0, .int a0)] []
  refine r_sipush C (v := 460) rfl dX11_postAt_0 ?_
  refine r_bipush C (v := 15) rfl dX11_postAt_3 ?_
  refine r_iload_n C (k := 0) rfl rfl dX11_postAt_5 ?_
  refine r_imul C dX11_postAt_6 ?_
  refine r_iadd C dX11_postAt_7 ?_
  cases hF
  exact r_ireturn C dX11_postAt_8
theorem dX11_waitingAt_0 : decode cX11_waitingAt 0 = .ok (.sipush 222, 3) := by decide +kernel
theorem dX11_waitingAt_3 : decode cX11_waitingAt 3 = .ok (.bipush 13, 2) := by decide +kernel
theorem dX11_waitingAt_5 : decode cX11_waitingAt 5 = .ok (.bipush 8, 2) := by decide +kernel
theorem dX11_waitingAt_7 : decode cX11_waitingAt 7 = .ok (.iload_n 0, 1) := by decide +kernel
theorem dX11_waitingAt_8 : decode cX11_waitingAt 8 = .ok (.imul, 1) := by decide +kernel
theorem dX11_waitingAt_9 : decode cX11_waitingAt 9 = .ok (.iload_n 1, 1) := by decide +kernel
theorem dX11_waitingAt_10 : decode cX11_waitingAt 10 = .ok (.iadd, 1) := by decide +kernel
theorem dX11_waitingAt_11 : decode cX11_waitingAt 11 = .ok (.imul, 1) := by decide +kernel
theorem dX11_waitingAt_12 : decode cX11_waitingAt 12 = .ok (.iadd, 1) := by decide +kernel
theorem dX11_waitingAt_13 : decode cX11_waitingAt 13 = .ok (.ireturn, 1) := by decide +kernel
def F_X11_waitingAt (a0 : Int32) (a1 : Int32) : Int32 := (222 + (13 * ((8 * a0) + a1)))
theorem c_X11_waitingAt {w : WP}  {ct : CT}  (a0 : Int32) (a1 : Int32) {v : Int32} (hF : F_X11_waitingAt a0 a1 = v) : gM w 0 yX11_waitingAt cX11_waitingAt 2 (some .int) [.int a0, .int a1] (ct) (some (.int v)) (ct) := by
  refine gM_of "HedgeMessagesModel" rfl (by decide) (kR rfl) fun X C => ?_
  unfold F_X11_waitingAt at hF
  show gV w X _ _ 0 [(0, .int a0), (1, .int a1)] []
  refine r_sipush C (v := 222) rfl dX11_waitingAt_0 ?_
  refine r_bipush C (v := 13) rfl dX11_waitingAt_3 ?_
  refine r_bipush C (v := 8) rfl dX11_waitingAt_5 ?_
  refine r_iload_n C (k := 0) rfl rfl dX11_waitingAt_7 ?_
  refine r_imul C dX11_waitingAt_8 ?_
  refine r_iload_n C (k := 1) rfl rfl dX11_waitingAt_9 ?_
  refine r_iadd C dX11_waitingAt_10 ?_
  refine r_imul C dX11_waitingAt_11 ?_
  refine r_iadd C dX11_waitingAt_12 ?_
  cases hF
  exact r_ireturn C dX11_waitingAt_13
theorem dX11_isInProgress_0 : decode cX11_isInProgress 0 = .ok (.aload_n 0, 1) := by decide +kernel
theorem dX11_isInProgress_1 : decode cX11_isInProgress 1 = .ok (.getfield 7, 3) := by decide +kernel
theorem dX11_isInProgress_4 : decode cX11_isInProgress 4 = .ok (.iload_n 1, 1) := by decide +kernel
theorem dX11_isInProgress_5 : decode cX11_isInProgress 5 = .ok (.invokestatic 91, 3) := by decide +kernel
theorem dX11_isInProgress_8 : decode cX11_isInProgress 8 = .ok (.iaload, 1) := by decide +kernel
theorem dX11_isInProgress_9 : decode cX11_isInProgress 9 = .ok (.ifCond .le 7, 3) := by decide +kernel
theorem dX11_isInProgress_12 : decode cX11_isInProgress 12 = .ok (.iconst 1, 1) := by decide +kernel
theorem dX11_isInProgress_13 : decode cX11_isInProgress 13 = .ok (.goto 4, 3) := by decide +kernel
theorem dX11_isInProgress_16 : decode cX11_isInProgress 16 = .ok (.iconst 0, 1) := by decide +kernel
theorem dX11_isInProgress_17 : decode cX11_isInProgress 17 = .ok (.ireturn, 1) := by decide +kernel
def F_X11_isInProgress (a1 : Int32) (t : HV) : Option (Bool) := (if vpb (F_X11_progressOf a1) 760 = true then (if (ag t 0 (F_X11_progressOf a1)) ≤ 0 then some false else some true) else none)
theorem c_X11_isInProgress {w : WP} (hW : gWM w) {Ω : OM}  {t : HV} (e : Ω.2.1 = t) (a1 : Int32) {v : Bool} (hF : F_X11_isInProgress a1 t = some v) : gM w 1 yX11_isInProgress cX11_isInProgress 2 (some .boolean) [.ref (wAd w (11, 12, 0, 0)), .int a1] (cA w Ω) (some (.int (b2i v))) (cA w Ω) := by
  refine gM_of "HedgeMessagesModel" rfl (by decide) (kR rfl) fun X C => ?_
  unfold F_X11_isInProgress at hF
  show gV w X _ _ 0 [(0, .ref (wAd w (11, 12, 0, 0))), (1, .int a1)] []
  refine r_aload_n C (k := 0) rfl rfl dX11_isInProgress_0 ?_
  refine og_11_0 C (hW.ok k11) wm7_67 dX11_isInProgress_1 ?_
  refine r_iload_n C (k := 1) rfl rfl dX11_isInProgress_4 ?_
  refine r_callS C (d' := 0) [.int a1] (c_X11_progressOf a1 rfl) myX11_progressOf wm7_223 rfl (kR rfl) (by decide) (kR rfl) rfl dX11_isInProgress_5 ?_
  obtain ⟨b1, hF⟩ := gd_e hF
  refine m_ald C (hW.ok (k12 (a := 0) (by unfold okMa; decide))) e rfl b1 dX11_isInProgress_8 ?_
  refine r_if_le C (tgt := 16) rfl dX11_isInProgress_9 (fun hc => ?_) (fun hc => ?_)
  · rw [if_pos hc] at hF
    refine r_iconst C (v := 0) rfl dX11_isInProgress_16 ?_
    cases hF
    exact r_zreturn C false rfl dX11_isInProgress_17
  · rw [if_neg hc] at hF
    refine r_iconst C (v := 1) rfl dX11_isInProgress_12 ?_
    refine r_goto C (tgt := 17) rfl dX11_isInProgress_13 ?_
    cases hF
    exact r_zreturn C true rfl dX11_isInProgress_17
theorem dX11_reserves_0 : decode cX11_reserves 0 = .ok (.aload_n 0, 1) := by decide +kernel
theorem dX11_reserves_1 : decode cX11_reserves 1 = .ok (.getfield 7, 3) := by decide +kernel
theorem dX11_reserves_4 : decode cX11_reserves 4 = .ok (.iload_n 1, 1) := by decide +kernel
theorem dX11_reserves_5 : decode cX11_reserves 5 = .ok (.iaload, 1) := by decide +kernel
theorem dX11_reserves_6 : decode cX11_reserves 6 = .ok (.ifCond .le 44, 3) := by decide +kernel
theorem dX11_reserves_9 : decode cX11_reserves 9 = .ok (.iload_n 2, 1) := by decide +kernel
theorem dX11_reserves_10 : decode cX11_reserves 10 = .ok (.i2l, 1) := by decide +kernel
theorem dX11_reserves_11 : decode cX11_reserves 11 = .ok (.aload_n 0, 1) := by decide +kernel
theorem dX11_reserves_12 : decode cX11_reserves 12 = .ok (.getfield 7, 3) := by decide +kernel
theorem dX11_reserves_15 : decode cX11_reserves 15 = .ok (.iload_n 1, 1) := by decide +kernel
theorem dX11_reserves_16 : decode cX11_reserves 16 = .ok (.bipush 13, 2) := by decide +kernel
theorem dX11_reserves_18 : decode cX11_reserves 18 = .ok (.iadd, 1) := by decide +kernel
theorem dX11_reserves_19 : decode cX11_reserves 19 = .ok (.iaload, 1) := by decide +kernel
theorem dX11_reserves_20 : decode cX11_reserves 20 = .ok (.i2l, 1) := by decide +kernel
theorem dX11_reserves_21 : decode cX11_reserves 21 = .ok (.aload_n 0, 1) := by decide +kernel
theorem dX11_reserves_22 : decode cX11_reserves 22 = .ok (.getfield 7, 3) := by decide +kernel
theorem dX11_reserves_25 : decode cX11_reserves 25 = .ok (.iload_n 1, 1) := by decide +kernel
theorem dX11_reserves_26 : decode cX11_reserves 26 = .ok (.bipush 13, 2) := by decide +kernel
theorem dX11_reserves_28 : decode cX11_reserves 28 = .ok (.iadd, 1) := by decide +kernel
theorem dX11_reserves_29 : decode cX11_reserves 29 = .ok (.iaload, 1) := by decide +kernel
theorem dX11_reserves_30 : decode cX11_reserves 30 = .ok (.aload_n 0, 1) := by decide +kernel
theorem dX11_reserves_31 : decode cX11_reserves 31 = .ok (.getfield 7, 3) := by decide +kernel
theorem dX11_reserves_34 : decode cX11_reserves 34 = .ok (.iload_n 1, 1) := by decide +kernel
theorem dX11_reserves_35 : decode cX11_reserves 35 = .ok (.iaload, 1) := by decide +kernel
theorem dX11_reserves_36 : decode cX11_reserves 36 = .ok (.iadd, 1) := by decide +kernel
theorem dX11_reserves_37 : decode cX11_reserves 37 = .ok (.iconst 1, 1) := by decide +kernel
theorem dX11_reserves_38 : decode cX11_reserves 38 = .ok (.isub, 1) := by decide +kernel
theorem dX11_reserves_39 : decode cX11_reserves 39 = .ok (.i2l, 1) := by decide +kernel
theorem dX11_reserves_40 : decode cX11_reserves 40 = .ok (.invokestatic 65, 3) := by decide +kernel
theorem dX11_reserves_43 : decode cX11_reserves 43 = .ok (.ifCond .eq 7, 3) := by decide +kernel
theorem dX11_reserves_46 : decode cX11_reserves 46 = .ok (.iconst 1, 1) := by decide +kernel
theorem dX11_reserves_47 : decode cX11_reserves 47 = .ok (.goto 4, 3) := by decide +kernel
theorem dX11_reserves_50 : decode cX11_reserves 50 = .ok (.iconst 0, 1) := by decide +kernel
theorem dX11_reserves_51 : decode cX11_reserves 51 = .ok (.ireturn, 1) := by decide +kernel
def F_X11_reserves (a1 : Int32) (a2 : Int32) (t : HV) : Option (Bool) := (if vpb a1 760 = true then (if (ag t 0 a1) ≤ 0 then some false else (if vpb (a1 + 13) 760 = true then (if vpb (a1 + 13) 760 = true then (if vpb a1 760 = true then (if (F_X11_in ((a2 : Int32).toInt64) (((ag t 0 (a1 + 13)) : Int32).toInt64) (((((ag t 0 (a1 + 13)) + (ag t 0 a1)) - 1) : Int32).toInt64)) = true then some true else some false) else none) else none) else none)) else none)
theorem c_X11_reserves {w : WP} (hW : gWM w) {Ω : OM}  {t : HV} (e : Ω.2.1 = t) (a1 : Int32) (a2 : Int32) {v : Bool} (hF : F_X11_reserves a1 a2 t = some v) : gM w 1 yX11_reserves cX11_reserves 3 (some .boolean) [.ref (wAd w (11, 12, 0, 0)), .int a1, .int a2] (cA w Ω) (some (.int (b2i v))) (cA w Ω) := by
  refine gM_of "HedgeMessagesModel" rfl (by decide) (kR rfl) fun X C => ?_
  unfold F_X11_reserves at hF
  show gV w X _ _ 0 [(0, .ref (wAd w (11, 12, 0, 0))), (1, .int a1), (2, .int a2)] []
  refine r_aload_n C (k := 0) rfl rfl dX11_reserves_0 ?_
  refine og_11_0 C (hW.ok k11) wm7_67 dX11_reserves_1 ?_
  refine r_iload_n C (k := 1) rfl rfl dX11_reserves_4 ?_
  obtain ⟨b1, hF⟩ := gd_e hF
  refine m_ald C (hW.ok (k12 (a := 0) (by unfold okMa; decide))) e rfl b1 dX11_reserves_5 ?_
  refine r_if_le C (tgt := 50) rfl dX11_reserves_6 (fun hc => ?_) (fun hc => ?_)
  · rw [if_pos hc] at hF
    refine r_iconst C (v := 0) rfl dX11_reserves_50 ?_
    cases hF
    exact r_zreturn C false rfl dX11_reserves_51
  · rw [if_neg hc] at hF
    refine r_iload_n C (k := 2) rfl rfl dX11_reserves_9 ?_
    refine r_i2l C (v := ((a2 : Int32).toInt64)) rfl dX11_reserves_10 ?_
    refine r_aload_n C (k := 0) rfl rfl dX11_reserves_11 ?_
    refine og_11_0 C (hW.ok k11) wm7_67 dX11_reserves_12 ?_
    refine r_iload_n C (k := 1) rfl rfl dX11_reserves_15 ?_
    refine r_bipush C (v := 13) rfl dX11_reserves_16 ?_
    refine r_iadd C dX11_reserves_18 ?_
    obtain ⟨b2, hF⟩ := gd_e hF
    refine m_ald C (hW.ok (k12 (a := 0) (by unfold okMa; decide))) e rfl b2 dX11_reserves_19 ?_
    refine r_i2l C (v := (((ag t 0 (a1 + 13)) : Int32).toInt64)) rfl dX11_reserves_20 ?_
    refine r_aload_n C (k := 0) rfl rfl dX11_reserves_21 ?_
    refine og_11_0 C (hW.ok k11) wm7_67 dX11_reserves_22 ?_
    refine r_iload_n C (k := 1) rfl rfl dX11_reserves_25 ?_
    refine r_bipush C (v := 13) rfl dX11_reserves_26 ?_
    refine r_iadd C dX11_reserves_28 ?_
    obtain ⟨b3, hF⟩ := gd_e hF
    refine m_ald C (hW.ok (k12 (a := 0) (by unfold okMa; decide))) e rfl b3 dX11_reserves_29 ?_
    refine r_aload_n C (k := 0) rfl rfl dX11_reserves_30 ?_
    refine og_11_0 C (hW.ok k11) wm7_67 dX11_reserves_31 ?_
    refine r_iload_n C (k := 1) rfl rfl dX11_reserves_34 ?_
    obtain ⟨b4, hF⟩ := gd_e hF
    refine m_ald C (hW.ok (k12 (a := 0) (by unfold okMa; decide))) e rfl b4 dX11_reserves_35 ?_
    refine r_iadd C dX11_reserves_36 ?_
    refine r_iconst C (v := 1) rfl dX11_reserves_37 ?_
    refine r_isub C dX11_reserves_38 ?_
    refine r_i2l C (v := (((((ag t 0 (a1 + 13)) + (ag t 0 a1)) - 1) : Int32).toInt64)) rfl dX11_reserves_39 ?_
    refine r_callS C (d' := 0) [.long ((a2 : Int32).toInt64), .long (((ag t 0 (a1 + 13)) : Int32).toInt64), .long (((((ag t 0 (a1 + 13)) + (ag t 0 a1)) - 1) : Int32).toInt64)] (c_X11_in ((a2 : Int32).toInt64) (((ag t 0 (a1 + 13)) : Int32).toInt64) (((((ag t 0 (a1 + 13)) + (ag t 0 a1)) - 1) : Int32).toInt64) rfl) myX11_in wm6_208 rfl (kR rfl) (by decide) (kR rfl) rfl dX11_reserves_40 ?_
    refine r_if_eq C (tgt := 50) rfl dX11_reserves_43 (fun hc => ?_) (fun hc => ?_)
    · rw [if_neg (b2i_f hc)] at hF
      refine r_iconst C (v := 0) rfl dX11_reserves_50 ?_
      cases hF
      exact r_zreturn C false rfl dX11_reserves_51
    · rw [if_pos (b2i_t hc)] at hF
      refine r_iconst C (v := 1) rfl dX11_reserves_46 ?_
      refine r_goto C (tgt := 51) rfl dX11_reserves_47 ?_
      cases hF
      exact r_zreturn C true rfl dX11_reserves_51
theorem dX11_isReservedAt_0 : decode cX11_isReservedAt 0 = .ok (.iconst 0, 1) := by decide +kernel
theorem dX11_isReservedAt_1 : decode cX11_isReservedAt 1 = .ok (.istore_n 2, 1) := by decide +kernel
theorem dX11_isReservedAt_2 : decode cX11_isReservedAt 2 = .ok (.iload_n 2, 1) := by decide +kernel
theorem dX11_isReservedAt_3 : decode cX11_isReservedAt 3 = .ok (.aload_n 0, 1) := by decide +kernel
theorem dX11_isReservedAt_4 : decode cX11_isReservedAt 4 = .ok (.getfield 7, 3) := by decide +kernel
theorem dX11_isReservedAt_7 : decode cX11_isReservedAt 7 = .ok (.bipush 11, 2) := by decide +kernel
theorem dX11_isReservedAt_9 : decode cX11_isReservedAt 9 = .ok (.iaload, 1) := by decide +kernel
theorem dX11_isReservedAt_10 : decode cX11_isReservedAt 10 = .ok (.if_icmp .ge 23, 3) := by decide +kernel
theorem dX11_isReservedAt_13 : decode cX11_isReservedAt 13 = .ok (.aload_n 0, 1) := by decide +kernel
theorem dX11_isReservedAt_14 : decode cX11_isReservedAt 14 = .ok (.iload_n 2, 1) := by decide +kernel
theorem dX11_isReservedAt_15 : decode cX11_isReservedAt 15 = .ok (.invokestatic 95, 3) := by decide +kernel
theorem dX11_isReservedAt_18 : decode cX11_isReservedAt 18 = .ok (.iload_n 1, 1) := by decide +kernel
theorem dX11_isReservedAt_19 : decode cX11_isReservedAt 19 = .ok (.invokevirtual 98, 3) := by decide +kernel
theorem dX11_isReservedAt_22 : decode cX11_isReservedAt 22 = .ok (.ifCond .eq 5, 3) := by decide +kernel
theorem dX11_isReservedAt_25 : decode cX11_isReservedAt 25 = .ok (.iconst 1, 1) := by decide +kernel
theorem dX11_isReservedAt_26 : decode cX11_isReservedAt 26 = .ok (.ireturn, 1) := by decide +kernel
theorem dX11_isReservedAt_27 : decode cX11_isReservedAt 27 = .ok (.iinc 2 1, 3) := by decide +kernel
theorem dX11_isReservedAt_30 : decode cX11_isReservedAt 30 = .ok (.goto (-28), 3) := by decide +kernel
theorem dX11_isReservedAt_33 : decode cX11_isReservedAt 33 = .ok (.aload_n 0, 1) := by decide +kernel
theorem dX11_isReservedAt_34 : decode cX11_isReservedAt 34 = .ok (.iconst 0, 1) := by decide +kernel
theorem dX11_isReservedAt_35 : decode cX11_isReservedAt 35 = .ok (.invokestatic 91, 3) := by decide +kernel
theorem dX11_isReservedAt_38 : decode cX11_isReservedAt 38 = .ok (.iload_n 1, 1) := by decide +kernel
theorem dX11_isReservedAt_39 : decode cX11_isReservedAt 39 = .ok (.invokevirtual 98, 3) := by decide +kernel
theorem dX11_isReservedAt_42 : decode cX11_isReservedAt 42 = .ok (.ifCond .ne 15, 3) := by decide +kernel
theorem dX11_isReservedAt_45 : decode cX11_isReservedAt 45 = .ok (.aload_n 0, 1) := by decide +kernel
theorem dX11_isReservedAt_46 : decode cX11_isReservedAt 46 = .ok (.iconst 1, 1) := by decide +kernel
theorem dX11_isReservedAt_47 : decode cX11_isReservedAt 47 = .ok (.invokestatic 91, 3) := by decide +kernel
theorem dX11_isReservedAt_50 : decode cX11_isReservedAt 50 = .ok (.iload_n 1, 1) := by decide +kernel
theorem dX11_isReservedAt_51 : decode cX11_isReservedAt 51 = .ok (.invokevirtual 98, 3) := by decide +kernel
theorem dX11_isReservedAt_54 : decode cX11_isReservedAt 54 = .ok (.ifCond .eq 7, 3) := by decide +kernel
theorem dX11_isReservedAt_57 : decode cX11_isReservedAt 57 = .ok (.iconst 1, 1) := by decide +kernel
theorem dX11_isReservedAt_58 : decode cX11_isReservedAt 58 = .ok (.goto 4, 3) := by decide +kernel
theorem dX11_isReservedAt_61 : decode cX11_isReservedAt 61 = .ok (.iconst 0, 1) := by decide +kernel
theorem dX11_isReservedAt_62 : decode cX11_isReservedAt 62 = .ok (.ireturn, 1) := by decide +kernel
def st_X11_isReservedAt_2 (N : Nat) (l1 : Int32) (l2 : Int32) (t : HV) : Option ((Int32) ⊕ (Bool)) := (if vpb 11 760 = true then (if (ag t 0 11) ≤ l2 then (ob1 (F_X11_reserves (F_X11_progressOf 0) l1 t) fun v2 => (if v2 = true then some (.inr true) else (ob1 (F_X11_reserves (F_X11_progressOf 1) l1 t) fun v3 => (if v3 = true then some (.inr true) else some (.inr false))))) else (ob1 (F_X11_reserves (F_X11_postAt l2) l1 t) fun v4 => (if v4 = true then some (.inr true) else some (.inl (l2 + 1))))) else none)
def F_X11_isReservedAt (N : Nat) (a1 : Int32) (t : HV) : Option (Bool) := (lpN N (fun z => st_X11_isReservedAt_2 N a1 z t) (0))
theorem lp_X11_isReservedAt_2 {w : WP} (hW : gWM w) {Ω : OM}  {t : HV} (e : Ω.2.1 = t)  (l1 : Int32) {N : Nat} {X : CX} (C : gC w X cX11_isReservedAt "HedgeMessagesModel" (some .boolean) 2 3) {v : Bool}  : ∀ (n : Nat) (l2 : Int32), lpN n (fun z : Int32 => st_X11_isReservedAt_2 N l1 z t) (l2) = some v → gV w X (some (.int (b2i v)), cA w Ω) (cA w Ω) 2 [(0, .ref (wAd w (11, 12, 0, 0))), (1, .int l1), (2, .int l2)] [] := by
  intro n
  induction n with
  | zero => intro l2 hL; exact lpN_0 hL
  | succ n ih =>
    intro l2 hL
    obtain ⟨q9, hF, hL⟩ := lpN_e hL
    change st_X11_isReservedAt_2 N l1 l2 t = some q9 at hF
    unfold st_X11_isReservedAt_2 at hF
    refine r_iload_n C (k := 2) rfl rfl dX11_isReservedAt_2 ?_
    refine r_aload_n C (k := 0) rfl rfl dX11_isReservedAt_3 ?_
    refine og_11_0 C (hW.ok k11) wm7_67 dX11_isReservedAt_4 ?_
    refine r_bipush C (v := 11) rfl dX11_isReservedAt_7 ?_
    obtain ⟨b1, hF⟩ := gd_e hF
    refine m_ald C (hW.ok (k12 (a := 0) (by unfold okMa; decide))) e rfl b1 dX11_isReservedAt_9 ?_
    refine r_icmp_ge C (tgt := 33) rfl dX11_isReservedAt_10 (fun hc => ?_) (fun hc => ?_)
    · rw [if_pos hc] at hF
      refine r_aload_n C (k := 0) rfl rfl dX11_isReservedAt_33 ?_
      refine r_iconst C (v := 0) rfl dX11_isReservedAt_34 ?_
      refine r_callS C (d' := 0) [.int 0] (c_X11_progressOf 0 rfl) myX11_progressOf wm7_223 rfl (kR rfl) (by decide) (kR rfl) rfl dX11_isReservedAt_35 ?_
      refine r_iload_n C (k := 1) rfl rfl dX11_isReservedAt_38 ?_
      obtain ⟨v2, hv2, hF⟩ := ob1_e hF
      refine r_callV C (d' := 1) [.int (F_X11_progressOf 0), .int l1] (c_X11_reserves hW e (F_X11_progressOf 0) l1 hv2) myX11_reserves wm7_219 ⟨_, _, _, _, (hW.ok k11), rfl, rfl, rfl, rfl⟩ rfl (kR rfl) (by decide) (kR rfl) rfl dX11_isReservedAt_39 ?_
      refine r_if_ne C (tgt := 57) rfl dX11_isReservedAt_42 (fun hc => ?_) (fun hc => ?_)
      · rw [if_pos (b2i_t hc)] at hF
        refine r_iconst C (v := 1) rfl dX11_isReservedAt_57 ?_
        refine r_goto C (tgt := 62) rfl dX11_isReservedAt_58 ?_
        cases hF
        change some _ = some _ at hL
        cases hL
        exact r_zreturn C true rfl dX11_isReservedAt_62
      · rw [if_neg (b2i_f hc)] at hF
        refine r_aload_n C (k := 0) rfl rfl dX11_isReservedAt_45 ?_
        refine r_iconst C (v := 1) rfl dX11_isReservedAt_46 ?_
        refine r_callS C (d' := 0) [.int 1] (c_X11_progressOf 1 rfl) myX11_progressOf wm7_223 rfl (kR rfl) (by decide) (kR rfl) rfl dX11_isReservedAt_47 ?_
        refine r_iload_n C (k := 1) rfl rfl dX11_isReservedAt_50 ?_
        obtain ⟨v3, hv3, hF⟩ := ob1_e hF
        refine r_callV C (d' := 1) [.int (F_X11_progressOf 1), .int l1] (c_X11_reserves hW e (F_X11_progressOf 1) l1 hv3) myX11_reserves wm7_219 ⟨_, _, _, _, (hW.ok k11), rfl, rfl, rfl, rfl⟩ rfl (kR rfl) (by decide) (kR rfl) rfl dX11_isReservedAt_51 ?_
        refine r_if_eq C (tgt := 61) rfl dX11_isReservedAt_54 (fun hc => ?_) (fun hc => ?_)
        · rw [if_neg (b2i_f hc)] at hF
          refine r_iconst C (v := 0) rfl dX11_isReservedAt_61 ?_
          cases hF
          change some _ = some _ at hL
          cases hL
          exact r_zreturn C false rfl dX11_isReservedAt_62
        · rw [if_pos (b2i_t hc)] at hF
          refine r_iconst C (v := 1) rfl dX11_isReservedAt_57 ?_
          refine r_goto C (tgt := 62) rfl dX11_isReservedAt_58 ?_
          cases hF
          change some _ = some _ at hL
          cases hL
          exact r_zreturn C true rfl dX11_isReservedAt_62
    · rw [if_neg hc] at hF
      refine r_aload_n C (k := 0) rfl rfl dX11_isReservedAt_13 ?_
      refine r_iload_n C (k := 2) rfl rfl dX11_isReservedAt_14 ?_
      refine r_callS C (d' := 0) [.int l2] (c_X11_postAt l2 rfl) myX11_postAt wm7_216 rfl (kR rfl) (by decide) (kR rfl) rfl dX11_isReservedAt_15 ?_
      refine r_iload_n C (k := 1) rfl rfl dX11_isReservedAt_18 ?_
      obtain ⟨v4, hv4, hF⟩ := ob1_e hF
      refine r_callV C (d' := 1) [.int (F_X11_postAt l2), .int l1] (c_X11_reserves hW e (F_X11_postAt l2) l1 hv4) myX11_reserves wm7_219 ⟨_, _, _, _, (hW.ok k11), rfl, rfl, rfl, rfl⟩ rfl (kR rfl) (by decide) (kR rfl) rfl dX11_isReservedAt_19 ?_
      refine r_if_eq C (tgt := 27) rfl dX11_isReservedAt_22 (fun hc => ?_) (fun hc => ?_)
      · rw [if_neg (b2i_f hc)] at hF
        refine r_iinc C (k := 2) (v := (l2 + 1)) (lo' := [(2, .int (l2 + 1)), (0, .ref (wAd w (11, 12, 0, 0))), (1, .int l1)]) rfl rfl (by decide) rfl dX11_isReservedAt_27 ?_
        refine r_goto C (tgt := 2) rfl dX11_isReservedAt_30 ?_
        cases hF
        change lpN n _ _ = some _ at hL
        refine r_lo [1, 2, 0] (lo' := [(0, .ref (wAd w (11, 12, 0, 0))), (1, .int l1), (2, .int (l2 + 1))]) rfl ?_
        exact ih (l2 + 1) hL
      · rw [if_pos (b2i_t hc)] at hF
        refine r_iconst C (v := 1) rfl dX11_isReservedAt_25 ?_
        cases hF
        change some _ = some _ at hL
        cases hL
        exact r_zreturn C true rfl dX11_isReservedAt_26
theorem c_X11_isReservedAt {w : WP} (hW : gWM w) {Ω : OM}  {t : HV} (e : Ω.2.1 = t) (N : Nat) (a1 : Int32) {v : Bool} (hF : F_X11_isReservedAt N a1 t = some v) : gM w 2 yX11_isReservedAt cX11_isReservedAt 3 (some .boolean) [.ref (wAd w (11, 12, 0, 0)), .int a1] (cA w Ω) (some (.int (b2i v))) (cA w Ω) := by
  refine gM_of "HedgeMessagesModel" rfl (by decide) (kR rfl) fun X C => ?_
  unfold F_X11_isReservedAt at hF
  show gV w X _ _ 0 [(0, .ref (wAd w (11, 12, 0, 0))), (1, .int a1)] []
  refine r_iconst C (v := 0) rfl dX11_isReservedAt_0 ?_
  refine r_istore_n C (lo' := [(2, .int 0), (0, .ref (wAd w (11, 12, 0, 0))), (1, .int a1)]) rfl (by decide) rfl dX11_isReservedAt_1 ?_
  refine r_lo [1, 2, 0] (lo' := [(0, .ref (wAd w (11, 12, 0, 0))), (1, .int a1), (2, .int 0)]) rfl ?_
  exact lp_X11_isReservedAt_2 hW e a1 C N 0 hF
theorem dX11_isFree_0 : decode cX11_isFree 0 = .ok (.aload_n 0, 1) := by decide +kernel
theorem dX11_isFree_1 : decode cX11_isFree 1 = .ok (.iload_n 1, 1) := by decide +kernel
theorem dX11_isFree_2 : decode cX11_isFree 2 = .ok (.invokevirtual 84, 3) := by decide +kernel
theorem dX11_isFree_5 : decode cX11_isFree 5 = .ok (.ifCond .ne 23, 3) := by decide +kernel
theorem dX11_isFree_8 : decode cX11_isFree 8 = .ok (.aload_n 0, 1) := by decide +kernel
theorem dX11_isFree_9 : decode cX11_isFree 9 = .ok (.iload_n 1, 1) := by decide +kernel
theorem dX11_isFree_10 : decode cX11_isFree 10 = .ok (.invokevirtual 77, 3) := by decide +kernel
theorem dX11_isFree_13 : decode cX11_isFree 13 = .ok (.ifCond .ne 15, 3) := by decide +kernel
theorem dX11_isFree_16 : decode cX11_isFree 16 = .ok (.aload_n 0, 1) := by decide +kernel
theorem dX11_isFree_17 : decode cX11_isFree 17 = .ok (.iload_n 1, 1) := by decide +kernel
theorem dX11_isFree_18 : decode cX11_isFree 18 = .ok (.invokevirtual 102, 3) := by decide +kernel
theorem dX11_isFree_21 : decode cX11_isFree 21 = .ok (.ifCond .ne 7, 3) := by decide +kernel
theorem dX11_isFree_24 : decode cX11_isFree 24 = .ok (.iconst 1, 1) := by decide +kernel
theorem dX11_isFree_25 : decode cX11_isFree 25 = .ok (.goto 4, 3) := by decide +kernel
theorem dX11_isFree_28 : decode cX11_isFree 28 = .ok (.iconst 0, 1) := by decide +kernel
theorem dX11_isFree_29 : decode cX11_isFree 29 = .ok (.ireturn, 1) := by decide +kernel
def F_X11_isFree (N : Nat) (a1 : Int32) (t : HV) : Option (Bool) := (ob1 (F_X11_hasTwig a1 t) fun v1 => (if v1 = true then some false else (ob1 (F_X11_hasNest a1 t) fun v2 => (if v2 = true then some false else (ob1 (F_X11_isReservedAt N a1 t) fun v3 => (if v3 = true then some false else some true))))))
theorem c_X11_isFree {w : WP} (hW : gWM w) {Ω : OM}  {t : HV} (e : Ω.2.1 = t) (N : Nat) (a1 : Int32) {v : Bool} (hF : F_X11_isFree N a1 t = some v) : gM w 3 yX11_isFree cX11_isFree 2 (some .boolean) [.ref (wAd w (11, 12, 0, 0)), .int a1] (cA w Ω) (some (.int (b2i v))) (cA w Ω) := by
  refine gM_of "HedgeMessagesModel" rfl (by decide) (kR rfl) fun X C => ?_
  unfold F_X11_isFree at hF
  show gV w X _ _ 0 [(0, .ref (wAd w (11, 12, 0, 0))), (1, .int a1)] []
  refine r_aload_n C (k := 0) rfl rfl dX11_isFree_0 ?_
  refine r_iload_n C (k := 1) rfl rfl dX11_isFree_1 ?_
  obtain ⟨v1, hv1, hF⟩ := ob1_e hF
  refine r_callV C (d' := 1) [.int a1] (c_X11_hasTwig hW e a1 hv1) myX11_hasTwig wm6_238 ⟨_, _, _, _, (hW.ok k11), rfl, rfl, rfl, rfl⟩ rfl (kR rfl) (by decide) (kR rfl) rfl dX11_isFree_2 ?_
  refine r_if_ne C (tgt := 28) rfl dX11_isFree_5 (fun hc => ?_) (fun hc => ?_)
  · rw [if_pos (b2i_t hc)] at hF
    refine r_iconst C (v := 0) rfl dX11_isFree_28 ?_
    cases hF
    exact r_zreturn C false rfl dX11_isFree_29
  · rw [if_neg (b2i_f hc)] at hF
    refine r_aload_n C (k := 0) rfl rfl dX11_isFree_8 ?_
    refine r_iload_n C (k := 1) rfl rfl dX11_isFree_9 ?_
    obtain ⟨v2, hv2, hF⟩ := ob1_e hF
    refine r_callV C (d' := 2) [.int a1] (c_X11_hasNest hW e a1 hv2) myX11_hasNest wm7_23 ⟨_, _, _, _, (hW.ok k11), rfl, rfl, rfl, rfl⟩ rfl (kR rfl) (by decide) (kR rfl) rfl dX11_isFree_10 ?_
    refine r_if_ne C (tgt := 28) rfl dX11_isFree_13 (fun hc => ?_) (fun hc => ?_)
    · rw [if_pos (b2i_t hc)] at hF
      refine r_iconst C (v := 0) rfl dX11_isFree_28 ?_
      cases hF
      exact r_zreturn C false rfl dX11_isFree_29
    · rw [if_neg (b2i_f hc)] at hF
      refine r_aload_n C (k := 0) rfl rfl dX11_isFree_16 ?_
      refine r_iload_n C (k := 1) rfl rfl dX11_isFree_17 ?_
      obtain ⟨v3, hv3, hF⟩ := ob1_e hF
      refine r_callV C (d' := 2) [.int a1] (c_X11_isReservedAt hW e N a1 hv3) myX11_isReservedAt wm7_212 ⟨_, _, _, _, (hW.ok k11), rfl, rfl, rfl, rfl⟩ rfl (kR rfl) (by decide) (kR rfl) rfl dX11_isFree_18 ?_
      refine r_if_ne C (tgt := 28) rfl dX11_isFree_21 (fun hc => ?_) (fun hc => ?_)
      · rw [if_pos (b2i_t hc)] at hF
        refine r_iconst C (v := 0) rfl dX11_isFree_28 ?_
        cases hF
        exact r_zreturn C false rfl dX11_isFree_29
      · rw [if_neg (b2i_f hc)] at hF
        refine r_iconst C (v := 1) rfl dX11_isFree_24 ?_
        refine r_goto C (tgt := 29) rfl dX11_isFree_25 ?_
        cases hF
        exact r_zreturn C true rfl dX11_isFree_29
theorem dX11_isBorder_0 : decode cX11_isBorder 0 = .ok (.aload_n 0, 1) := by decide +kernel
theorem dX11_isBorder_1 : decode cX11_isBorder 1 = .ok (.iload_n 1, 1) := by decide +kernel
theorem dX11_isBorder_2 : decode cX11_isBorder 2 = .ok (.invokevirtual 73, 3) := by decide +kernel
theorem dX11_isBorder_5 : decode cX11_isBorder 5 = .ok (.ifCond .eq 19, 3) := by decide +kernel
theorem dX11_isBorder_8 : decode cX11_isBorder 8 = .ok (.aload_n 0, 1) := by decide +kernel
theorem dX11_isBorder_9 : decode cX11_isBorder 9 = .ok (.iload_n 1, 1) := by decide +kernel
theorem dX11_isBorder_10 : decode cX11_isBorder 10 = .ok (.invokevirtual 84, 3) := by decide +kernel
theorem dX11_isBorder_13 : decode cX11_isBorder 13 = .ok (.ifCond .ne 15, 3) := by decide +kernel
theorem dX11_isBorder_16 : decode cX11_isBorder 16 = .ok (.aload_n 0, 1) := by decide +kernel
theorem dX11_isBorder_17 : decode cX11_isBorder 17 = .ok (.iload_n 1, 1) := by decide +kernel
theorem dX11_isBorder_18 : decode cX11_isBorder 18 = .ok (.invokevirtual 102, 3) := by decide +kernel
theorem dX11_isBorder_21 : decode cX11_isBorder 21 = .ok (.ifCond .ne 7, 3) := by decide +kernel
theorem dX11_isBorder_24 : decode cX11_isBorder 24 = .ok (.iconst 1, 1) := by decide +kernel
theorem dX11_isBorder_25 : decode cX11_isBorder 25 = .ok (.goto 4, 3) := by decide +kernel
theorem dX11_isBorder_28 : decode cX11_isBorder 28 = .ok (.iconst 0, 1) := by decide +kernel
theorem dX11_isBorder_29 : decode cX11_isBorder 29 = .ok (.ireturn, 1) := by decide +kernel
def F_X11_isBorder (N : Nat) (a1 : Int32) (t : HV) : Option (Bool) := (ob1 (F_X11_isSlot a1 t) fun v1 => (if v1 = true then (ob1 (F_X11_hasTwig a1 t) fun v2 => (if v2 = true then some false else (ob1 (F_X11_isReservedAt N a1 t) fun v3 => (if v3 = true then some false else some true)))) else some true))
theorem c_X11_isBorder {w : WP} (hW : gWM w) {Ω : OM}  {t : HV} (e : Ω.2.1 = t) (N : Nat) (a1 : Int32) {v : Bool} (hF : F_X11_isBorder N a1 t = some v) : gM w 3 yX11_isBorder cX11_isBorder 2 (some .boolean) [.ref (wAd w (11, 12, 0, 0)), .int a1] (cA w Ω) (some (.int (b2i v))) (cA w Ω) := by
  refine gM_of "HedgeMessagesModel" rfl (by decide) (kR rfl) fun X C => ?_
  unfold F_X11_isBorder at hF
  show gV w X _ _ 0 [(0, .ref (wAd w (11, 12, 0, 0))), (1, .int a1)] []
  refine r_aload_n C (k := 0) rfl rfl dX11_isBorder_0 ?_
  refine r_iload_n C (k := 1) rfl rfl dX11_isBorder_1 ?_
  obtain ⟨v1, hv1, hF⟩ := ob1_e hF
  refine r_callV C (d' := 1) [.int a1] (c_X11_isSlot hW e a1 hv1) myX11_isSlot wm7_27 ⟨_, _, _, _, (hW.ok k11), rfl, rfl, rfl, rfl⟩ rfl (kR rfl) (by decide) (kR rfl) rfl dX11_isBorder_2 ?_
  refine r_if_eq C (tgt := 24) rfl dX11_isBorder_5 (fun hc => ?_) (fun hc => ?_)
  · rw [if_neg (b2i_f hc)] at hF
    refine r_iconst C (v := 1) rfl dX11_isBorder_24 ?_
    refine r_goto C (tgt := 29) rfl dX11_isBorder_25 ?_
    cases hF
    exact r_zreturn C true rfl dX11_isBorder_29
  · rw [if_pos (b2i_t hc)] at hF
    refine r_aload_n C (k := 0) rfl rfl dX11_isBorder_8 ?_
    refine r_iload_n C (k := 1) rfl rfl dX11_isBorder_9 ?_
    obtain ⟨v2, hv2, hF⟩ := ob1_e hF
    refine r_callV C (d' := 1) [.int a1] (c_X11_hasTwig hW e a1 hv2) myX11_hasTwig wm6_238 ⟨_, _, _, _, (hW.ok k11), rfl, rfl, rfl, rfl⟩ rfl (kR rfl) (by decide) (kR rfl) rfl dX11_isBorder_10 ?_
    refine r_if_ne C (tgt := 28) rfl dX11_isBorder_13 (fun hc => ?_) (fun hc => ?_)
    · rw [if_pos (b2i_t hc)] at hF
      refine r_iconst C (v := 0) rfl dX11_isBorder_28 ?_
      cases hF
      exact r_zreturn C false rfl dX11_isBorder_29
    · rw [if_neg (b2i_f hc)] at hF
      refine r_aload_n C (k := 0) rfl rfl dX11_isBorder_16 ?_
      refine r_iload_n C (k := 1) rfl rfl dX11_isBorder_17 ?_
      obtain ⟨v3, hv3, hF⟩ := ob1_e hF
      refine r_callV C (d' := 2) [.int a1] (c_X11_isReservedAt hW e N a1 hv3) myX11_isReservedAt wm7_212 ⟨_, _, _, _, (hW.ok k11), rfl, rfl, rfl, rfl⟩ rfl (kR rfl) (by decide) (kR rfl) rfl dX11_isBorder_18 ?_
      refine r_if_ne C (tgt := 28) rfl dX11_isBorder_21 (fun hc => ?_) (fun hc => ?_)
      · rw [if_pos (b2i_t hc)] at hF
        refine r_iconst C (v := 0) rfl dX11_isBorder_28 ?_
        cases hF
        exact r_zreturn C false rfl dX11_isBorder_29
      · rw [if_neg (b2i_f hc)] at hF
        refine r_iconst C (v := 1) rfl dX11_isBorder_24 ?_
        refine r_goto C (tgt := 29) rfl dX11_isBorder_25 ?_
        cases hF
        exact r_zreturn C true rfl dX11_isBorder_29
theorem dX11_fits_0 : decode cX11_fits 0 = .ok (.iconst 0, 1) := by decide +kernel
theorem dX11_fits_1 : decode cX11_fits 1 = .ok (.istore_n 3, 1) := by decide +kernel
theorem dX11_fits_2 : decode cX11_fits 2 = .ok (.iload_n 3, 1) := by decide +kernel
theorem dX11_fits_3 : decode cX11_fits 3 = .ok (.iload_n 2, 1) := by decide +kernel
theorem dX11_fits_4 : decode cX11_fits 4 = .ok (.if_icmp .ge 21, 3) := by decide +kernel
theorem dX11_fits_7 : decode cX11_fits 7 = .ok (.aload_n 0, 1) := by decide +kernel
theorem dX11_fits_8 : decode cX11_fits 8 = .ok (.iload_n 1, 1) := by decide +kernel
theorem dX11_fits_9 : decode cX11_fits 9 = .ok (.iload_n 3, 1) := by decide +kernel
theorem dX11_fits_10 : decode cX11_fits 10 = .ok (.iadd, 1) := by decide +kernel
theorem dX11_fits_11 : decode cX11_fits 11 = .ok (.invokevirtual 105, 3) := by decide +kernel
theorem dX11_fits_14 : decode cX11_fits 14 = .ok (.ifCond .ne 5, 3) := by decide +kernel
theorem dX11_fits_17 : decode cX11_fits 17 = .ok (.iconst 0, 1) := by decide +kernel
theorem dX11_fits_18 : decode cX11_fits 18 = .ok (.ireturn, 1) := by decide +kernel
theorem dX11_fits_19 : decode cX11_fits 19 = .ok (.iinc 3 1, 3) := by decide +kernel
theorem dX11_fits_22 : decode cX11_fits 22 = .ok (.goto (-20), 3) := by decide +kernel
theorem dX11_fits_25 : decode cX11_fits 25 = .ok (.aload_n 0, 1) := by decide +kernel
theorem dX11_fits_26 : decode cX11_fits 26 = .ok (.iload_n 1, 1) := by decide +kernel
theorem dX11_fits_27 : decode cX11_fits 27 = .ok (.iconst 1, 1) := by decide +kernel
theorem dX11_fits_28 : decode cX11_fits 28 = .ok (.isub, 1) := by decide +kernel
theorem dX11_fits_29 : decode cX11_fits 29 = .ok (.invokevirtual 108, 3) := by decide +kernel
theorem dX11_fits_32 : decode cX11_fits 32 = .ok (.ifCond .eq 17, 3) := by decide +kernel
theorem dX11_fits_35 : decode cX11_fits 35 = .ok (.aload_n 0, 1) := by decide +kernel
theorem dX11_fits_36 : decode cX11_fits 36 = .ok (.iload_n 1, 1) := by decide +kernel
theorem dX11_fits_37 : decode cX11_fits 37 = .ok (.iload_n 2, 1) := by decide +kernel
theorem dX11_fits_38 : decode cX11_fits 38 = .ok (.iadd, 1) := by decide +kernel
theorem dX11_fits_39 : decode cX11_fits 39 = .ok (.invokevirtual 108, 3) := by decide +kernel
theorem dX11_fits_42 : decode cX11_fits 42 = .ok (.ifCond .eq 7, 3) := by decide +kernel
theorem dX11_fits_45 : decode cX11_fits 45 = .ok (.iconst 1, 1) := by decide +kernel
theorem dX11_fits_46 : decode cX11_fits 46 = .ok (.goto 4, 3) := by decide +kernel
theorem dX11_fits_49 : decode cX11_fits 49 = .ok (.iconst 0, 1) := by decide +kernel
theorem dX11_fits_50 : decode cX11_fits 50 = .ok (.ireturn, 1) := by decide +kernel
def st_X11_fits_2 (N : Nat) (l1 : Int32) (l2 : Int32) (l3 : Int32) (t : HV) : Option ((Int32) ⊕ (Bool)) := (if l2 ≤ l3 then (ob1 (F_X11_isBorder N (l1 - 1) t) fun v1 => (if v1 = true then (ob1 (F_X11_isBorder N (l1 + l2) t) fun v2 => (if v2 = true then some (.inr true) else some (.inr false))) else some (.inr false))) else (ob1 (F_X11_isFree N (l1 + l3) t) fun v3 => (if v3 = true then some (.inl (l3 + 1)) else some (.inr false))))
def F_X11_fits (N : Nat) (a1 : Int32) (a2 : Int32) (t : HV) : Option (Bool) := (lpN N (fun z => st_X11_fits_2 N a1 a2 z t) (0))
theorem lp_X11_fits_2 {w : WP} (hW : gWM w) {Ω : OM}  {t : HV} (e : Ω.2.1 = t)  (l1 : Int32) (l2 : Int32) {N : Nat} {X : CX} (C : gC w X cX11_fits "HedgeMessagesModel" (some .boolean) 4 4) {v : Bool}  : ∀ (n : Nat) (l3 : Int32), lpN n (fun z : Int32 => st_X11_fits_2 N l1 l2 z t) (l3) = some v → gV w X (some (.int (b2i v)), cA w Ω) (cA w Ω) 2 [(0, .ref (wAd w (11, 12, 0, 0))), (1, .int l1), (2, .int l2), (3, .int l3)] [] := by
  intro n
  induction n with
  | zero => intro l3 hL; exact lpN_0 hL
  | succ n ih =>
    intro l3 hL
    obtain ⟨q9, hF, hL⟩ := lpN_e hL
    change st_X11_fits_2 N l1 l2 l3 t = some q9 at hF
    unfold st_X11_fits_2 at hF
    refine r_iload_n C (k := 3) rfl rfl dX11_fits_2 ?_
    refine r_iload_n C (k := 2) rfl rfl dX11_fits_3 ?_
    refine r_icmp_ge C (tgt := 25) rfl dX11_fits_4 (fun hc => ?_) (fun hc => ?_)
    · rw [if_pos hc] at hF
      refine r_aload_n C (k := 0) rfl rfl dX11_fits_25 ?_
      refine r_iload_n C (k := 1) rfl rfl dX11_fits_26 ?_
      refine r_iconst C (v := 1) rfl dX11_fits_27 ?_
      refine r_isub C dX11_fits_28 ?_
      obtain ⟨v1, hv1, hF⟩ := ob1_e hF
      refine r_callV C (d' := 3) [.int (l1 - 1)] (c_X11_isBorder hW e N (l1 - 1) hv1) myX11_isBorder wm8_101 ⟨_, _, _, _, (hW.ok k11), rfl, rfl, rfl, rfl⟩ rfl (kR rfl) (by decide) (kR rfl) rfl dX11_fits_29 ?_
      refine r_if_eq C (tgt := 49) rfl dX11_fits_32 (fun hc => ?_) (fun hc => ?_)
      · rw [if_neg (b2i_f hc)] at hF
        refine r_iconst C (v := 0) rfl dX11_fits_49 ?_
        cases hF
        change some _ = some _ at hL
        cases hL
        exact r_zreturn C false rfl dX11_fits_50
      · rw [if_pos (b2i_t hc)] at hF
        refine r_aload_n C (k := 0) rfl rfl dX11_fits_35 ?_
        refine r_iload_n C (k := 1) rfl rfl dX11_fits_36 ?_
        refine r_iload_n C (k := 2) rfl rfl dX11_fits_37 ?_
        refine r_iadd C dX11_fits_38 ?_
        obtain ⟨v2, hv2, hF⟩ := ob1_e hF
        refine r_callV C (d' := 3) [.int (l1 + l2)] (c_X11_isBorder hW e N (l1 + l2) hv2) myX11_isBorder wm8_101 ⟨_, _, _, _, (hW.ok k11), rfl, rfl, rfl, rfl⟩ rfl (kR rfl) (by decide) (kR rfl) rfl dX11_fits_39 ?_
        refine r_if_eq C (tgt := 49) rfl dX11_fits_42 (fun hc => ?_) (fun hc => ?_)
        · rw [if_neg (b2i_f hc)] at hF
          refine r_iconst C (v := 0) rfl dX11_fits_49 ?_
          cases hF
          change some _ = some _ at hL
          cases hL
          exact r_zreturn C false rfl dX11_fits_50
        · rw [if_pos (b2i_t hc)] at hF
          refine r_iconst C (v := 1) rfl dX11_fits_45 ?_
          refine r_goto C (tgt := 50) rfl dX11_fits_46 ?_
          cases hF
          change some _ = some _ at hL
          cases hL
          exact r_zreturn C true rfl dX11_fits_50
    · rw [if_neg hc] at hF
      refine r_aload_n C (k := 0) rfl rfl dX11_fits_7 ?_
      refine r_iload_n C (k := 1) rfl rfl dX11_fits_8 ?_
      refine r_iload_n C (k := 3) rfl rfl dX11_fits_9 ?_
      refine r_iadd C dX11_fits_10 ?_
      obtain ⟨v3, hv3, hF⟩ := ob1_e hF
      refine r_callV C (d' := 3) [.int (l1 + l3)] (c_X11_isFree hW e N (l1 + l3) hv3) myX11_isFree wm8_97 ⟨_, _, _, _, (hW.ok k11), rfl, rfl, rfl, rfl⟩ rfl (kR rfl) (by decide) (kR rfl) rfl dX11_fits_11 ?_
      refine r_if_ne C (tgt := 19) rfl dX11_fits_14 (fun hc => ?_) (fun hc => ?_)
      · rw [if_pos (b2i_t hc)] at hF
        refine r_iinc C (k := 3) (v := (l3 + 1)) (lo' := [(3, .int (l3 + 1)), (0, .ref (wAd w (11, 12, 0, 0))), (1, .int l1), (2, .int l2)]) rfl rfl (by decide) rfl dX11_fits_19 ?_
        refine r_goto C (tgt := 2) rfl dX11_fits_22 ?_
        cases hF
        change lpN n _ _ = some _ at hL
        refine r_lo [1, 2, 3, 0] (lo' := [(0, .ref (wAd w (11, 12, 0, 0))), (1, .int l1), (2, .int l2), (3, .int (l3 + 1))]) rfl ?_
        exact ih (l3 + 1) hL
      · rw [if_neg (b2i_f hc)] at hF
        refine r_iconst C (v := 0) rfl dX11_fits_17 ?_
        cases hF
        change some _ = some _ at hL
        cases hL
        exact r_zreturn C false rfl dX11_fits_18
theorem c_X11_fits {w : WP} (hW : gWM w) {Ω : OM}  {t : HV} (e : Ω.2.1 = t) (N : Nat) (a1 : Int32) (a2 : Int32) {v : Bool} (hF : F_X11_fits N a1 a2 t = some v) : gM w 4 yX11_fits cX11_fits 4 (some .boolean) [.ref (wAd w (11, 12, 0, 0)), .int a1, .int a2] (cA w Ω) (some (.int (b2i v))) (cA w Ω) := by
  refine gM_of "HedgeMessagesModel" rfl (by decide) (kR rfl) fun X C => ?_
  unfold F_X11_fits at hF
  show gV w X _ _ 0 [(0, .ref (wAd w (11, 12, 0, 0))), (1, .int a1), (2, .int a2)] []
  refine r_iconst C (v := 0) rfl dX11_fits_0 ?_
  refine r_istore_n C (lo' := [(3, .int 0), (0, .ref (wAd w (11, 12, 0, 0))), (1, .int a1), (2, .int a2)]) rfl (by decide) rfl dX11_fits_1 ?_
  refine r_lo [1, 2, 3, 0] (lo' := [(0, .ref (wAd w (11, 12, 0, 0))), (1, .int a1), (2, .int a2), (3, .int 0)]) rfl ?_
  exact lp_X11_fits_2 hW e a1 a2 C N 0 hF
theorem dX11_startFor_0 : decode cX11_startFor 0 = .ok (.iconst 0, 1) := by decide +kernel
theorem dX11_startFor_1 : decode cX11_startFor 1 = .ok (.istore_n 2, 1) := by decide +kernel
theorem dX11_startFor_2 : decode cX11_startFor 2 = .ok (.iload_n 2, 1) := by decide +kernel
theorem dX11_startFor_3 : decode cX11_startFor 3 = .ok (.iload_n 1, 1) := by decide +kernel
theorem dX11_startFor_4 : decode cX11_startFor 4 = .ok (.iadd, 1) := by decide +kernel
theorem dX11_startFor_5 : decode cX11_startFor 5 = .ok (.aload_n 0, 1) := by decide +kernel
theorem dX11_startFor_6 : decode cX11_startFor 6 = .ok (.getfield 7, 3) := by decide +kernel
theorem dX11_startFor_9 : decode cX11_startFor 9 = .ok (.iconst 0, 1) := by decide +kernel
theorem dX11_startFor_10 : decode cX11_startFor 10 = .ok (.iaload, 1) := by decide +kernel
theorem dX11_startFor_11 : decode cX11_startFor 11 = .ok (.if_icmp .gt 20, 3) := by decide +kernel
theorem dX11_startFor_14 : decode cX11_startFor 14 = .ok (.aload_n 0, 1) := by decide +kernel
theorem dX11_startFor_15 : decode cX11_startFor 15 = .ok (.iload_n 2, 1) := by decide +kernel
theorem dX11_startFor_16 : decode cX11_startFor 16 = .ok (.iload_n 1, 1) := by decide +kernel
theorem dX11_startFor_17 : decode cX11_startFor 17 = .ok (.invokevirtual 111, 3) := by decide +kernel
theorem dX11_startFor_20 : decode cX11_startFor 20 = .ok (.ifCond .eq 5, 3) := by decide +kernel
theorem dX11_startFor_23 : decode cX11_startFor 23 = .ok (.iload_n 2, 1) := by decide +kernel
theorem dX11_startFor_24 : decode cX11_startFor 24 = .ok (.ireturn, 1) := by decide +kernel
theorem dX11_startFor_25 : decode cX11_startFor 25 = .ok (.iinc 2 1, 3) := by decide +kernel
theorem dX11_startFor_28 : decode cX11_startFor 28 = .ok (.goto (-26), 3) := by decide +kernel
theorem dX11_startFor_31 : decode cX11_startFor 31 = .ok (.iconst (-1), 1) := by decide +kernel
theorem dX11_startFor_32 : decode cX11_startFor 32 = .ok (.ireturn, 1) := by decide +kernel
def st_X11_startFor_2 (N : Nat) (l1 : Int32) (l2 : Int32) (t : HV) : Option ((Int32) ⊕ (Int32)) := (if vpb 0 760 = true then (if (ag t 0 0) < (l2 + l1) then some (.inr (-1)) else (ob1 (F_X11_fits N l2 l1 t) fun v2 => (if v2 = true then some (.inr l2) else some (.inl (l2 + 1))))) else none)
def F_X11_startFor (N : Nat) (a1 : Int32) (t : HV) : Option (Int32) := (lpN N (fun z => st_X11_startFor_2 N a1 z t) (0))
theorem lp_X11_startFor_2 {w : WP} (hW : gWM w) {Ω : OM}  {t : HV} (e : Ω.2.1 = t)  (l1 : Int32) {N : Nat} {X : CX} (C : gC w X cX11_startFor "HedgeMessagesModel" (some .int) 5 3) {v : Int32}  : ∀ (n : Nat) (l2 : Int32), lpN n (fun z : Int32 => st_X11_startFor_2 N l1 z t) (l2) = some v → gV w X (some (.int v), cA w Ω) (cA w Ω) 2 [(0, .ref (wAd w (11, 12, 0, 0))), (1, .int l1), (2, .int l2)] [] := by
  intro n
  induction n with
  | zero => intro l2 hL; exact lpN_0 hL
  | succ n ih =>
    intro l2 hL
    obtain ⟨q9, hF, hL⟩ := lpN_e hL
    change st_X11_startFor_2 N l1 l2 t = some q9 at hF
    unfold st_X11_startFor_2 at hF
    refine r_iload_n C (k := 2) rfl rfl dX11_startFor_2 ?_
    refine r_iload_n C (k := 1) rfl rfl dX11_startFor_3 ?_
    refine r_iadd C dX11_startFor_4 ?_
    refine r_aload_n C (k := 0) rfl rfl dX11_startFor_5 ?_
    refine og_11_0 C (hW.ok k11) wm7_67 dX11_startFor_6 ?_
    refine r_iconst C (v := 0) rfl dX11_startFor_9 ?_
    obtain ⟨b1, hF⟩ := gd_e hF
    refine m_ald C (hW.ok (k12 (a := 0) (by unfold okMa; decide))) e rfl b1 dX11_startFor_10 ?_
    refine r_icmp_gt C (tgt := 31) rfl dX11_startFor_11 (fun hc => ?_) (fun hc => ?_)
    · rw [if_pos hc] at hF
      refine r_iconst C (v := (-1)) (by decide) dX11_startFor_31 ?_
      cases hF
      change some _ = some _ at hL
      cases hL
      exact r_ireturn C dX11_startFor_32
    · rw [if_neg hc] at hF
      refine r_aload_n C (k := 0) rfl rfl dX11_startFor_14 ?_
      refine r_iload_n C (k := 2) rfl rfl dX11_startFor_15 ?_
      refine r_iload_n C (k := 1) rfl rfl dX11_startFor_16 ?_
      obtain ⟨v2, hv2, hF⟩ := ob1_e hF
      refine r_callV C (d' := 4) [.int l2, .int l1] (c_X11_fits hW e N l2 l1 hv2) myX11_fits wm8_93 ⟨_, _, _, _, (hW.ok k11), rfl, rfl, rfl, rfl⟩ rfl (kR rfl) (by decide) (kR rfl) rfl dX11_startFor_17 ?_
      refine r_if_eq C (tgt := 25) rfl dX11_startFor_20 (fun hc => ?_) (fun hc => ?_)
      · rw [if_neg (b2i_f hc)] at hF
        refine r_iinc C (k := 2) (v := (l2 + 1)) (lo' := [(2, .int (l2 + 1)), (0, .ref (wAd w (11, 12, 0, 0))), (1, .int l1)]) rfl rfl (by decide) rfl dX11_startFor_25 ?_
        refine r_goto C (tgt := 2) rfl dX11_startFor_28 ?_
        cases hF
        change lpN n _ _ = some _ at hL
        refine r_lo [1, 2, 0] (lo' := [(0, .ref (wAd w (11, 12, 0, 0))), (1, .int l1), (2, .int (l2 + 1))]) rfl ?_
        exact ih (l2 + 1) hL
      · rw [if_pos (b2i_t hc)] at hF
        refine r_iload_n C (k := 2) rfl rfl dX11_startFor_23 ?_
        cases hF
        change some _ = some _ at hL
        cases hL
        exact r_ireturn C dX11_startFor_24
theorem c_X11_startFor {w : WP} (hW : gWM w) {Ω : OM}  {t : HV} (e : Ω.2.1 = t) (N : Nat) (a1 : Int32) {v : Int32} (hF : F_X11_startFor N a1 t = some v) : gM w 5 yX11_startFor cX11_startFor 3 (some .int) [.ref (wAd w (11, 12, 0, 0)), .int a1] (cA w Ω) (some (.int v)) (cA w Ω) := by
  refine gM_of "HedgeMessagesModel" rfl (by decide) (kR rfl) fun X C => ?_
  unfold F_X11_startFor at hF
  show gV w X _ _ 0 [(0, .ref (wAd w (11, 12, 0, 0))), (1, .int a1)] []
  refine r_iconst C (v := 0) rfl dX11_startFor_0 ?_
  refine r_istore_n C (lo' := [(2, .int 0), (0, .ref (wAd w (11, 12, 0, 0))), (1, .int a1)]) rfl (by decide) rfl dX11_startFor_1 ?_
  refine r_lo [1, 2, 0] (lo' := [(0, .ref (wAd w (11, 12, 0, 0))), (1, .int a1), (2, .int 0)]) rfl ?_
  exact lp_X11_startFor_2 hW e a1 C N 0 hF
theorem dX11_startOfNext_0 : decode cX11_startOfNext 0 = .ok (.aload_n 0, 1) := by decide +kernel
theorem dX11_startOfNext_1 : decode cX11_startOfNext 1 = .ok (.getfield 7, 3) := by decide +kernel
theorem dX11_startOfNext_4 : decode cX11_startOfNext 4 = .ok (.bipush 12, 2) := by decide +kernel
theorem dX11_startOfNext_6 : decode cX11_startOfNext 6 = .ok (.iload_n 1, 1) := by decide +kernel
theorem dX11_startOfNext_7 : decode cX11_startOfNext 7 = .ok (.iadd, 1) := by decide +kernel
theorem dX11_startOfNext_8 : decode cX11_startOfNext 8 = .ok (.iaload, 1) := by decide +kernel
theorem dX11_startOfNext_9 : decode cX11_startOfNext 9 = .ok (.ifCond .ne 7, 3) := by decide +kernel
theorem dX11_startOfNext_12 : decode cX11_startOfNext 12 = .ok (.iconst (-1), 1) := by decide +kernel
theorem dX11_startOfNext_13 : decode cX11_startOfNext 13 = .ok (.goto 17, 3) := by decide +kernel
theorem dX11_startOfNext_16 : decode cX11_startOfNext 16 = .ok (.aload_n 0, 1) := by decide +kernel
theorem dX11_startOfNext_17 : decode cX11_startOfNext 17 = .ok (.aload_n 0, 1) := by decide +kernel
theorem dX11_startOfNext_18 : decode cX11_startOfNext 18 = .ok (.getfield 7, 3) := by decide +kernel
theorem dX11_startOfNext_21 : decode cX11_startOfNext 21 = .ok (.iload_n 1, 1) := by decide +kernel
theorem dX11_startOfNext_22 : decode cX11_startOfNext 22 = .ok (.iconst 0, 1) := by decide +kernel
theorem dX11_startOfNext_23 : decode cX11_startOfNext 23 = .ok (.invokestatic 114, 3) := by decide +kernel
theorem dX11_startOfNext_26 : decode cX11_startOfNext 26 = .ok (.iaload, 1) := by decide +kernel
theorem dX11_startOfNext_27 : decode cX11_startOfNext 27 = .ok (.invokevirtual 117, 3) := by decide +kernel
theorem dX11_startOfNext_30 : decode cX11_startOfNext 30 = .ok (.ireturn, 1) := by decide +kernel
def F_X11_startOfNext (N : Nat) (a1 : Int32) (t : HV) : Option (Int32) := (if vpb (12 + a1) 760 = true then (if (ag t 0 (12 + a1)) = 0 then some (-1) else (if vpb (F_X11_waitingAt a1 0) 760 = true then (ob1 (F_X11_startFor N (ag t 0 (F_X11_waitingAt a1 0)) t) fun v3 => some v3) else none)) else none)
theorem c_X11_startOfNext {w : WP} (hW : gWM w) {Ω : OM}  {t : HV} (e : Ω.2.1 = t) (N : Nat) (a1 : Int32) {v : Int32} (hF : F_X11_startOfNext N a1 t = some v) : gM w 6 yX11_startOfNext cX11_startOfNext 2 (some .int) [.ref (wAd w (11, 12, 0, 0)), .int a1] (cA w Ω) (some (.int v)) (cA w Ω) := by
  refine gM_of "HedgeMessagesModel" rfl (by decide) (kR rfl) fun X C => ?_
  unfold F_X11_startOfNext at hF
  show gV w X _ _ 0 [(0, .ref (wAd w (11, 12, 0, 0))), (1, .int a1)] []
  refine r_aload_n C (k := 0) rfl rfl dX11_startOfNext_0 ?_
  refine og_11_0 C (hW.ok k11) wm7_67 dX11_startOfNext_1 ?_
  refine r_bipush C (v := 12) rfl dX11_startOfNext_4 ?_
  refine r_iload_n C (k := 1) rfl rfl dX11_startOfNext_6 ?_
  refine r_iadd C dX11_startOfNext_7 ?_
  obtain ⟨b1, hF⟩ := gd_e hF
  refine m_ald C (hW.ok (k12 (a := 0) (by unfold okMa; decide))) e rfl b1 dX11_startOfNext_8 ?_
  refine r_if_ne C (tgt := 16) rfl dX11_startOfNext_9 (fun hc => ?_) (fun hc => ?_)
  · rw [if_neg hc] at hF
    refine r_aload_n C (k := 0) rfl rfl dX11_startOfNext_16 ?_
    refine r_aload_n C (k := 0) rfl rfl dX11_startOfNext_17 ?_
    refine og_11_0 C (hW.ok k11) wm7_67 dX11_startOfNext_18 ?_
    refine r_iload_n C (k := 1) rfl rfl dX11_startOfNext_21 ?_
    refine r_iconst C (v := 0) rfl dX11_startOfNext_22 ?_
    refine r_callS C (d' := 0) [.int a1, .int 0] (c_X11_waitingAt a1 0 rfl) myX11_waitingAt wm7_56 rfl (kR rfl) (by decide) (kR rfl) rfl dX11_startOfNext_23 ?_
    obtain ⟨b2, hF⟩ := gd_e hF
    refine m_ald C (hW.ok (k12 (a := 0) (by unfold okMa; decide))) e rfl b2 dX11_startOfNext_26 ?_
    obtain ⟨v3, hv3, hF⟩ := ob1_e hF
    refine r_callV C (d' := 5) [.int (ag t 0 (F_X11_waitingAt a1 0))] (c_X11_startFor hW e N (ag t 0 (F_X11_waitingAt a1 0)) hv3) myX11_startFor wm8_89 ⟨_, _, _, _, (hW.ok k11), rfl, rfl, rfl, rfl⟩ rfl (kR rfl) (by decide) (kR rfl) rfl dX11_startOfNext_27 ?_
    cases hF
    exact r_ireturn C dX11_startOfNext_30
  · rw [if_pos hc] at hF
    refine r_iconst C (v := (-1)) (by decide) dX11_startOfNext_12 ?_
    refine r_goto C (tgt := 30) rfl dX11_startOfNext_13 ?_
    cases hF
    exact r_ireturn C dX11_startOfNext_30
theorem dX11_waits_0 : decode cX11_waits 0 = .ok (.iload_n 1, 1) := by decide +kernel
theorem dX11_waits_1 : decode cX11_waits 1 = .ok (.aload_n 0, 1) := by decide +kernel
theorem dX11_waits_2 : decode cX11_waits 2 = .ok (.getfield 7, 3) := by decide +kernel
theorem dX11_waits_5 : decode cX11_waits 5 = .ok (.bipush 12, 2) := by decide +kernel
theorem dX11_waits_7 : decode cX11_waits 7 = .ok (.iload_n 1, 1) := by decide +kernel
theorem dX11_waits_8 : decode cX11_waits 8 = .ok (.iadd, 1) := by decide +kernel
theorem dX11_waits_9 : decode cX11_waits 9 = .ok (.iaload, 1) := by decide +kernel
theorem dX11_waits_10 : decode cX11_waits 10 = .ok (.invokestatic 114, 3) := by decide +kernel
theorem dX11_waits_13 : decode cX11_waits 13 = .ok (.istore_n 3, 1) := by decide +kernel
theorem dX11_waits_14 : decode cX11_waits 14 = .ok (.iconst 0, 1) := by decide +kernel
theorem dX11_waits_15 : decode cX11_waits 15 = .ok (.istore 4, 2) := by decide +kernel
theorem dX11_waits_17 : decode cX11_waits 17 = .ok (.iload 4, 2) := by decide +kernel
theorem dX11_waits_19 : decode cX11_waits 19 = .ok (.bipush 13, 2) := by decide +kernel
theorem dX11_waits_21 : decode cX11_waits 21 = .ok (.if_icmp .ge 27, 3) := by decide +kernel
theorem dX11_waits_24 : decode cX11_waits 24 = .ok (.aload_n 0, 1) := by decide +kernel
theorem dX11_waits_25 : decode cX11_waits 25 = .ok (.getfield 7, 3) := by decide +kernel
theorem dX11_waits_28 : decode cX11_waits 28 = .ok (.iload_n 3, 1) := by decide +kernel
theorem dX11_waits_29 : decode cX11_waits 29 = .ok (.iload 4, 2) := by decide +kernel
theorem dX11_waits_31 : decode cX11_waits 31 = .ok (.iadd, 1) := by decide +kernel
theorem dX11_waits_32 : decode cX11_waits 32 = .ok (.aload_n 0, 1) := by decide +kernel
theorem dX11_waits_33 : decode cX11_waits 33 = .ok (.getfield 7, 3) := by decide +kernel
theorem dX11_waits_36 : decode cX11_waits 36 = .ok (.iload_n 2, 1) := by decide +kernel
theorem dX11_waits_37 : decode cX11_waits 37 = .ok (.iload 4, 2) := by decide +kernel
theorem dX11_waits_39 : decode cX11_waits 39 = .ok (.iadd, 1) := by decide +kernel
theorem dX11_waits_40 : decode cX11_waits 40 = .ok (.iaload, 1) := by decide +kernel
theorem dX11_waits_41 : decode cX11_waits 41 = .ok (.iastore, 1) := by decide +kernel
theorem dX11_waits_42 : decode cX11_waits 42 = .ok (.iinc 4 1, 3) := by decide +kernel
theorem dX11_waits_45 : decode cX11_waits 45 = .ok (.goto (-28), 3) := by decide +kernel
theorem dX11_waits_48 : decode cX11_waits 48 = .ok (.aload_n 0, 1) := by decide +kernel
theorem dX11_waits_49 : decode cX11_waits 49 = .ok (.getfield 7, 3) := by decide +kernel
theorem dX11_waits_52 : decode cX11_waits 52 = .ok (.bipush 12, 2) := by decide +kernel
theorem dX11_waits_54 : decode cX11_waits 54 = .ok (.iload_n 1, 1) := by decide +kernel
theorem dX11_waits_55 : decode cX11_waits 55 = .ok (.iadd, 1) := by decide +kernel
theorem dX11_waits_56 : decode cX11_waits 56 = .ok (.dup2, 1) := by decide +kernel
theorem dX11_waits_57 : decode cX11_waits 57 = .ok (.iaload, 1) := by decide +kernel
theorem dX11_waits_58 : decode cX11_waits 58 = .ok (.iconst 1, 1) := by decide +kernel
theorem dX11_waits_59 : decode cX11_waits 59 = .ok (.iadd, 1) := by decide +kernel
theorem dX11_waits_60 : decode cX11_waits 60 = .ok (.iastore, 1) := by decide +kernel
theorem dX11_waits_61 : decode cX11_waits 61 = .ok (.return_, 1) := by decide +kernel
def st_X11_waits_17 (N : Nat) (l1 : Int32) (l2 : Int32) (l3 : Int32) (l4 : Int32) (t : HV) : Option ((Int32 × HV) ⊕ (HV)) := (if 13 ≤ l4 then (if vpb (12 + l1) 760 = true then (if vpb (12 + l1) 760 = true then (lt (aw t 0 (12 + l1) ((ag t 0 (12 + l1)) + 1)) fun t4 => some (.inr t4)) else none) else none) else (if vpb (l2 + l4) 760 = true then (if vpb (l3 + l4) 760 = true then (lt (aw t 0 (l3 + l4) (ag t 0 (l2 + l4))) fun t7 => some (.inl ((l4 + 1), t7))) else none) else none))
def F_X11_waits (N : Nat) (a1 : Int32) (a2 : Int32) (t : HV) : Option (HV) := (if vpb (12 + a1) 760 = true then (lpN N (fun z => st_X11_waits_17 N a1 a2 (F_X11_waitingAt a1 (ag t 0 (12 + a1))) z.1 z.2) (0, t)) else none)
theorem lp_X11_waits_17 {w : WP} (hW : gWM w) {Ω : OM}   (l1 : Int32) (l2 : Int32) (l3 : Int32) {N : Nat} {X : CX} (C : gC w X cX11_waits "HedgeMessagesModel" none 1 5) {t' : HV}  : ∀ (n : Nat) (l4 : Int32) (t : HV), lpN n (fun z : Int32 × HV => st_X11_waits_17 N l1 l2 l3 z.1 z.2) (l4, t) = some t' → gV w X (none, cA w (sM Ω t')) (cA w (sM Ω t)) 17 [(0, .ref (wAd w (11, 12, 0, 0))), (1, .int l1), (2, .int l2), (3, .int l3), (4, .int l4)] [] := by
  intro n
  induction n with
  | zero => intro l4 t hL; exact lpN_0 hL
  | succ n ih =>
    intro l4 t hL
    obtain ⟨q9, hF, hL⟩ := lpN_e hL
    change st_X11_waits_17 N l1 l2 l3 l4 t = some q9 at hF
    unfold st_X11_waits_17 at hF
    refine r_iload C (k := 4) rfl dX11_waits_17 ?_
    refine r_bipush C (v := 13) rfl dX11_waits_19 ?_
    refine r_icmp_ge C (tgt := 48) rfl dX11_waits_21 (fun hc => ?_) (fun hc => ?_)
    · rw [if_pos hc] at hF
      refine r_aload_n C (k := 0) rfl rfl dX11_waits_48 ?_
      refine og_11_0 C (hW.ok k11) wm7_67 dX11_waits_49 ?_
      refine r_bipush C (v := 12) rfl dX11_waits_52 ?_
      refine r_iload_n C (k := 1) rfl rfl dX11_waits_54 ?_
      refine r_iadd C dX11_waits_55 ?_
      refine r_dup2_11 C rfl rfl dX11_waits_56 ?_
      obtain ⟨b2, hF⟩ := gd_e hF
      refine m_ald C (hW.ok (k12 (a := 0) (by unfold okMa; decide))) (show (sM Ω t).2.1 = t from rfl) rfl b2 dX11_waits_57 ?_
      refine r_iconst C (v := 1) rfl dX11_waits_58 ?_
      refine r_iadd C dX11_waits_59 ?_
      obtain ⟨b3, hF⟩ := gd_e hF
      obtain ⟨t4, et4, hF⟩ := lt_e hF
      refine m_ast C hW.x (hW.fr (k12 (a := 0) (by unfold okMa; decide))) (show (sM Ω t).2.1 = t from rfl) rfl b3 dX11_waits_60 (congrArg (sM Ω) et4) ?_
      cases hF
      change some _ = some _ at hL
      cases hL
      exact r_return C dX11_waits_61
    · rw [if_neg hc] at hF
      refine r_aload_n C (k := 0) rfl rfl dX11_waits_24 ?_
      refine og_11_0 C (hW.ok k11) wm7_67 dX11_waits_25 ?_
      refine r_iload_n C (k := 3) rfl rfl dX11_waits_28 ?_
      refine r_iload C (k := 4) rfl dX11_waits_29 ?_
      refine r_iadd C dX11_waits_31 ?_
      refine r_aload_n C (k := 0) rfl rfl dX11_waits_32 ?_
      refine og_11_0 C (hW.ok k11) wm7_67 dX11_waits_33 ?_
      refine r_iload_n C (k := 2) rfl rfl dX11_waits_36 ?_
      refine r_iload C (k := 4) rfl dX11_waits_37 ?_
      refine r_iadd C dX11_waits_39 ?_
      obtain ⟨b5, hF⟩ := gd_e hF
      refine m_ald C (hW.ok (k12 (a := 0) (by unfold okMa; decide))) (show (sM Ω t).2.1 = t from rfl) rfl b5 dX11_waits_40 ?_
      obtain ⟨b6, hF⟩ := gd_e hF
      obtain ⟨t7, et7, hF⟩ := lt_e hF
      refine m_ast C hW.x (hW.fr (k12 (a := 0) (by unfold okMa; decide))) (show (sM Ω t).2.1 = t from rfl) rfl b6 dX11_waits_41 (congrArg (sM Ω) et7) ?_
      refine r_iinc C (k := 4) (v := (l4 + 1)) (lo' := [(4, .int (l4 + 1)), (0, .ref (wAd w (11, 12, 0, 0))), (1, .int l1), (2, .int l2), (3, .int l3)]) rfl rfl (by decide) rfl dX11_waits_42 ?_
      refine r_goto C (tgt := 17) rfl dX11_waits_45 ?_
      cases hF
      change lpN n _ _ = some _ at hL
      refine r_lo [1, 2, 3, 4, 0] (lo' := [(0, .ref (wAd w (11, 12, 0, 0))), (1, .int l1), (2, .int l2), (3, .int l3), (4, .int (l4 + 1))]) rfl ?_
      exact ih (l4 + 1) t7 hL
theorem c_X11_waits {w : WP} (hW : gWM w) {Ω : OM}  {t : HV} (e : Ω.2.1 = t) (N : Nat) (a1 : Int32) (a2 : Int32) {t' : HV} (hF : F_X11_waits N a1 a2 t = some t') {Ω' : OM} (e2 : (sM Ω t') = Ω') : gM w 1 yX11_waits cX11_waits 5 none [.ref (wAd w (11, 12, 0, 0)), .int a1, .int a2] (cA w Ω) none (cA w Ω') := by
  refine gM_of "HedgeMessagesModel" rfl (by decide) (kR rfl) fun X C => ?_
  unfold F_X11_waits at hF
  subst e2
  show gV w X _ _ 0 [(0, .ref (wAd w (11, 12, 0, 0))), (1, .int a1), (2, .int a2)] []
  refine r_ct (ct' := cA w (sM Ω t)) (congrArg (cA w) (sM_i e).symm) ?_
  refine r_iload_n C (k := 1) rfl rfl dX11_waits_0 ?_
  refine r_aload_n C (k := 0) rfl rfl dX11_waits_1 ?_
  refine og_11_0 C (hW.ok k11) wm7_67 dX11_waits_2 ?_
  refine r_bipush C (v := 12) rfl dX11_waits_5 ?_
  refine r_iload_n C (k := 1) rfl rfl dX11_waits_7 ?_
  refine r_iadd C dX11_waits_8 ?_
  obtain ⟨b1, hF⟩ := gd_e hF
  refine m_ald C (hW.ok (k12 (a := 0) (by unfold okMa; decide))) (show (sM Ω t).2.1 = t from rfl) rfl b1 dX11_waits_9 ?_
  refine r_callS C (d' := 0) [.int a1, .int (ag t 0 (12 + a1))] (c_X11_waitingAt a1 (ag t 0 (12 + a1)) rfl) myX11_waitingAt wm7_56 rfl (kR rfl) (by decide) (kR rfl) rfl dX11_waits_10 ?_
  refine r_istore_n C (lo' := [(3, .int (F_X11_waitingAt a1 (ag t 0 (12 + a1)))), (0, .ref (wAd w (11, 12, 0, 0))), (1, .int a1), (2, .int a2)]) rfl (by decide) rfl dX11_waits_13 ?_
  refine r_iconst C (v := 0) rfl dX11_waits_14 ?_
  refine r_istore C (lo' := [(4, .int 0), (3, .int (F_X11_waitingAt a1 (ag t 0 (12 + a1)))), (0, .ref (wAd w (11, 12, 0, 0))), (1, .int a1), (2, .int a2)]) (by decide) rfl dX11_waits_15 ?_
  refine r_lo [2, 3, 4, 1, 0] (lo' := [(0, .ref (wAd w (11, 12, 0, 0))), (1, .int a1), (2, .int a2), (3, .int (F_X11_waitingAt a1 (ag t 0 (12 + a1)))), (4, .int 0)]) rfl ?_
  exact lp_X11_waits_17 hW a1 a2 (F_X11_waitingAt a1 (ag t 0 (12 + a1))) C N 0 t hF
theorem dX11_waitsNoMore_0 : decode cX11_waitsNoMore 0 = .ok (.aload_n 0, 1) := by decide +kernel
theorem dX11_waitsNoMore_1 : decode cX11_waitsNoMore 1 = .ok (.getfield 7, 3) := by decide +kernel
theorem dX11_waitsNoMore_4 : decode cX11_waitsNoMore 4 = .ok (.bipush 12, 2) := by decide +kernel
theorem dX11_waitsNoMore_6 : decode cX11_waitsNoMore 6 = .ok (.iload_n 1, 1) := by decide +kernel
theorem dX11_waitsNoMore_7 : decode cX11_waitsNoMore 7 = .ok (.iadd, 1) := by decide +kernel
theorem dX11_waitsNoMore_8 : decode cX11_waitsNoMore 8 = .ok (.dup2, 1) := by decide +kernel
theorem dX11_waitsNoMore_9 : decode cX11_waitsNoMore 9 = .ok (.iaload, 1) := by decide +kernel
theorem dX11_waitsNoMore_10 : decode cX11_waitsNoMore 10 = .ok (.iconst 1, 1) := by decide +kernel
theorem dX11_waitsNoMore_11 : decode cX11_waitsNoMore 11 = .ok (.isub, 1) := by decide +kernel
theorem dX11_waitsNoMore_12 : decode cX11_waitsNoMore 12 = .ok (.iastore, 1) := by decide +kernel
theorem dX11_waitsNoMore_13 : decode cX11_waitsNoMore 13 = .ok (.iload_n 1, 1) := by decide +kernel
theorem dX11_waitsNoMore_14 : decode cX11_waitsNoMore 14 = .ok (.aload_n 0, 1) := by decide +kernel
theorem dX11_waitsNoMore_15 : decode cX11_waitsNoMore 15 = .ok (.getfield 7, 3) := by decide +kernel
theorem dX11_waitsNoMore_18 : decode cX11_waitsNoMore 18 = .ok (.bipush 12, 2) := by decide +kernel
theorem dX11_waitsNoMore_20 : decode cX11_waitsNoMore 20 = .ok (.iload_n 1, 1) := by decide +kernel
theorem dX11_waitsNoMore_21 : decode cX11_waitsNoMore 21 = .ok (.iadd, 1) := by decide +kernel
theorem dX11_waitsNoMore_22 : decode cX11_waitsNoMore 22 = .ok (.iaload, 1) := by decide +kernel
theorem dX11_waitsNoMore_23 : decode cX11_waitsNoMore 23 = .ok (.invokestatic 114, 3) := by decide +kernel
theorem dX11_waitsNoMore_26 : decode cX11_waitsNoMore 26 = .ok (.istore_n 3, 1) := by decide +kernel
theorem dX11_waitsNoMore_27 : decode cX11_waitsNoMore 27 = .ok (.iload_n 1, 1) := by decide +kernel
theorem dX11_waitsNoMore_28 : decode cX11_waitsNoMore 28 = .ok (.iload_n 2, 1) := by decide +kernel
theorem dX11_waitsNoMore_29 : decode cX11_waitsNoMore 29 = .ok (.invokestatic 114, 3) := by decide +kernel
theorem dX11_waitsNoMore_32 : decode cX11_waitsNoMore 32 = .ok (.istore 4, 2) := by decide +kernel
theorem dX11_waitsNoMore_34 : decode cX11_waitsNoMore 34 = .ok (.iload 4, 2) := by decide +kernel
theorem dX11_waitsNoMore_36 : decode cX11_waitsNoMore 36 = .ok (.iload_n 3, 1) := by decide +kernel
theorem dX11_waitsNoMore_37 : decode cX11_waitsNoMore 37 = .ok (.if_icmp .ge 26, 3) := by decide +kernel
theorem dX11_waitsNoMore_40 : decode cX11_waitsNoMore 40 = .ok (.aload_n 0, 1) := by decide +kernel
theorem dX11_waitsNoMore_41 : decode cX11_waitsNoMore 41 = .ok (.getfield 7, 3) := by decide +kernel
theorem dX11_waitsNoMore_44 : decode cX11_waitsNoMore 44 = .ok (.iload 4, 2) := by decide +kernel
theorem dX11_waitsNoMore_46 : decode cX11_waitsNoMore 46 = .ok (.aload_n 0, 1) := by decide +kernel
theorem dX11_waitsNoMore_47 : decode cX11_waitsNoMore 47 = .ok (.getfield 7, 3) := by decide +kernel
theorem dX11_waitsNoMore_50 : decode cX11_waitsNoMore 50 = .ok (.iload 4, 2) := by decide +kernel
theorem dX11_waitsNoMore_52 : decode cX11_waitsNoMore 52 = .ok (.bipush 13, 2) := by decide +kernel
theorem dX11_waitsNoMore_54 : decode cX11_waitsNoMore 54 = .ok (.iadd, 1) := by decide +kernel
theorem dX11_waitsNoMore_55 : decode cX11_waitsNoMore 55 = .ok (.iaload, 1) := by decide +kernel
theorem dX11_waitsNoMore_56 : decode cX11_waitsNoMore 56 = .ok (.iastore, 1) := by decide +kernel
theorem dX11_waitsNoMore_57 : decode cX11_waitsNoMore 57 = .ok (.iinc 4 1, 3) := by decide +kernel
theorem dX11_waitsNoMore_60 : decode cX11_waitsNoMore 60 = .ok (.goto (-26), 3) := by decide +kernel
theorem dX11_waitsNoMore_63 : decode cX11_waitsNoMore 63 = .ok (.return_, 1) := by decide +kernel
def st_X11_waitsNoMore_34 (N : Nat) (l3 : Int32) (l4 : Int32) (t : HV) : Option ((Int32 × HV) ⊕ (HV)) := (if l3 ≤ l4 then some (.inr t) else (if vpb (l4 + 13) 760 = true then (if vpb l4 760 = true then (lt (aw t 0 l4 (ag t 0 (l4 + 13))) fun t7 => some (.inl ((l4 + 1), t7))) else none) else none))
def F_X11_waitsNoMore (N : Nat) (a1 : Int32) (a2 : Int32) (t : HV) : Option (HV) := (if vpb (12 + a1) 760 = true then (if vpb (12 + a1) 760 = true then (lt (aw t 0 (12 + a1) ((ag t 0 (12 + a1)) - 1)) fun t3 => (if vpb (12 + a1) 760 = true then (lpN N (fun z => st_X11_waitsNoMore_34 N (F_X11_waitingAt a1 (ag t3 0 (12 + a1))) z.1 z.2) ((F_X11_waitingAt a1 a2), t3)) else none)) else none) else none)
theorem lp_X11_waitsNoMore_34 {w : WP} (hW : gWM w) {Ω : OM}   (l3 : Int32) {N : Nat} {X : CX} (C : gC w X cX11_waitsNoMore "HedgeMessagesModel" none 1 5) {t' : HV}  : ∀ (n : Nat) (l4 : Int32) (t : HV), lpN n (fun z : Int32 × HV => st_X11_waitsNoMore_34 N l3 z.1 z.2) (l4, t) = some t' → gV w X (none, cA w (sM Ω t')) (cA w (sM Ω t)) 34 [(0, .ref (wAd w (11, 12, 0, 0))), (3, .int l3), (4, .int l4)] [] := by
  intro n
  induction n with
  | zero => intro l4 t hL; exact lpN_0 hL
  | succ n ih =>
    intro l4 t hL
    obtain ⟨q9, hF, hL⟩ := lpN_e hL
    change st_X11_waitsNoMore_34 N l3 l4 t = some q9 at hF
    unfold st_X11_waitsNoMore_34 at hF
    refine r_iload C (k := 2) rfl dX11_waitsNoMore_34 ?_
    refine r_iload_n C (k := 1) rfl rfl dX11_waitsNoMore_36 ?_
    refine r_icmp_ge C (tgt := 63) rfl dX11_waitsNoMore_37 (fun hc => ?_) (fun hc => ?_)
    · rw [if_pos hc] at hF
      cases hF
      change some _ = some _ at hL
      cases hL
      exact r_return C dX11_waitsNoMore_63
    · rw [if_neg hc] at hF
      refine r_aload_n C (k := 0) rfl rfl dX11_waitsNoMore_40 ?_
      refine og_11_0 C (hW.ok k11) wm7_67 dX11_waitsNoMore_41 ?_
      refine r_iload C (k := 2) rfl dX11_waitsNoMore_44 ?_
      refine r_aload_n C (k := 0) rfl rfl dX11_waitsNoMore_46 ?_
      refine og_11_0 C (hW.ok k11) wm7_67 dX11_waitsNoMore_47 ?_
      refine r_iload C (k := 2) rfl dX11_waitsNoMore_50 ?_
      refine r_bipush C (v := 13) rfl dX11_waitsNoMore_52 ?_
      refine r_iadd C dX11_waitsNoMore_54 ?_
      obtain ⟨b5, hF⟩ := gd_e hF
      refine m_ald C (hW.ok (k12 (a := 0) (by unfold okMa; decide))) (show (sM Ω t).2.1 = t from rfl) rfl b5 dX11_waitsNoMore_55 ?_
      obtain ⟨b6, hF⟩ := gd_e hF
      obtain ⟨t7, et7, hF⟩ := lt_e hF
      refine m_ast C hW.x (hW.fr (k12 (a := 0) (by unfold okMa; decide))) (show (sM Ω t).2.1 = t from rfl) rfl b6 dX11_waitsNoMore_56 (congrArg (sM Ω) et7) ?_
      refine r_iinc C (k := 2) (v := (l4 + 1)) (lo' := [(4, .int (l4 + 1)), (0, .ref (wAd w (11, 12, 0, 0))), (3, .int l3)]) rfl rfl (by decide) rfl dX11_waitsNoMore_57 ?_
      refine r_goto C (tgt := 34) rfl dX11_waitsNoMore_60 ?_
      cases hF
      change lpN n _ _ = some _ at hL
      refine r_lo [1, 2, 0] (lo' := [(0, .ref (wAd w (11, 12, 0, 0))), (3, .int l3), (4, .int (l4 + 1))]) rfl ?_
      exact ih (l4 + 1) t7 hL
theorem c_X11_waitsNoMore {w : WP} (hW : gWM w) {Ω : OM}  {t : HV} (e : Ω.2.1 = t) (N : Nat) (a1 : Int32) (a2 : Int32) {t' : HV} (hF : F_X11_waitsNoMore N a1 a2 t = some t') {Ω' : OM} (e2 : (sM Ω t') = Ω') : gM w 1 yX11_waitsNoMore cX11_waitsNoMore 5 none [.ref (wAd w (11, 12, 0, 0)), .int a1, .int a2] (cA w Ω) none (cA w Ω') := by
  refine gM_of "HedgeMessagesModel" rfl (by decide) (kR rfl) fun X C => ?_
  unfold F_X11_waitsNoMore at hF
  subst e2
  show gV w X _ _ 0 [(0, .ref (wAd w (11, 12, 0, 0))), (1, .int a1), (2, .int a2)] []
  refine r_ct (ct' := cA w (sM Ω t)) (congrArg (cA w) (sM_i e).symm) ?_
  refine r_aload_n C (k := 0) rfl rfl dX11_waitsNoMore_0 ?_
  refine og_11_0 C (hW.ok k11) wm7_67 dX11_waitsNoMore_1 ?_
  refine r_bipush C (v := 12) rfl dX11_waitsNoMore_4 ?_
  refine r_iload_n C (k := 1) rfl rfl dX11_waitsNoMore_6 ?_
  refine r_iadd C dX11_waitsNoMore_7 ?_
  refine r_dup2_11 C rfl rfl dX11_waitsNoMore_8 ?_
  obtain ⟨b1, hF⟩ := gd_e hF
  refine m_ald C (hW.ok (k12 (a := 0) (by unfold okMa; decide))) (show (sM Ω t).2.1 = t from rfl) rfl b1 dX11_waitsNoMore_9 ?_
  refine r_iconst C (v := 1) rfl dX11_waitsNoMore_10 ?_
  refine r_isub C dX11_waitsNoMore_11 ?_
  obtain ⟨b2, hF⟩ := gd_e hF
  obtain ⟨t3, et3, hF⟩ := lt_e hF
  refine m_ast C hW.x (hW.fr (k12 (a := 0) (by unfold okMa; decide))) (show (sM Ω t).2.1 = t from rfl) rfl b2 dX11_waitsNoMore_12 (congrArg (sM Ω) et3) ?_
  refine r_iload_n C (k := 1) rfl rfl dX11_waitsNoMore_13 ?_
  refine r_aload_n C (k := 0) rfl rfl dX11_waitsNoMore_14 ?_
  refine og_11_0 C (hW.ok k11) wm7_67 dX11_waitsNoMore_15 ?_
  refine r_bipush C (v := 12) rfl dX11_waitsNoMore_18 ?_
  refine r_iload_n C (k := 1) rfl rfl dX11_waitsNoMore_20 ?_
  refine r_iadd C dX11_waitsNoMore_21 ?_
  obtain ⟨b4, hF⟩ := gd_e hF
  refine m_ald C (hW.ok (k12 (a := 0) (by unfold okMa; decide))) (show (sM Ω t3).2.1 = t3 from rfl) rfl b4 dX11_waitsNoMore_22 ?_
  refine r_callS C (d' := 0) [.int a1, .int (ag t3 0 (12 + a1))] (c_X11_waitingAt a1 (ag t3 0 (12 + a1)) rfl) myX11_waitingAt wm7_56 rfl (kR rfl) (by decide) (kR rfl) rfl dX11_waitsNoMore_23 ?_
  refine r_istore_n C (lo' := [(3, .int (F_X11_waitingAt a1 (ag t3 0 (12 + a1)))), (0, .ref (wAd w (11, 12, 0, 0))), (1, .int a1), (2, .int a2)]) rfl (by decide) rfl dX11_waitsNoMore_26 ?_
  refine r_iload_n C (k := 2) rfl rfl dX11_waitsNoMore_27 ?_
  refine r_iload_n C (k := 3) rfl rfl dX11_waitsNoMore_28 ?_
  refine r_callS C (d' := 0) [.int a1, .int a2] (c_X11_waitingAt a1 a2 rfl) myX11_waitingAt wm7_56 rfl (kR rfl) (by decide) (kR rfl) rfl dX11_waitsNoMore_29 ?_
  refine r_istore C (lo' := [(4, .int (F_X11_waitingAt a1 a2)), (3, .int (F_X11_waitingAt a1 (ag t3 0 (12 + a1)))), (0, .ref (wAd w (11, 12, 0, 0))), (1, .int a1), (2, .int a2)]) (by decide) rfl dX11_waitsNoMore_32 ?_
  refine r_lo [2, 1, 0] (lo' := [(0, .ref (wAd w (11, 12, 0, 0))), (3, .int (F_X11_waitingAt a1 (ag t3 0 (12 + a1)))), (4, .int (F_X11_waitingAt a1 a2))]) rfl ?_
  exact lp_X11_waitsNoMore_34 hW (F_X11_waitingAt a1 (ag t3 0 (12 + a1))) C N (F_X11_waitingAt a1 a2) t3 hF
theorem dX11_begins_0 : decode cX11_begins 0 = .ok (.iload_n 1, 1) := by decide +kernel
theorem dX11_begins_1 : decode cX11_begins 1 = .ok (.invokestatic 91, 3) := by decide +kernel
theorem dX11_begins_4 : decode cX11_begins 4 = .ok (.istore_n 3, 1) := by decide +kernel
theorem dX11_begins_5 : decode cX11_begins 5 = .ok (.iload_n 1, 1) := by decide +kernel
theorem dX11_begins_6 : decode cX11_begins 6 = .ok (.iconst 0, 1) := by decide +kernel
theorem dX11_begins_7 : decode cX11_begins 7 = .ok (.invokestatic 114, 3) := by decide +kernel
theorem dX11_begins_10 : decode cX11_begins 10 = .ok (.istore 4, 2) := by decide +kernel
theorem dX11_begins_12 : decode cX11_begins 12 = .ok (.iconst 0, 1) := by decide +kernel
theorem dX11_begins_13 : decode cX11_begins 13 = .ok (.istore 5, 2) := by decide +kernel
theorem dX11_begins_15 : decode cX11_begins 15 = .ok (.iload 5, 2) := by decide +kernel
theorem dX11_begins_17 : decode cX11_begins 17 = .ok (.bipush 13, 2) := by decide +kernel
theorem dX11_begins_19 : decode cX11_begins 19 = .ok (.if_icmp .ge 28, 3) := by decide +kernel
theorem dX11_begins_22 : decode cX11_begins 22 = .ok (.aload_n 0, 1) := by decide +kernel
theorem dX11_begins_23 : decode cX11_begins 23 = .ok (.getfield 7, 3) := by decide +kernel
theorem dX11_begins_26 : decode cX11_begins 26 = .ok (.iload_n 3, 1) := by decide +kernel
theorem dX11_begins_27 : decode cX11_begins 27 = .ok (.iload 5, 2) := by decide +kernel
theorem dX11_begins_29 : decode cX11_begins 29 = .ok (.iadd, 1) := by decide +kernel
theorem dX11_begins_30 : decode cX11_begins 30 = .ok (.aload_n 0, 1) := by decide +kernel
theorem dX11_begins_31 : decode cX11_begins 31 = .ok (.getfield 7, 3) := by decide +kernel
theorem dX11_begins_34 : decode cX11_begins 34 = .ok (.iload 4, 2) := by decide +kernel
theorem dX11_begins_36 : decode cX11_begins 36 = .ok (.iload 5, 2) := by decide +kernel
theorem dX11_begins_38 : decode cX11_begins 38 = .ok (.iadd, 1) := by decide +kernel
theorem dX11_begins_39 : decode cX11_begins 39 = .ok (.iaload, 1) := by decide +kernel
theorem dX11_begins_40 : decode cX11_begins 40 = .ok (.iastore, 1) := by decide +kernel
theorem dX11_begins_41 : decode cX11_begins 41 = .ok (.iinc 5 1, 3) := by decide +kernel
theorem dX11_begins_44 : decode cX11_begins 44 = .ok (.goto (-29), 3) := by decide +kernel
theorem dX11_begins_47 : decode cX11_begins 47 = .ok (.aload_n 0, 1) := by decide +kernel
theorem dX11_begins_48 : decode cX11_begins 48 = .ok (.getfield 7, 3) := by decide +kernel
theorem dX11_begins_51 : decode cX11_begins 51 = .ok (.iload_n 3, 1) := by decide +kernel
theorem dX11_begins_52 : decode cX11_begins 52 = .ok (.bipush 13, 2) := by decide +kernel
theorem dX11_begins_54 : decode cX11_begins 54 = .ok (.iadd, 1) := by decide +kernel
theorem dX11_begins_55 : decode cX11_begins 55 = .ok (.iload_n 2, 1) := by decide +kernel
theorem dX11_begins_56 : decode cX11_begins 56 = .ok (.iastore, 1) := by decide +kernel
theorem dX11_begins_57 : decode cX11_begins 57 = .ok (.aload_n 0, 1) := by decide +kernel
theorem dX11_begins_58 : decode cX11_begins 58 = .ok (.getfield 7, 3) := by decide +kernel
theorem dX11_begins_61 : decode cX11_begins 61 = .ok (.iload_n 3, 1) := by decide +kernel
theorem dX11_begins_62 : decode cX11_begins 62 = .ok (.bipush 14, 2) := by decide +kernel
theorem dX11_begins_64 : decode cX11_begins 64 = .ok (.iadd, 1) := by decide +kernel
theorem dX11_begins_65 : decode cX11_begins 65 = .ok (.iconst 0, 1) := by decide +kernel
theorem dX11_begins_66 : decode cX11_begins 66 = .ok (.iastore, 1) := by decide +kernel
theorem dX11_begins_67 : decode cX11_begins 67 = .ok (.aload_n 0, 1) := by decide +kernel
theorem dX11_begins_68 : decode cX11_begins 68 = .ok (.iload_n 1, 1) := by decide +kernel
theorem dX11_begins_69 : decode cX11_begins 69 = .ok (.iconst 0, 1) := by decide +kernel
theorem dX11_begins_70 : decode cX11_begins 70 = .ok (.invokevirtual 120, 3) := by decide +kernel
theorem dX11_begins_73 : decode cX11_begins 73 = .ok (.return_, 1) := by decide +kernel
def st_X11_begins_15 (N : Nat) (l1 : Int32) (l2 : Int32) (l3 : Int32) (l4 : Int32) (l5 : Int32) (t : HV) : Option ((Int32 × HV) ⊕ (HV)) := (if 13 ≤ l5 then (if vpb (l3 + 13) 760 = true then (lt (aw t 0 (l3 + 13) l2) fun t2 => (if vpb (l3 + 14) 760 = true then (lt (aw t2 0 (l3 + 14) 0) fun t4 => (ob1 (F_X11_waitsNoMore N l1 0 t4) fun t6 => some (.inr t6))) else none)) else none) else (if vpb (l4 + l5) 760 = true then (if vpb (l3 + l5) 760 = true then (lt (aw t 0 (l3 + l5) (ag t 0 (l4 + l5))) fun t9 => some (.inl ((l5 + 1), t9))) else none) else none))
def F_X11_begins (N : Nat) (a1 : Int32) (a2 : Int32) (t : HV) : Option (HV) := (lpN N (fun z => st_X11_begins_15 N a1 a2 (F_X11_progressOf a1) (F_X11_waitingAt a1 0) z.1 z.2) (0, t))
theorem lp_X11_begins_15 {w : WP} (hW : gWM w) {Ω : OM}   (l1 : Int32) (l2 : Int32) (l3 : Int32) (l4 : Int32) {N : Nat} {X : CX} (C : gC w X cX11_begins "HedgeMessagesModel" none 2 6) {t' : HV}  : ∀ (n : Nat) (l5 : Int32) (t : HV), lpN n (fun z : Int32 × HV => st_X11_begins_15 N l1 l2 l3 l4 z.1 z.2) (l5, t) = some t' → gV w X (none, cA w (sM Ω t')) (cA w (sM Ω t)) 15 [(0, .ref (wAd w (11, 12, 0, 0))), (1, .int l1), (2, .int l2), (3, .int l3), (4, .int l4), (5, .int l5)] [] := by
  intro n
  induction n with
  | zero => intro l5 t hL; exact lpN_0 hL
  | succ n ih =>
    intro l5 t hL
    obtain ⟨q9, hF, hL⟩ := lpN_e hL
    change st_X11_begins_15 N l1 l2 l3 l4 l5 t = some q9 at hF
    unfold st_X11_begins_15 at hF
    refine r_iload C (k := 5) rfl dX11_begins_15 ?_
    refine r_bipush C (v := 13) rfl dX11_begins_17 ?_
    refine r_icmp_ge C (tgt := 47) rfl dX11_begins_19 (fun hc => ?_) (fun hc => ?_)
    · rw [if_pos hc] at hF
      refine r_aload_n C (k := 0) rfl rfl dX11_begins_47 ?_
      refine og_11_0 C (hW.ok k11) wm7_67 dX11_begins_48 ?_
      refine r_iload_n C (k := 3) rfl rfl dX11_begins_51 ?_
      refine r_bipush C (v := 13) rfl dX11_begins_52 ?_
      refine r_iadd C dX11_begins_54 ?_
      refine r_iload_n C (k := 2) rfl rfl dX11_begins_55 ?_
      obtain ⟨b1, hF⟩ := gd_e hF
      obtain ⟨t2, et2, hF⟩ := lt_e hF
      refine m_ast C hW.x (hW.fr (k12 (a := 0) (by unfold okMa; decide))) (show (sM Ω t).2.1 = t from rfl) rfl b1 dX11_begins_56 (congrArg (sM Ω) et2) ?_
      refine r_aload_n C (k := 0) rfl rfl dX11_begins_57 ?_
      refine og_11_0 C (hW.ok k11) wm7_67 dX11_begins_58 ?_
      refine r_iload_n C (k := 3) rfl rfl dX11_begins_61 ?_
      refine r_bipush C (v := 14) rfl dX11_begins_62 ?_
      refine r_iadd C dX11_begins_64 ?_
      refine r_iconst C (v := 0) rfl dX11_begins_65 ?_
      obtain ⟨b3, hF⟩ := gd_e hF
      obtain ⟨t4, et4, hF⟩ := lt_e hF
      refine m_ast C hW.x (hW.fr (k12 (a := 0) (by unfold okMa; decide))) (show (sM Ω t2).2.1 = t2 from rfl) rfl b3 dX11_begins_66 (congrArg (sM Ω) et4) ?_
      refine r_aload_n C (k := 0) rfl rfl dX11_begins_67 ?_
      refine r_iload_n C (k := 1) rfl rfl dX11_begins_68 ?_
      refine r_iconst C (v := 0) rfl dX11_begins_69 ?_
      obtain ⟨t6, ht6, hF⟩ := ob1_e hF
      refine r_callV C (d' := 1) [.int l1, .int 0] (c_X11_waitsNoMore hW (show (sM Ω t4).2.1 = t4 from rfl) N l1 0 ht6 rfl) myX11_waitsNoMore wm8_37 ⟨_, _, _, _, (hW.ok k11), rfl, rfl, rfl, rfl⟩ rfl (kR rfl) (by decide) (kR rfl) rfl dX11_begins_70 ?_
      cases hF
      change some _ = some _ at hL
      cases hL
      exact r_return C dX11_begins_73
    · rw [if_neg hc] at hF
      refine r_aload_n C (k := 0) rfl rfl dX11_begins_22 ?_
      refine og_11_0 C (hW.ok k11) wm7_67 dX11_begins_23 ?_
      refine r_iload_n C (k := 3) rfl rfl dX11_begins_26 ?_
      refine r_iload C (k := 5) rfl dX11_begins_27 ?_
      refine r_iadd C dX11_begins_29 ?_
      refine r_aload_n C (k := 0) rfl rfl dX11_begins_30 ?_
      refine og_11_0 C (hW.ok k11) wm7_67 dX11_begins_31 ?_
      refine r_iload C (k := 4) rfl dX11_begins_34 ?_
      refine r_iload C (k := 5) rfl dX11_begins_36 ?_
      refine r_iadd C dX11_begins_38 ?_
      obtain ⟨b7, hF⟩ := gd_e hF
      refine m_ald C (hW.ok (k12 (a := 0) (by unfold okMa; decide))) (show (sM Ω t).2.1 = t from rfl) rfl b7 dX11_begins_39 ?_
      obtain ⟨b8, hF⟩ := gd_e hF
      obtain ⟨t9, et9, hF⟩ := lt_e hF
      refine m_ast C hW.x (hW.fr (k12 (a := 0) (by unfold okMa; decide))) (show (sM Ω t).2.1 = t from rfl) rfl b8 dX11_begins_40 (congrArg (sM Ω) et9) ?_
      refine r_iinc C (k := 5) (v := (l5 + 1)) (lo' := [(5, .int (l5 + 1)), (0, .ref (wAd w (11, 12, 0, 0))), (1, .int l1), (2, .int l2), (3, .int l3), (4, .int l4)]) rfl rfl (by decide) rfl dX11_begins_41 ?_
      refine r_goto C (tgt := 15) rfl dX11_begins_44 ?_
      cases hF
      change lpN n _ _ = some _ at hL
      refine r_lo [1, 2, 3, 4, 5, 0] (lo' := [(0, .ref (wAd w (11, 12, 0, 0))), (1, .int l1), (2, .int l2), (3, .int l3), (4, .int l4), (5, .int (l5 + 1))]) rfl ?_
      exact ih (l5 + 1) t9 hL
theorem c_X11_begins {w : WP} (hW : gWM w) {Ω : OM}  {t : HV} (e : Ω.2.1 = t) (N : Nat) (a1 : Int32) (a2 : Int32) {t' : HV} (hF : F_X11_begins N a1 a2 t = some t') {Ω' : OM} (e2 : (sM Ω t') = Ω') : gM w 2 yX11_begins cX11_begins 6 none [.ref (wAd w (11, 12, 0, 0)), .int a1, .int a2] (cA w Ω) none (cA w Ω') := by
  refine gM_of "HedgeMessagesModel" rfl (by decide) (kR rfl) fun X C => ?_
  unfold F_X11_begins at hF
  subst e2
  show gV w X _ _ 0 [(0, .ref (wAd w (11, 12, 0, 0))), (1, .int a1), (2, .int a2)] []
  refine r_ct (ct' := cA w (sM Ω t)) (congrArg (cA w) (sM_i e).symm) ?_
  refine r_iload_n C (k := 1) rfl rfl dX11_begins_0 ?_
  refine r_callS C (d' := 0) [.int a1] (c_X11_progressOf a1 rfl) myX11_progressOf wm7_223 rfl (kR rfl) (by decide) (kR rfl) rfl dX11_begins_1 ?_
  refine r_istore_n C (lo' := [(3, .int (F_X11_progressOf a1)), (0, .ref (wAd w (11, 12, 0, 0))), (1, .int a1), (2, .int a2)]) rfl (by decide) rfl dX11_begins_4 ?_
  refine r_iload_n C (k := 2) rfl rfl dX11_begins_5 ?_
  refine r_iconst C (v := 0) rfl dX11_begins_6 ?_
  refine r_callS C (d' := 0) [.int a1, .int 0] (c_X11_waitingAt a1 0 rfl) myX11_waitingAt wm7_56 rfl (kR rfl) (by decide) (kR rfl) rfl dX11_begins_7 ?_
  refine r_istore C (lo' := [(4, .int (F_X11_waitingAt a1 0)), (3, .int (F_X11_progressOf a1)), (0, .ref (wAd w (11, 12, 0, 0))), (1, .int a1), (2, .int a2)]) (by decide) rfl dX11_begins_10 ?_
  refine r_iconst C (v := 0) rfl dX11_begins_12 ?_
  refine r_istore C (lo' := [(5, .int 0), (4, .int (F_X11_waitingAt a1 0)), (3, .int (F_X11_progressOf a1)), (0, .ref (wAd w (11, 12, 0, 0))), (1, .int a1), (2, .int a2)]) (by decide) rfl dX11_begins_13 ?_
  refine r_lo [3, 4, 5, 2, 1, 0] (lo' := [(0, .ref (wAd w (11, 12, 0, 0))), (1, .int a1), (2, .int a2), (3, .int (F_X11_progressOf a1)), (4, .int (F_X11_waitingAt a1 0)), (5, .int 0)]) rfl ?_
  exact lp_X11_begins_15 hW a1 a2 (F_X11_progressOf a1) (F_X11_waitingAt a1 0) C N 0 t hF
