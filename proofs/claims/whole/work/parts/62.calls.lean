/-! ===== calls: the law's wrappers, printed by wip/whole/wrap.py ===== -/
theorem dL_append_0 : decode cL_append 0 = .ok (.aload 6, 2) := by decide +kernel
theorem dL_append_2 : decode cL_append 2 = .ok (.iconst 0, 1) := by decide +kernel
theorem dL_append_3 : decode cL_append 3 = .ok (.aload_n 0, 1) := by decide +kernel
theorem dL_append_4 : decode cL_append 4 = .ok (.iload_n 1, 1) := by decide +kernel
theorem dL_append_5 : decode cL_append 5 = .ok (.iload_n 2, 1) := by decide +kernel
theorem dL_append_6 : decode cL_append 6 = .ok (.iload_n 3, 1) := by decide +kernel
theorem dL_append_7 : decode cL_append 7 = .ok (.iload 4, 2) := by decide +kernel
theorem dL_append_9 : decode cL_append 9 = .ok (.iload 5, 2) := by decide +kernel
theorem dL_append_11 : decode cL_append 11 = .ok (.invokevirtual 7, 3) := by decide +kernel
theorem dL_append_14 : decode cL_append 14 = .ok (.i2l, 1) := by decide +kernel
theorem dL_append_15 : decode cL_append 15 = .ok (.lastore, 1) := by decide +kernel
theorem dL_append_16 : decode cL_append 16 = .ok (.goto 7, 3) := by decide +kernel
theorem dL_append_19 : decode cL_append 19 = .ok (.astore 7, 2) := by decide +kernel
theorem dL_append_21 : decode cL_append 21 = .ok (.iconst 1, 1) := by decide +kernel
theorem dL_append_22 : decode cL_append 22 = .ok (.ireturn, 1) := by decide +kernel
theorem dL_append_23 : decode cL_append 23 = .ok (.iconst 0, 1) := by decide +kernel
theorem dL_append_24 : decode cL_append 24 = .ok (.ireturn, 1) := by decide +kernel
theorem cwL_append : Cond.codeWith yL_append method_3_code 8 (Option.some Jvm.ClassFile.FieldType.int) [(0, 16, 19, 13)] ∈ lw_tbl := in_t3 (List.mem_of_getElem? (i := 153) rfl)
theorem kL_append {w : WP} (hW : gW w) (hS : gS w) (hO : wFr w (14, 13, 0, 0)) {Ω : OM} {S : Nat → Nat → HV} (e : Ω.1 = S) (a1 : Int32) (a2 : Int32) (a3 : Int32) (a4 : Int32) (a5 : Int32) {v : Int32} {S' : Nat → Nat → HV} (hF : F_X10_append a1 a2 a3 a4 a5 S = some (.inl (v, S'))) : gMh w 7 yL_append cL_append 8 (some .int) [(0, 16, 19, 13)] [.ref (wAd w (7, 11, 6, 0)), .int a1, .int a2, .int a3, .int a4, .int a5, .ref (wAd w (14, 13, 0, 0))] (cA w Ω) (some (.int 0)) (cA w (oAns (S', Ω.2) v.toInt64)) 0 0 := by
  refine gMh_of "HedgeMessagesLaw" rfl (by decide) (kR rfl) fun X C hT9 => ?_
  show gU w X _ _ 0 [(0, .ref (wAd w (7, 11, 6, 0))), (1, .int a1), (2, .int a2), (3, .int a3), (4, .int a4), (5, .int a5), (6, .ref (wAd w (14, 13, 0, 0)))] []
  refine r_aload C (k := 6) rfl dL_append_0 ?_
  refine r_iconst C (v := 0) rfl dL_append_2 ?_
  refine r_aload_n C (k := 0) rfl rfl dL_append_3 ?_
  refine r_iload_n C (k := 1) rfl rfl dL_append_4 ?_
  refine r_iload_n C (k := 2) rfl rfl dL_append_5 ?_
  refine r_iload_n C (k := 3) rfl rfl dL_append_6 ?_
  refine r_iload C (k := 4) rfl dL_append_7 ?_
  refine r_iload C (k := 5) rfl dL_append_9 ?_
  refine r_callV C (d' := 6) [.int a1, .int a2, .int a3, .int a4, .int a5] (c_X10_append hW hS e a1 a2 a3 a4 a5 hF rfl) myX10_append wm3_155 ⟨_, _, _, _, (hW.ok k7), rfl, rfl, rfl, rfl⟩ rfl (kR rfl) (by decide) (kR rfl) rfl dL_append_11 ?_
  refine r_i2l C (v := v.toInt64) rfl dL_append_14 ?_
  refine r_last C hW.x hO dL_append_15 ?_
  refine r_goto C (tgt := 23) rfl dL_append_16 ?_
  refine r_iconst C (v := 0) rfl dL_append_23 ?_
  exact r_hreturn C dL_append_24
theorem xL_append_1 {w : WP} (hW : gW w) (hS : gS w) (hZ : gZ w) {Ω : OM} {S : Nat → Nat → HV} (e : Ω.1 = S) (a1 : Int32) (a2 : Int32) (a3 : Int32) (a4 : Int32) (a5 : Int32) {S' : Nat → Nat → HV} (hF : F_X10_append a1 a2 a3 a4 a5 S = some (.inr (1, S'))) : gMh w 7 yL_append cL_append 8 (some .int) [(0, 16, 19, 13)] [.ref (wAd w (7, 11, 6, 0)), .int a1, .int a2, .int a3, .int a4, .int a5, .ref (wAd w (14, 13, 0, 0))] (cA w Ω) (some (.int 1)) (cA w (S', Ω.2)) 1 6 := by
  refine gMh_of "HedgeMessagesLaw" rfl (by decide) (kR rfl) fun X C hT9 => ?_
  show gU w X _ _ 0 [(0, .ref (wAd w (7, 11, 6, 0))), (1, .int a1), (2, .int a2), (3, .int a3), (4, .int a4), (5, .int a5), (6, .ref (wAd w (14, 13, 0, 0)))] []
  refine r_aload C (k := 6) rfl dL_append_0 ?_
  refine r_iconst C (v := 0) rfl dL_append_2 ?_
  refine r_aload_n C (k := 0) rfl rfl dL_append_3 ?_
  refine r_iload_n C (k := 1) rfl rfl dL_append_4 ?_
  refine r_iload_n C (k := 2) rfl rfl dL_append_5 ?_
  refine r_iload_n C (k := 3) rfl rfl dL_append_6 ?_
  refine r_iload C (k := 4) rfl dL_append_7 ?_
  refine r_iload C (k := 5) rfl dL_append_9 ?_
  refine r_callC C hT9 (d' := 6) (E := xN 1) [.int a1, .int a2, .int a3, .int a4, .int a5] (x_X10_append hW hS hZ e a1 a2 a3 a4 a5 hF rfl) myX10_append wm3_155 ⟨_, _, _, _, (hW.ok k7), rfl, rfl, rfl, rfl⟩ rfl (kR rfl) (by decide) (kR rfl) rfl dL_append_11 [] [] ⟨0, 16, 19, 13⟩ rfl (gXt (fun _ h => nomatch h)) (by decide) (by decide) wm3_154 rfl wm3_161 fun q => ?_
  refine r_astore C (lo' := [(7, .ref q), (0, .ref (wAd w (7, 11, 6, 0))), (1, .int a1), (2, .int a2), (3, .int a3), (4, .int a4), (5, .int a5), (6, .ref (wAd w (14, 13, 0, 0)))]) (by decide) rfl dL_append_19 ?_
  refine r_iconst C (v := 1) rfl dL_append_21 ?_
  exact r_hreturn C dL_append_22
theorem dL_truncate_0 : decode cL_truncate 0 = .ok (.aload_n 2, 1) := by decide +kernel
theorem dL_truncate_1 : decode cL_truncate 1 = .ok (.iconst 0, 1) := by decide +kernel
theorem dL_truncate_2 : decode cL_truncate 2 = .ok (.aload_n 0, 1) := by decide +kernel
theorem dL_truncate_3 : decode cL_truncate 3 = .ok (.iload_n 1, 1) := by decide +kernel
theorem dL_truncate_4 : decode cL_truncate 4 = .ok (.invokevirtual 15, 3) := by decide +kernel
theorem dL_truncate_7 : decode cL_truncate 7 = .ok (.i2l, 1) := by decide +kernel
theorem dL_truncate_8 : decode cL_truncate 8 = .ok (.lastore, 1) := by decide +kernel
theorem dL_truncate_9 : decode cL_truncate 9 = .ok (.goto 6, 3) := by decide +kernel
theorem dL_truncate_12 : decode cL_truncate 12 = .ok (.astore_n 3, 1) := by decide +kernel
theorem dL_truncate_13 : decode cL_truncate 13 = .ok (.iconst 1, 1) := by decide +kernel
theorem dL_truncate_14 : decode cL_truncate 14 = .ok (.ireturn, 1) := by decide +kernel
theorem dL_truncate_15 : decode cL_truncate 15 = .ok (.iconst 0, 1) := by decide +kernel
theorem dL_truncate_16 : decode cL_truncate 16 = .ok (.ireturn, 1) := by decide +kernel
theorem cwL_truncate : Cond.codeWith yL_truncate method_4_code 4 (Option.some Jvm.ClassFile.FieldType.int) [(0, 9, 12, 19)] ∈ lw_tbl := in_t3 (List.mem_of_getElem? (i := 233) rfl)
theorem kL_truncate {w : WP} (hW : gW w) (hS : gS w) (hO : wFr w (14, 13, 0, 0)) {Ω : OM} {S : Nat → Nat → HV} (e : Ω.1 = S) (a1 : Int32) {v : Int32} {S' : Nat → Nat → HV} (hF : F_X10_truncate a1 S = some (.inl (v, S'))) : gMh w 7 yL_truncate cL_truncate 4 (some .int) [(0, 9, 12, 19)] [.ref (wAd w (7, 11, 6, 0)), .int a1, .ref (wAd w (14, 13, 0, 0))] (cA w Ω) (some (.int 0)) (cA w (oAns (S', Ω.2) v.toInt64)) 0 0 := by
  refine gMh_of "HedgeMessagesLaw" rfl (by decide) (kR rfl) fun X C hT9 => ?_
  show gU w X _ _ 0 [(0, .ref (wAd w (7, 11, 6, 0))), (1, .int a1), (2, .ref (wAd w (14, 13, 0, 0)))] []
  refine r_aload_n C (k := 2) rfl rfl dL_truncate_0 ?_
  refine r_iconst C (v := 0) rfl dL_truncate_1 ?_
  refine r_aload_n C (k := 0) rfl rfl dL_truncate_2 ?_
  refine r_iload_n C (k := 1) rfl rfl dL_truncate_3 ?_
  refine r_callV C (d' := 6) [.int a1] (c_X10_truncate hW hS e a1 hF rfl) myX10_truncate wm3_235 ⟨_, _, _, _, (hW.ok k7), rfl, rfl, rfl, rfl⟩ rfl (kR rfl) (by decide) (kR rfl) rfl dL_truncate_4 ?_
  refine r_i2l C (v := v.toInt64) rfl dL_truncate_7 ?_
  refine r_last C hW.x hO dL_truncate_8 ?_
  refine r_goto C (tgt := 15) rfl dL_truncate_9 ?_
  refine r_iconst C (v := 0) rfl dL_truncate_15 ?_
  exact r_hreturn C dL_truncate_16
theorem xL_truncate_2 {w : WP} (hW : gW w) (hS : gS w) (hZ : gZ w) {Ω : OM} {S : Nat → Nat → HV} (e : Ω.1 = S) (a1 : Int32) {S' : Nat → Nat → HV} (hF : F_X10_truncate a1 S = some (.inr (2, S'))) : gMh w 7 yL_truncate cL_truncate 4 (some .int) [(0, 9, 12, 19)] [.ref (wAd w (7, 11, 6, 0)), .int a1, .ref (wAd w (14, 13, 0, 0))] (cA w Ω) (some (.int 1)) (cA w (S', Ω.2)) 1 6 := by
  refine gMh_of "HedgeMessagesLaw" rfl (by decide) (kR rfl) fun X C hT9 => ?_
  show gU w X _ _ 0 [(0, .ref (wAd w (7, 11, 6, 0))), (1, .int a1), (2, .ref (wAd w (14, 13, 0, 0)))] []
  refine r_aload_n C (k := 2) rfl rfl dL_truncate_0 ?_
  refine r_iconst C (v := 0) rfl dL_truncate_1 ?_
  refine r_aload_n C (k := 0) rfl rfl dL_truncate_2 ?_
  refine r_iload_n C (k := 1) rfl rfl dL_truncate_3 ?_
  refine r_callC C hT9 (d' := 6) (E := xN 2) [.int a1] (x_X10_truncate hW hS hZ e a1 hF rfl) myX10_truncate wm3_235 ⟨_, _, _, _, (hW.ok k7), rfl, rfl, rfl, rfl⟩ rfl (kR rfl) (by decide) (kR rfl) rfl dL_truncate_4 [] [] ⟨0, 9, 12, 19⟩ rfl (gXt (fun _ h => nomatch h)) (by decide) (by decide) wm3_234 rfl wm4_1 fun q => ?_
  refine r_astore_n C (lo' := [(3, .ref q), (0, .ref (wAd w (7, 11, 6, 0))), (1, .int a1), (2, .ref (wAd w (14, 13, 0, 0)))]) rfl (by decide) rfl dL_truncate_12 ?_
  refine r_iconst C (v := 1) rfl dL_truncate_13 ?_
  exact r_hreturn C dL_truncate_14
theorem dL_load_0 : decode cL_load 0 = .ok (.aload_n 1, 1) := by decide +kernel
theorem dL_load_1 : decode cL_load 1 = .ok (.iconst 0, 1) := by decide +kernel
theorem dL_load_2 : decode cL_load 2 = .ok (.aload_n 0, 1) := by decide +kernel
theorem dL_load_3 : decode cL_load 3 = .ok (.invokevirtual 21, 3) := by decide +kernel
theorem dL_load_6 : decode cL_load 6 = .ok (.i2l, 1) := by decide +kernel
theorem dL_load_7 : decode cL_load 7 = .ok (.lastore, 1) := by decide +kernel
theorem dL_load_8 : decode cL_load 8 = .ok (.goto 6, 3) := by decide +kernel
theorem dL_load_11 : decode cL_load 11 = .ok (.astore_n 2, 1) := by decide +kernel
theorem dL_load_12 : decode cL_load 12 = .ok (.iconst 1, 1) := by decide +kernel
theorem dL_load_13 : decode cL_load 13 = .ok (.ireturn, 1) := by decide +kernel
theorem dL_load_14 : decode cL_load 14 = .ok (.iconst 0, 1) := by decide +kernel
theorem dL_load_15 : decode cL_load 15 = .ok (.ireturn, 1) := by decide +kernel
theorem cwL_load : Cond.codeWith yL_load method_5_code 3 (Option.some Jvm.ClassFile.FieldType.int) [(0, 8, 11, 19)] ∈ lw_tbl := in_t4 (List.mem_of_getElem? (i := 17) rfl)
theorem kL_load {w : WP} (hW : gW w) (hS : gS w) (hO : wFr w (14, 13, 0, 0)) {Ω : OM} {S : Nat → Nat → HV} (e : Ω.1 = S) (N : Nat)  {v : Int32} {S' : Nat → Nat → HV} (hF : F_X10_load N S = some (.inl (v, S'))) : gMh w 8 yL_load cL_load 3 (some .int) [(0, 8, 11, 19)] [.ref (wAd w (7, 11, 6, 0)), .ref (wAd w (14, 13, 0, 0))] (cA w Ω) (some (.int 0)) (cA w (oAns (S', Ω.2) v.toInt64)) 0 0 := by
  refine gMh_of "HedgeMessagesLaw" rfl (by decide) (kR rfl) fun X C hT9 => ?_
  show gU w X _ _ 0 [(0, .ref (wAd w (7, 11, 6, 0))), (1, .ref (wAd w (14, 13, 0, 0)))] []
  refine r_aload_n C (k := 1) rfl rfl dL_load_0 ?_
  refine r_iconst C (v := 0) rfl dL_load_1 ?_
  refine r_aload_n C (k := 0) rfl rfl dL_load_2 ?_
  refine r_callV C (d' := 7) [] (c_X10_load hW hS e N  hF rfl) myX10_load wm4_18 ⟨_, _, _, _, (hW.ok k7), rfl, rfl, rfl, rfl⟩ rfl (kR rfl) (by decide) (kR rfl) rfl dL_load_3 ?_
  refine r_i2l C (v := v.toInt64) rfl dL_load_6 ?_
  refine r_last C hW.x hO dL_load_7 ?_
  refine r_goto C (tgt := 14) rfl dL_load_8 ?_
  refine r_iconst C (v := 0) rfl dL_load_14 ?_
  exact r_hreturn C dL_load_15
theorem xL_load_2 {w : WP} (hW : gW w) (hS : gS w) (hZ : gZ w) {Ω : OM} {S : Nat → Nat → HV} (e : Ω.1 = S) (N : Nat)  {S' : Nat → Nat → HV} (hF : F_X10_load N S = some (.inr (2, S'))) : gMh w 8 yL_load cL_load 3 (some .int) [(0, 8, 11, 19)] [.ref (wAd w (7, 11, 6, 0)), .ref (wAd w (14, 13, 0, 0))] (cA w Ω) (some (.int 1)) (cA w (S', Ω.2)) 1 6 := by
  refine gMh_of "HedgeMessagesLaw" rfl (by decide) (kR rfl) fun X C hT9 => ?_
  show gU w X _ _ 0 [(0, .ref (wAd w (7, 11, 6, 0))), (1, .ref (wAd w (14, 13, 0, 0)))] []
  refine r_aload_n C (k := 1) rfl rfl dL_load_0 ?_
  refine r_iconst C (v := 0) rfl dL_load_1 ?_
  refine r_aload_n C (k := 0) rfl rfl dL_load_2 ?_
  refine r_callC C hT9 (d' := 7) (E := xN 2) [] (x_X10_load hW hS hZ e N  hF rfl) myX10_load wm4_18 ⟨_, _, _, _, (hW.ok k7), rfl, rfl, rfl, rfl⟩ rfl (kR rfl) (by decide) (kR rfl) rfl dL_load_3 [] [] ⟨0, 8, 11, 19⟩ rfl (gXt (fun _ h => nomatch h)) (by decide) (by decide) wm3_234 rfl wm4_1 fun q => ?_
  refine r_astore_n C (lo' := [(2, .ref q), (0, .ref (wAd w (7, 11, 6, 0))), (1, .ref (wAd w (14, 13, 0, 0)))]) rfl (by decide) rfl dL_load_11 ?_
  refine r_iconst C (v := 1) rfl dL_load_12 ?_
  exact r_hreturn C dL_load_13
theorem dL_executeCommands_0 : decode cL_executeCommands 0 = .ok (.aload_n 1, 1) := by decide +kernel
theorem dL_executeCommands_1 : decode cL_executeCommands 1 = .ok (.iconst 0, 1) := by decide +kernel
theorem dL_executeCommands_2 : decode cL_executeCommands 2 = .ok (.aload_n 0, 1) := by decide +kernel
theorem dL_executeCommands_3 : decode cL_executeCommands 3 = .ok (.invokevirtual 25, 3) := by decide +kernel
theorem dL_executeCommands_6 : decode cL_executeCommands 6 = .ok (.i2l, 1) := by decide +kernel
theorem dL_executeCommands_7 : decode cL_executeCommands 7 = .ok (.lastore, 1) := by decide +kernel
theorem dL_executeCommands_8 : decode cL_executeCommands 8 = .ok (.goto 6, 3) := by decide +kernel
theorem dL_executeCommands_11 : decode cL_executeCommands 11 = .ok (.astore_n 2, 1) := by decide +kernel
theorem dL_executeCommands_12 : decode cL_executeCommands 12 = .ok (.iconst 1, 1) := by decide +kernel
theorem dL_executeCommands_13 : decode cL_executeCommands 13 = .ok (.ireturn, 1) := by decide +kernel
theorem dL_executeCommands_14 : decode cL_executeCommands 14 = .ok (.iconst 0, 1) := by decide +kernel
theorem dL_executeCommands_15 : decode cL_executeCommands 15 = .ok (.ireturn, 1) := by decide +kernel
theorem cwL_executeCommands : Cond.codeWith yL_executeCommands method_6_code 3 (Option.some Jvm.ClassFile.FieldType.int) [(0, 8, 11, 19)] ∈ lw_tbl := in_t4 (List.mem_of_getElem? (i := 109) rfl)
theorem kL_executeCommands {w : WP} (hW : gW w) (hS : gS w) (hO : wFr w (14, 13, 0, 0)) {Ω : OM} {S : Nat → Nat → HV} (e : Ω.1 = S) (N : Nat)  {v : Int32} {S' : Nat → Nat → HV} (hF : F_X10_executeCommands N S = some (.inl (v, S'))) : gMh w 8 yL_executeCommands cL_executeCommands 3 (some .int) [(0, 8, 11, 19)] [.ref (wAd w (7, 11, 6, 0)), .ref (wAd w (14, 13, 0, 0))] (cA w Ω) (some (.int 0)) (cA w (oAns (S', Ω.2) v.toInt64)) 0 0 := by
  refine gMh_of "HedgeMessagesLaw" rfl (by decide) (kR rfl) fun X C hT9 => ?_
  show gU w X _ _ 0 [(0, .ref (wAd w (7, 11, 6, 0))), (1, .ref (wAd w (14, 13, 0, 0)))] []
  refine r_aload_n C (k := 1) rfl rfl dL_executeCommands_0 ?_
  refine r_iconst C (v := 0) rfl dL_executeCommands_1 ?_
  refine r_aload_n C (k := 0) rfl rfl dL_executeCommands_2 ?_
  refine r_callV C (d' := 7) [] (c_X10_executeCommands hW hS e N  hF rfl) myX10_executeCommands wm4_110 ⟨_, _, _, _, (hW.ok k7), rfl, rfl, rfl, rfl⟩ rfl (kR rfl) (by decide) (kR rfl) rfl dL_executeCommands_3 ?_
  refine r_i2l C (v := v.toInt64) rfl dL_executeCommands_6 ?_
  refine r_last C hW.x hO dL_executeCommands_7 ?_
  refine r_goto C (tgt := 14) rfl dL_executeCommands_8 ?_
  refine r_iconst C (v := 0) rfl dL_executeCommands_14 ?_
  exact r_hreturn C dL_executeCommands_15
theorem xL_executeCommands_2 {w : WP} (hW : gW w) (hS : gS w) (hZ : gZ w) {Ω : OM} {S : Nat → Nat → HV} (e : Ω.1 = S) (N : Nat)  {S' : Nat → Nat → HV} (hF : F_X10_executeCommands N S = some (.inr (2, S'))) : gMh w 8 yL_executeCommands cL_executeCommands 3 (some .int) [(0, 8, 11, 19)] [.ref (wAd w (7, 11, 6, 0)), .ref (wAd w (14, 13, 0, 0))] (cA w Ω) (some (.int 1)) (cA w (S', Ω.2)) 1 6 := by
  refine gMh_of "HedgeMessagesLaw" rfl (by decide) (kR rfl) fun X C hT9 => ?_
  show gU w X _ _ 0 [(0, .ref (wAd w (7, 11, 6, 0))), (1, .ref (wAd w (14, 13, 0, 0)))] []
  refine r_aload_n C (k := 1) rfl rfl dL_executeCommands_0 ?_
  refine r_iconst C (v := 0) rfl dL_executeCommands_1 ?_
  refine r_aload_n C (k := 0) rfl rfl dL_executeCommands_2 ?_
  refine r_callC C hT9 (d' := 7) (E := xN 2) [] (x_X10_executeCommands hW hS hZ e N  hF rfl) myX10_executeCommands wm4_110 ⟨_, _, _, _, (hW.ok k7), rfl, rfl, rfl, rfl⟩ rfl (kR rfl) (by decide) (kR rfl) rfl dL_executeCommands_3 [] [] ⟨0, 8, 11, 19⟩ rfl (gXt (fun _ h => nomatch h)) (by decide) (by decide) wm3_234 rfl wm4_1 fun q => ?_
  refine r_astore_n C (lo' := [(2, .ref q), (0, .ref (wAd w (7, 11, 6, 0))), (1, .ref (wAd w (14, 13, 0, 0)))]) rfl (by decide) rfl dL_executeCommands_11 ?_
  refine r_iconst C (v := 1) rfl dL_executeCommands_12 ?_
  exact r_hreturn C dL_executeCommands_13
theorem dL_letterAt_0 : decode cL_letterAt 0 = .ok (.aload_n 2, 1) := by decide +kernel
theorem dL_letterAt_1 : decode cL_letterAt 1 = .ok (.iconst 0, 1) := by decide +kernel
theorem dL_letterAt_2 : decode cL_letterAt 2 = .ok (.aload_n 0, 1) := by decide +kernel
theorem dL_letterAt_3 : decode cL_letterAt 3 = .ok (.iload_n 1, 1) := by decide +kernel
theorem dL_letterAt_4 : decode cL_letterAt 4 = .ok (.invokevirtual 28, 3) := by decide +kernel
theorem dL_letterAt_7 : decode cL_letterAt 7 = .ok (.i2l, 1) := by decide +kernel
theorem dL_letterAt_8 : decode cL_letterAt 8 = .ok (.lastore, 1) := by decide +kernel
theorem dL_letterAt_9 : decode cL_letterAt 9 = .ok (.goto 6, 3) := by decide +kernel
theorem dL_letterAt_12 : decode cL_letterAt 12 = .ok (.astore_n 3, 1) := by decide +kernel
theorem dL_letterAt_13 : decode cL_letterAt 13 = .ok (.iconst 1, 1) := by decide +kernel
theorem dL_letterAt_14 : decode cL_letterAt 14 = .ok (.ireturn, 1) := by decide +kernel
theorem dL_letterAt_15 : decode cL_letterAt 15 = .ok (.iconst 0, 1) := by decide +kernel
theorem dL_letterAt_16 : decode cL_letterAt 16 = .ok (.ireturn, 1) := by decide +kernel
theorem cwL_letterAt : Cond.codeWith yL_letterAt method_7_code 4 (Option.some Jvm.ClassFile.FieldType.int) [(0, 9, 12, 31)] ∈ lw_tbl := in_t5 (List.mem_of_getElem? (i := 79) rfl)
theorem kL_letterAt {w : WP} (hW : gW w) (hS : gS w) (hO : wFr w (14, 13, 0, 0)) {Ω : OM} {S : Nat → Nat → HV} (e : Ω.1 = S) (a1 : Int32) {v : Int32} (hF : F_X10_letterAt a1 S = some (.inl v)) : gMh w 8 yL_letterAt cL_letterAt 4 (some .int) [(0, 9, 12, 31)] [.ref (wAd w (7, 11, 6, 0)), .int a1, .ref (wAd w (14, 13, 0, 0))] (cA w Ω) (some (.int 0)) (cA w (oAns Ω v.toInt64)) 0 0 := by
  refine gMh_of "HedgeMessagesLaw" rfl (by decide) (kR rfl) fun X C hT9 => ?_
  show gU w X _ _ 0 [(0, .ref (wAd w (7, 11, 6, 0))), (1, .int a1), (2, .ref (wAd w (14, 13, 0, 0)))] []
  refine r_aload_n C (k := 2) rfl rfl dL_letterAt_0 ?_
  refine r_iconst C (v := 0) rfl dL_letterAt_1 ?_
  refine r_aload_n C (k := 0) rfl rfl dL_letterAt_2 ?_
  refine r_iload_n C (k := 1) rfl rfl dL_letterAt_3 ?_
  refine r_callV C (d' := 7) [.int a1] (c_X10_letterAt hW hS e a1 hF) myX10_letterAt wm5_81 ⟨_, _, _, _, (hW.ok k7), rfl, rfl, rfl, rfl⟩ rfl (kR rfl) (by decide) (kR rfl) rfl dL_letterAt_4 ?_
  refine r_i2l C (v := v.toInt64) rfl dL_letterAt_7 ?_
  refine r_last C hW.x hO dL_letterAt_8 ?_
  refine r_goto C (tgt := 15) rfl dL_letterAt_9 ?_
  refine r_iconst C (v := 0) rfl dL_letterAt_15 ?_
  exact r_hreturn C dL_letterAt_16
theorem xL_letterAt_3 {w : WP} (hW : gW w) (hS : gS w) (hZ : gZ w) {Ω : OM} {S : Nat → Nat → HV} (e : Ω.1 = S) (a1 : Int32) (hF : F_X10_letterAt a1 S = some (.inr 3)) : gMh w 8 yL_letterAt cL_letterAt 4 (some .int) [(0, 9, 12, 31)] [.ref (wAd w (7, 11, 6, 0)), .int a1, .ref (wAd w (14, 13, 0, 0))] (cA w Ω) (some (.int 1)) (cA w Ω) 1 6 := by
  refine gMh_of "HedgeMessagesLaw" rfl (by decide) (kR rfl) fun X C hT9 => ?_
  show gU w X _ _ 0 [(0, .ref (wAd w (7, 11, 6, 0))), (1, .int a1), (2, .ref (wAd w (14, 13, 0, 0)))] []
  refine r_aload_n C (k := 2) rfl rfl dL_letterAt_0 ?_
  refine r_iconst C (v := 0) rfl dL_letterAt_1 ?_
  refine r_aload_n C (k := 0) rfl rfl dL_letterAt_2 ?_
  refine r_iload_n C (k := 1) rfl rfl dL_letterAt_3 ?_
  refine r_callC C hT9 (d' := 7) (E := xN 3) [.int a1] (x_X10_letterAt hW hS hZ e a1 hF) myX10_letterAt wm5_81 ⟨_, _, _, _, (hW.ok k7), rfl, rfl, rfl, rfl⟩ rfl (kR rfl) (by decide) (kR rfl) rfl dL_letterAt_4 [] [] ⟨0, 9, 12, 31⟩ rfl (gXt (fun _ h => nomatch h)) (by decide) (by decide) wm5_80 rfl wm5_91 fun q => ?_
  refine r_astore_n C (lo' := [(3, .ref q), (0, .ref (wAd w (7, 11, 6, 0))), (1, .int a1), (2, .ref (wAd w (14, 13, 0, 0)))]) rfl (by decide) rfl dL_letterAt_12 ?_
  refine r_iconst C (v := 1) rfl dL_letterAt_13 ?_
  exact r_hreturn C dL_letterAt_14
theorem dL_ownerAt_0 : decode cL_ownerAt 0 = .ok (.aload_n 2, 1) := by decide +kernel
theorem dL_ownerAt_1 : decode cL_ownerAt 1 = .ok (.iconst 0, 1) := by decide +kernel
theorem dL_ownerAt_2 : decode cL_ownerAt 2 = .ok (.aload_n 0, 1) := by decide +kernel
theorem dL_ownerAt_3 : decode cL_ownerAt 3 = .ok (.iload_n 1, 1) := by decide +kernel
theorem dL_ownerAt_4 : decode cL_ownerAt 4 = .ok (.invokevirtual 33, 3) := by decide +kernel
theorem dL_ownerAt_7 : decode cL_ownerAt 7 = .ok (.i2l, 1) := by decide +kernel
theorem dL_ownerAt_8 : decode cL_ownerAt 8 = .ok (.lastore, 1) := by decide +kernel
theorem dL_ownerAt_9 : decode cL_ownerAt 9 = .ok (.goto 6, 3) := by decide +kernel
theorem dL_ownerAt_12 : decode cL_ownerAt 12 = .ok (.astore_n 3, 1) := by decide +kernel
theorem dL_ownerAt_13 : decode cL_ownerAt 13 = .ok (.iconst 1, 1) := by decide +kernel
theorem dL_ownerAt_14 : decode cL_ownerAt 14 = .ok (.ireturn, 1) := by decide +kernel
theorem dL_ownerAt_15 : decode cL_ownerAt 15 = .ok (.iconst 0, 1) := by decide +kernel
theorem dL_ownerAt_16 : decode cL_ownerAt 16 = .ok (.ireturn, 1) := by decide +kernel
theorem cwL_ownerAt : Cond.codeWith yL_ownerAt method_8_code 4 (Option.some Jvm.ClassFile.FieldType.int) [(0, 9, 12, 31)] ∈ lw_tbl := in_t5 (List.mem_of_getElem? (i := 108) rfl)
theorem kL_ownerAt {w : WP} (hW : gW w) (hS : gS w) (hO : wFr w (14, 13, 0, 0)) {Ω : OM} {S : Nat → Nat → HV} (e : Ω.1 = S) (a1 : Int32) {v : Int32} (hF : F_X10_ownerAt a1 S = some (.inl v)) : gMh w 8 yL_ownerAt cL_ownerAt 4 (some .int) [(0, 9, 12, 31)] [.ref (wAd w (7, 11, 6, 0)), .int a1, .ref (wAd w (14, 13, 0, 0))] (cA w Ω) (some (.int 0)) (cA w (oAns Ω v.toInt64)) 0 0 := by
  refine gMh_of "HedgeMessagesLaw" rfl (by decide) (kR rfl) fun X C hT9 => ?_
  show gU w X _ _ 0 [(0, .ref (wAd w (7, 11, 6, 0))), (1, .int a1), (2, .ref (wAd w (14, 13, 0, 0)))] []
  refine r_aload_n C (k := 2) rfl rfl dL_ownerAt_0 ?_
  refine r_iconst C (v := 0) rfl dL_ownerAt_1 ?_
  refine r_aload_n C (k := 0) rfl rfl dL_ownerAt_2 ?_
  refine r_iload_n C (k := 1) rfl rfl dL_ownerAt_3 ?_
  refine r_callV C (d' := 7) [.int a1] (c_X10_ownerAt hW hS e a1 hF) myX10_ownerAt wm5_109 ⟨_, _, _, _, (hW.ok k7), rfl, rfl, rfl, rfl⟩ rfl (kR rfl) (by decide) (kR rfl) rfl dL_ownerAt_4 ?_
  refine r_i2l C (v := v.toInt64) rfl dL_ownerAt_7 ?_
  refine r_last C hW.x hO dL_ownerAt_8 ?_
  refine r_goto C (tgt := 15) rfl dL_ownerAt_9 ?_
  refine r_iconst C (v := 0) rfl dL_ownerAt_15 ?_
  exact r_hreturn C dL_ownerAt_16
theorem xL_ownerAt_3 {w : WP} (hW : gW w) (hS : gS w) (hZ : gZ w) {Ω : OM} {S : Nat → Nat → HV} (e : Ω.1 = S) (a1 : Int32) (hF : F_X10_ownerAt a1 S = some (.inr 3)) : gMh w 8 yL_ownerAt cL_ownerAt 4 (some .int) [(0, 9, 12, 31)] [.ref (wAd w (7, 11, 6, 0)), .int a1, .ref (wAd w (14, 13, 0, 0))] (cA w Ω) (some (.int 1)) (cA w Ω) 1 6 := by
  refine gMh_of "HedgeMessagesLaw" rfl (by decide) (kR rfl) fun X C hT9 => ?_
  show gU w X _ _ 0 [(0, .ref (wAd w (7, 11, 6, 0))), (1, .int a1), (2, .ref (wAd w (14, 13, 0, 0)))] []
  refine r_aload_n C (k := 2) rfl rfl dL_ownerAt_0 ?_
  refine r_iconst C (v := 0) rfl dL_ownerAt_1 ?_
  refine r_aload_n C (k := 0) rfl rfl dL_ownerAt_2 ?_
  refine r_iload_n C (k := 1) rfl rfl dL_ownerAt_3 ?_
  refine r_callC C hT9 (d' := 7) (E := xN 3) [.int a1] (x_X10_ownerAt hW hS hZ e a1 hF) myX10_ownerAt wm5_109 ⟨_, _, _, _, (hW.ok k7), rfl, rfl, rfl, rfl⟩ rfl (kR rfl) (by decide) (kR rfl) rfl dL_ownerAt_4 [] [] ⟨0, 9, 12, 31⟩ rfl (gXt (fun _ h => nomatch h)) (by decide) (by decide) wm5_80 rfl wm5_91 fun q => ?_
  refine r_astore_n C (lo' := [(3, .ref q), (0, .ref (wAd w (7, 11, 6, 0))), (1, .int a1), (2, .ref (wAd w (14, 13, 0, 0)))]) rfl (by decide) rfl dL_ownerAt_12 ?_
  refine r_iconst C (v := 1) rfl dL_ownerAt_13 ?_
  exact r_hreturn C dL_ownerAt_14
theorem dL_lengthAt_0 : decode cL_lengthAt 0 = .ok (.aload_n 2, 1) := by decide +kernel
theorem dL_lengthAt_1 : decode cL_lengthAt 1 = .ok (.iconst 0, 1) := by decide +kernel
theorem dL_lengthAt_2 : decode cL_lengthAt 2 = .ok (.aload_n 0, 1) := by decide +kernel
theorem dL_lengthAt_3 : decode cL_lengthAt 3 = .ok (.iload_n 1, 1) := by decide +kernel
theorem dL_lengthAt_4 : decode cL_lengthAt 4 = .ok (.invokevirtual 36, 3) := by decide +kernel
theorem dL_lengthAt_7 : decode cL_lengthAt 7 = .ok (.i2l, 1) := by decide +kernel
theorem dL_lengthAt_8 : decode cL_lengthAt 8 = .ok (.lastore, 1) := by decide +kernel
theorem dL_lengthAt_9 : decode cL_lengthAt 9 = .ok (.goto 6, 3) := by decide +kernel
theorem dL_lengthAt_12 : decode cL_lengthAt 12 = .ok (.astore_n 3, 1) := by decide +kernel
theorem dL_lengthAt_13 : decode cL_lengthAt 13 = .ok (.iconst 1, 1) := by decide +kernel
theorem dL_lengthAt_14 : decode cL_lengthAt 14 = .ok (.ireturn, 1) := by decide +kernel
theorem dL_lengthAt_15 : decode cL_lengthAt 15 = .ok (.iconst 0, 1) := by decide +kernel
theorem dL_lengthAt_16 : decode cL_lengthAt 16 = .ok (.ireturn, 1) := by decide +kernel
theorem cwL_lengthAt : Cond.codeWith yL_lengthAt method_9_code 4 (Option.some Jvm.ClassFile.FieldType.int) [(0, 9, 12, 31)] ∈ lw_tbl := in_t5 (List.mem_of_getElem? (i := 115) rfl)
theorem kL_lengthAt {w : WP} (hW : gW w) (hS : gS w) (hO : wFr w (14, 13, 0, 0)) {Ω : OM} {S : Nat → Nat → HV} (e : Ω.1 = S) (a1 : Int32) {v : Int32} (hF : F_X10_lengthAt a1 S = some (.inl v)) : gMh w 8 yL_lengthAt cL_lengthAt 4 (some .int) [(0, 9, 12, 31)] [.ref (wAd w (7, 11, 6, 0)), .int a1, .ref (wAd w (14, 13, 0, 0))] (cA w Ω) (some (.int 0)) (cA w (oAns Ω v.toInt64)) 0 0 := by
  refine gMh_of "HedgeMessagesLaw" rfl (by decide) (kR rfl) fun X C hT9 => ?_
  show gU w X _ _ 0 [(0, .ref (wAd w (7, 11, 6, 0))), (1, .int a1), (2, .ref (wAd w (14, 13, 0, 0)))] []
  refine r_aload_n C (k := 2) rfl rfl dL_lengthAt_0 ?_
  refine r_iconst C (v := 0) rfl dL_lengthAt_1 ?_
  refine r_aload_n C (k := 0) rfl rfl dL_lengthAt_2 ?_
  refine r_iload_n C (k := 1) rfl rfl dL_lengthAt_3 ?_
  refine r_callV C (d' := 7) [.int a1] (c_X10_lengthAt hW hS e a1 hF) myX10_lengthAt wm5_116 ⟨_, _, _, _, (hW.ok k7), rfl, rfl, rfl, rfl⟩ rfl (kR rfl) (by decide) (kR rfl) rfl dL_lengthAt_4 ?_
  refine r_i2l C (v := v.toInt64) rfl dL_lengthAt_7 ?_
  refine r_last C hW.x hO dL_lengthAt_8 ?_
  refine r_goto C (tgt := 15) rfl dL_lengthAt_9 ?_
  refine r_iconst C (v := 0) rfl dL_lengthAt_15 ?_
  exact r_hreturn C dL_lengthAt_16
theorem xL_lengthAt_3 {w : WP} (hW : gW w) (hS : gS w) (hZ : gZ w) {Ω : OM} {S : Nat → Nat → HV} (e : Ω.1 = S) (a1 : Int32) (hF : F_X10_lengthAt a1 S = some (.inr 3)) : gMh w 8 yL_lengthAt cL_lengthAt 4 (some .int) [(0, 9, 12, 31)] [.ref (wAd w (7, 11, 6, 0)), .int a1, .ref (wAd w (14, 13, 0, 0))] (cA w Ω) (some (.int 1)) (cA w Ω) 1 6 := by
  refine gMh_of "HedgeMessagesLaw" rfl (by decide) (kR rfl) fun X C hT9 => ?_
  show gU w X _ _ 0 [(0, .ref (wAd w (7, 11, 6, 0))), (1, .int a1), (2, .ref (wAd w (14, 13, 0, 0)))] []
  refine r_aload_n C (k := 2) rfl rfl dL_lengthAt_0 ?_
  refine r_iconst C (v := 0) rfl dL_lengthAt_1 ?_
  refine r_aload_n C (k := 0) rfl rfl dL_lengthAt_2 ?_
  refine r_iload_n C (k := 1) rfl rfl dL_lengthAt_3 ?_
  refine r_callC C hT9 (d' := 7) (E := xN 3) [.int a1] (x_X10_lengthAt hW hS hZ e a1 hF) myX10_lengthAt wm5_116 ⟨_, _, _, _, (hW.ok k7), rfl, rfl, rfl, rfl⟩ rfl (kR rfl) (by decide) (kR rfl) rfl dL_lengthAt_4 [] [] ⟨0, 9, 12, 31⟩ rfl (gXt (fun _ h => nomatch h)) (by decide) (by decide) wm5_80 rfl wm5_91 fun q => ?_
  refine r_astore_n C (lo' := [(3, .ref q), (0, .ref (wAd w (7, 11, 6, 0))), (1, .int a1), (2, .ref (wAd w (14, 13, 0, 0)))]) rfl (by decide) rfl dL_lengthAt_12 ?_
  refine r_iconst C (v := 1) rfl dL_lengthAt_13 ?_
  exact r_hreturn C dL_lengthAt_14
theorem dL_isReserved_0 : decode cL_isReserved 0 = .ok (.aload_n 2, 1) := by decide +kernel
theorem dL_isReserved_1 : decode cL_isReserved 1 = .ok (.iconst 0, 1) := by decide +kernel
theorem dL_isReserved_2 : decode cL_isReserved 2 = .ok (.aload_n 0, 1) := by decide +kernel
theorem dL_isReserved_3 : decode cL_isReserved 3 = .ok (.iload_n 1, 1) := by decide +kernel
theorem dL_isReserved_4 : decode cL_isReserved 4 = .ok (.invokevirtual 39, 3) := by decide +kernel
theorem dL_isReserved_7 : decode cL_isReserved 7 = .ok (.ifCond .eq 7, 3) := by decide +kernel
theorem dL_isReserved_10 : decode cL_isReserved 10 = .ok (.lconst 1, 1) := by decide +kernel
theorem dL_isReserved_11 : decode cL_isReserved 11 = .ok (.goto 4, 3) := by decide +kernel
theorem dL_isReserved_14 : decode cL_isReserved 14 = .ok (.lconst 0, 1) := by decide +kernel
theorem dL_isReserved_15 : decode cL_isReserved 15 = .ok (.lastore, 1) := by decide +kernel
theorem dL_isReserved_16 : decode cL_isReserved 16 = .ok (.goto 6, 3) := by decide +kernel
theorem dL_isReserved_19 : decode cL_isReserved 19 = .ok (.astore_n 3, 1) := by decide +kernel
theorem dL_isReserved_20 : decode cL_isReserved 20 = .ok (.iconst 1, 1) := by decide +kernel
theorem dL_isReserved_21 : decode cL_isReserved 21 = .ok (.ireturn, 1) := by decide +kernel
theorem dL_isReserved_22 : decode cL_isReserved 22 = .ok (.iconst 0, 1) := by decide +kernel
theorem dL_isReserved_23 : decode cL_isReserved 23 = .ok (.ireturn, 1) := by decide +kernel
theorem cwL_isReserved : Cond.codeWith yL_isReserved method_10_code 4 (Option.some Jvm.ClassFile.FieldType.int) [(0, 16, 19, 31)] ∈ lw_tbl := in_t5 (List.mem_of_getElem? (i := 122) rfl)
theorem kL_isReserved {w : WP} (hW : gW w) (hS : gS w) (hO : wFr w (14, 13, 0, 0)) {Ω : OM} {S : Nat → Nat → HV} (e : Ω.1 = S) (a1 : Int32) {v : Bool} (hF : F_X10_isReserved a1 S = some (.inl v)) : gMh w 8 yL_isReserved cL_isReserved 4 (some .int) [(0, 16, 19, 31)] [.ref (wAd w (7, 11, 6, 0)), .int a1, .ref (wAd w (14, 13, 0, 0))] (cA w Ω) (some (.int 0)) (cA w (oAns Ω (if v = true then 1 else 0))) 0 0 := by
  refine gMh_of "HedgeMessagesLaw" rfl (by decide) (kR rfl) fun X C hT9 => ?_
  show gU w X _ _ 0 [(0, .ref (wAd w (7, 11, 6, 0))), (1, .int a1), (2, .ref (wAd w (14, 13, 0, 0)))] []
  refine r_aload_n C (k := 2) rfl rfl dL_isReserved_0 ?_
  refine r_iconst C (v := 0) rfl dL_isReserved_1 ?_
  refine r_aload_n C (k := 0) rfl rfl dL_isReserved_2 ?_
  refine r_iload_n C (k := 1) rfl rfl dL_isReserved_3 ?_
  refine r_callV C (d' := 7) [.int a1] (c_X10_isReserved hW hS e a1 hF) myX10_isReserved wm5_123 ⟨_, _, _, _, (hW.ok k7), rfl, rfl, rfl, rfl⟩ rfl (kR rfl) (by decide) (kR rfl) rfl dL_isReserved_4 ?_
  refine r_if_eq C (tgt := 14) rfl dL_isReserved_7 (fun hc => ?_) (fun hc => ?_)
  · rw [if_neg (b2i_f hc)]
    refine r_lconst C (v := 0) rfl dL_isReserved_14 ?_
    refine r_last C hW.x hO dL_isReserved_15 ?_
    refine r_goto C (tgt := 22) rfl dL_isReserved_16 ?_
    refine r_iconst C (v := 0) rfl dL_isReserved_22 ?_
    exact r_hreturn C dL_isReserved_23
  · rw [if_pos (b2i_t hc)]
    refine r_lconst C (v := 1) rfl dL_isReserved_10 ?_
    refine r_goto C (tgt := 15) rfl dL_isReserved_11 ?_
    refine r_last C hW.x hO dL_isReserved_15 ?_
    refine r_goto C (tgt := 22) rfl dL_isReserved_16 ?_
    refine r_iconst C (v := 0) rfl dL_isReserved_22 ?_
    exact r_hreturn C dL_isReserved_23
theorem xL_isReserved_3 {w : WP} (hW : gW w) (hS : gS w) (hZ : gZ w) {Ω : OM} {S : Nat → Nat → HV} (e : Ω.1 = S) (a1 : Int32) (hF : F_X10_isReserved a1 S = some (.inr 3)) : gMh w 8 yL_isReserved cL_isReserved 4 (some .int) [(0, 16, 19, 31)] [.ref (wAd w (7, 11, 6, 0)), .int a1, .ref (wAd w (14, 13, 0, 0))] (cA w Ω) (some (.int 1)) (cA w Ω) 1 6 := by
  refine gMh_of "HedgeMessagesLaw" rfl (by decide) (kR rfl) fun X C hT9 => ?_
  show gU w X _ _ 0 [(0, .ref (wAd w (7, 11, 6, 0))), (1, .int a1), (2, .ref (wAd w (14, 13, 0, 0)))] []
  refine r_aload_n C (k := 2) rfl rfl dL_isReserved_0 ?_
  refine r_iconst C (v := 0) rfl dL_isReserved_1 ?_
  refine r_aload_n C (k := 0) rfl rfl dL_isReserved_2 ?_
  refine r_iload_n C (k := 1) rfl rfl dL_isReserved_3 ?_
  refine r_callC C hT9 (d' := 7) (E := xN 3) [.int a1] (x_X10_isReserved hW hS hZ e a1 hF) myX10_isReserved wm5_123 ⟨_, _, _, _, (hW.ok k7), rfl, rfl, rfl, rfl⟩ rfl (kR rfl) (by decide) (kR rfl) rfl dL_isReserved_4 [] [] ⟨0, 16, 19, 31⟩ rfl (gXt (fun _ h => nomatch h)) (by decide) (by decide) wm5_80 rfl wm5_91 fun q => ?_
  refine r_astore_n C (lo' := [(3, .ref q), (0, .ref (wAd w (7, 11, 6, 0))), (1, .int a1), (2, .ref (wAd w (14, 13, 0, 0)))]) rfl (by decide) rfl dL_isReserved_19 ?_
  refine r_iconst C (v := 1) rfl dL_isReserved_20 ?_
  exact r_hreturn C dL_isReserved_21
theorem dL_nestDays_0 : decode cL_nestDays 0 = .ok (.aload_n 2, 1) := by decide +kernel
theorem dL_nestDays_1 : decode cL_nestDays 1 = .ok (.iconst 0, 1) := by decide +kernel
theorem dL_nestDays_2 : decode cL_nestDays 2 = .ok (.aload_n 0, 1) := by decide +kernel
theorem dL_nestDays_3 : decode cL_nestDays 3 = .ok (.iload_n 1, 1) := by decide +kernel
theorem dL_nestDays_4 : decode cL_nestDays 4 = .ok (.invokevirtual 43, 3) := by decide +kernel
theorem dL_nestDays_7 : decode cL_nestDays 7 = .ok (.i2l, 1) := by decide +kernel
theorem dL_nestDays_8 : decode cL_nestDays 8 = .ok (.lastore, 1) := by decide +kernel
theorem dL_nestDays_9 : decode cL_nestDays 9 = .ok (.goto 6, 3) := by decide +kernel
theorem dL_nestDays_12 : decode cL_nestDays 12 = .ok (.astore_n 3, 1) := by decide +kernel
theorem dL_nestDays_13 : decode cL_nestDays 13 = .ok (.iconst 1, 1) := by decide +kernel
theorem dL_nestDays_14 : decode cL_nestDays 14 = .ok (.ireturn, 1) := by decide +kernel
theorem dL_nestDays_15 : decode cL_nestDays 15 = .ok (.iconst 0, 1) := by decide +kernel
theorem dL_nestDays_16 : decode cL_nestDays 16 = .ok (.ireturn, 1) := by decide +kernel
theorem cwL_nestDays : Cond.codeWith yL_nestDays method_11_code 4 (Option.some Jvm.ClassFile.FieldType.int) [(0, 9, 12, 31)] ∈ lw_tbl := in_t5 (List.mem_of_getElem? (i := 130) rfl)
theorem kL_nestDays {w : WP} (hW : gW w) (hS : gS w) (hO : wFr w (14, 13, 0, 0)) {Ω : OM} {S : Nat → Nat → HV} (e : Ω.1 = S) (a1 : Int32) {v : Int32} (hF : F_X10_nestDays a1 S = some (.inl v)) : gMh w 8 yL_nestDays cL_nestDays 4 (some .int) [(0, 9, 12, 31)] [.ref (wAd w (7, 11, 6, 0)), .int a1, .ref (wAd w (14, 13, 0, 0))] (cA w Ω) (some (.int 0)) (cA w (oAns Ω v.toInt64)) 0 0 := by
  refine gMh_of "HedgeMessagesLaw" rfl (by decide) (kR rfl) fun X C hT9 => ?_
  show gU w X _ _ 0 [(0, .ref (wAd w (7, 11, 6, 0))), (1, .int a1), (2, .ref (wAd w (14, 13, 0, 0)))] []
  refine r_aload_n C (k := 2) rfl rfl dL_nestDays_0 ?_
  refine r_iconst C (v := 0) rfl dL_nestDays_1 ?_
  refine r_aload_n C (k := 0) rfl rfl dL_nestDays_2 ?_
  refine r_iload_n C (k := 1) rfl rfl dL_nestDays_3 ?_
  refine r_callV C (d' := 7) [.int a1] (c_X10_nestDays hW hS e a1 hF) myX10_nestDays wm5_131 ⟨_, _, _, _, (hW.ok k7), rfl, rfl, rfl, rfl⟩ rfl (kR rfl) (by decide) (kR rfl) rfl dL_nestDays_4 ?_
  refine r_i2l C (v := v.toInt64) rfl dL_nestDays_7 ?_
  refine r_last C hW.x hO dL_nestDays_8 ?_
  refine r_goto C (tgt := 15) rfl dL_nestDays_9 ?_
  refine r_iconst C (v := 0) rfl dL_nestDays_15 ?_
  exact r_hreturn C dL_nestDays_16
theorem xL_nestDays_3 {w : WP} (hW : gW w) (hS : gS w) (hZ : gZ w) {Ω : OM} {S : Nat → Nat → HV} (e : Ω.1 = S) (a1 : Int32) (hF : F_X10_nestDays a1 S = some (.inr 3)) : gMh w 8 yL_nestDays cL_nestDays 4 (some .int) [(0, 9, 12, 31)] [.ref (wAd w (7, 11, 6, 0)), .int a1, .ref (wAd w (14, 13, 0, 0))] (cA w Ω) (some (.int 1)) (cA w Ω) 1 6 := by
  refine gMh_of "HedgeMessagesLaw" rfl (by decide) (kR rfl) fun X C hT9 => ?_
  show gU w X _ _ 0 [(0, .ref (wAd w (7, 11, 6, 0))), (1, .int a1), (2, .ref (wAd w (14, 13, 0, 0)))] []
  refine r_aload_n C (k := 2) rfl rfl dL_nestDays_0 ?_
  refine r_iconst C (v := 0) rfl dL_nestDays_1 ?_
  refine r_aload_n C (k := 0) rfl rfl dL_nestDays_2 ?_
  refine r_iload_n C (k := 1) rfl rfl dL_nestDays_3 ?_
  refine r_callC C hT9 (d' := 7) (E := xN 3) [.int a1] (x_X10_nestDays hW hS hZ e a1 hF) myX10_nestDays wm5_131 ⟨_, _, _, _, (hW.ok k7), rfl, rfl, rfl, rfl⟩ rfl (kR rfl) (by decide) (kR rfl) rfl dL_nestDays_4 [] [] ⟨0, 9, 12, 31⟩ rfl (gXt (fun _ h => nomatch h)) (by decide) (by decide) wm5_80 rfl wm5_91 fun q => ?_
  refine r_astore_n C (lo' := [(3, .ref q), (0, .ref (wAd w (7, 11, 6, 0))), (1, .int a1), (2, .ref (wAd w (14, 13, 0, 0)))]) rfl (by decide) rfl dL_nestDays_12 ?_
  refine r_iconst C (v := 1) rfl dL_nestDays_13 ?_
  exact r_hreturn C dL_nestDays_14
theorem dL_isProtected_0 : decode cL_isProtected 0 = .ok (.aload_n 2, 1) := by decide +kernel
theorem dL_isProtected_1 : decode cL_isProtected 1 = .ok (.iconst 0, 1) := by decide +kernel
theorem dL_isProtected_2 : decode cL_isProtected 2 = .ok (.aload_n 0, 1) := by decide +kernel
theorem dL_isProtected_3 : decode cL_isProtected 3 = .ok (.iload_n 1, 1) := by decide +kernel
theorem dL_isProtected_4 : decode cL_isProtected 4 = .ok (.invokevirtual 46, 3) := by decide +kernel
theorem dL_isProtected_7 : decode cL_isProtected 7 = .ok (.ifCond .eq 7, 3) := by decide +kernel
theorem dL_isProtected_10 : decode cL_isProtected 10 = .ok (.lconst 1, 1) := by decide +kernel
theorem dL_isProtected_11 : decode cL_isProtected 11 = .ok (.goto 4, 3) := by decide +kernel
theorem dL_isProtected_14 : decode cL_isProtected 14 = .ok (.lconst 0, 1) := by decide +kernel
theorem dL_isProtected_15 : decode cL_isProtected 15 = .ok (.lastore, 1) := by decide +kernel
theorem dL_isProtected_16 : decode cL_isProtected 16 = .ok (.goto 6, 3) := by decide +kernel
theorem dL_isProtected_19 : decode cL_isProtected 19 = .ok (.astore_n 3, 1) := by decide +kernel
theorem dL_isProtected_20 : decode cL_isProtected 20 = .ok (.iconst 1, 1) := by decide +kernel
theorem dL_isProtected_21 : decode cL_isProtected 21 = .ok (.ireturn, 1) := by decide +kernel
theorem dL_isProtected_22 : decode cL_isProtected 22 = .ok (.iconst 0, 1) := by decide +kernel
theorem dL_isProtected_23 : decode cL_isProtected 23 = .ok (.ireturn, 1) := by decide +kernel
theorem cwL_isProtected : Cond.codeWith yL_isProtected method_12_code 4 (Option.some Jvm.ClassFile.FieldType.int) [(0, 16, 19, 31)] ∈ lw_tbl := in_t5 (List.mem_of_getElem? (i := 137) rfl)
theorem kL_isProtected {w : WP} (hW : gW w) (hS : gS w) (hO : wFr w (14, 13, 0, 0)) {Ω : OM} {S : Nat → Nat → HV} (e : Ω.1 = S) (a1 : Int32) {v : Bool} (hF : F_X10_isProtected a1 S = some (.inl v)) : gMh w 8 yL_isProtected cL_isProtected 4 (some .int) [(0, 16, 19, 31)] [.ref (wAd w (7, 11, 6, 0)), .int a1, .ref (wAd w (14, 13, 0, 0))] (cA w Ω) (some (.int 0)) (cA w (oAns Ω (if v = true then 1 else 0))) 0 0 := by
  refine gMh_of "HedgeMessagesLaw" rfl (by decide) (kR rfl) fun X C hT9 => ?_
  show gU w X _ _ 0 [(0, .ref (wAd w (7, 11, 6, 0))), (1, .int a1), (2, .ref (wAd w (14, 13, 0, 0)))] []
  refine r_aload_n C (k := 2) rfl rfl dL_isProtected_0 ?_
  refine r_iconst C (v := 0) rfl dL_isProtected_1 ?_
  refine r_aload_n C (k := 0) rfl rfl dL_isProtected_2 ?_
  refine r_iload_n C (k := 1) rfl rfl dL_isProtected_3 ?_
  refine r_callV C (d' := 7) [.int a1] (c_X10_isProtected hW hS e a1 hF) myX10_isProtected wm5_138 ⟨_, _, _, _, (hW.ok k7), rfl, rfl, rfl, rfl⟩ rfl (kR rfl) (by decide) (kR rfl) rfl dL_isProtected_4 ?_
  refine r_if_eq C (tgt := 14) rfl dL_isProtected_7 (fun hc => ?_) (fun hc => ?_)
  · rw [if_neg (b2i_f hc)]
    refine r_lconst C (v := 0) rfl dL_isProtected_14 ?_
    refine r_last C hW.x hO dL_isProtected_15 ?_
    refine r_goto C (tgt := 22) rfl dL_isProtected_16 ?_
    refine r_iconst C (v := 0) rfl dL_isProtected_22 ?_
    exact r_hreturn C dL_isProtected_23
  · rw [if_pos (b2i_t hc)]
    refine r_lconst C (v := 1) rfl dL_isProtected_10 ?_
    refine r_goto C (tgt := 15) rfl dL_isProtected_11 ?_
    refine r_last C hW.x hO dL_isProtected_15 ?_
    refine r_goto C (tgt := 22) rfl dL_isProtected_16 ?_
    refine r_iconst C (v := 0) rfl dL_isProtected_22 ?_
    exact r_hreturn C dL_isProtected_23
theorem xL_isProtected_3 {w : WP} (hW : gW w) (hS : gS w) (hZ : gZ w) {Ω : OM} {S : Nat → Nat → HV} (e : Ω.1 = S) (a1 : Int32) (hF : F_X10_isProtected a1 S = some (.inr 3)) : gMh w 8 yL_isProtected cL_isProtected 4 (some .int) [(0, 16, 19, 31)] [.ref (wAd w (7, 11, 6, 0)), .int a1, .ref (wAd w (14, 13, 0, 0))] (cA w Ω) (some (.int 1)) (cA w Ω) 1 6 := by
  refine gMh_of "HedgeMessagesLaw" rfl (by decide) (kR rfl) fun X C hT9 => ?_
  show gU w X _ _ 0 [(0, .ref (wAd w (7, 11, 6, 0))), (1, .int a1), (2, .ref (wAd w (14, 13, 0, 0)))] []
  refine r_aload_n C (k := 2) rfl rfl dL_isProtected_0 ?_
  refine r_iconst C (v := 0) rfl dL_isProtected_1 ?_
  refine r_aload_n C (k := 0) rfl rfl dL_isProtected_2 ?_
  refine r_iload_n C (k := 1) rfl rfl dL_isProtected_3 ?_
  refine r_callC C hT9 (d' := 7) (E := xN 3) [.int a1] (x_X10_isProtected hW hS hZ e a1 hF) myX10_isProtected wm5_138 ⟨_, _, _, _, (hW.ok k7), rfl, rfl, rfl, rfl⟩ rfl (kR rfl) (by decide) (kR rfl) rfl dL_isProtected_4 [] [] ⟨0, 16, 19, 31⟩ rfl (gXt (fun _ h => nomatch h)) (by decide) (by decide) wm5_80 rfl wm5_91 fun q => ?_
  refine r_astore_n C (lo' := [(3, .ref q), (0, .ref (wAd w (7, 11, 6, 0))), (1, .int a1), (2, .ref (wAd w (14, 13, 0, 0)))]) rfl (by decide) rfl dL_isProtected_19 ?_
  refine r_iconst C (v := 1) rfl dL_isProtected_20 ?_
  exact r_hreturn C dL_isProtected_21
theorem dL_pendingCount_0 : decode cL_pendingCount 0 = .ok (.aload_n 2, 1) := by decide +kernel
theorem dL_pendingCount_1 : decode cL_pendingCount 1 = .ok (.iconst 0, 1) := by decide +kernel
theorem dL_pendingCount_2 : decode cL_pendingCount 2 = .ok (.aload_n 0, 1) := by decide +kernel
theorem dL_pendingCount_3 : decode cL_pendingCount 3 = .ok (.iload_n 1, 1) := by decide +kernel
theorem dL_pendingCount_4 : decode cL_pendingCount 4 = .ok (.invokevirtual 49, 3) := by decide +kernel
theorem dL_pendingCount_7 : decode cL_pendingCount 7 = .ok (.i2l, 1) := by decide +kernel
theorem dL_pendingCount_8 : decode cL_pendingCount 8 = .ok (.lastore, 1) := by decide +kernel
theorem dL_pendingCount_9 : decode cL_pendingCount 9 = .ok (.goto 6, 3) := by decide +kernel
theorem dL_pendingCount_12 : decode cL_pendingCount 12 = .ok (.astore_n 3, 1) := by decide +kernel
theorem dL_pendingCount_13 : decode cL_pendingCount 13 = .ok (.iconst 1, 1) := by decide +kernel
theorem dL_pendingCount_14 : decode cL_pendingCount 14 = .ok (.ireturn, 1) := by decide +kernel
theorem dL_pendingCount_15 : decode cL_pendingCount 15 = .ok (.iconst 0, 1) := by decide +kernel
theorem dL_pendingCount_16 : decode cL_pendingCount 16 = .ok (.ireturn, 1) := by decide +kernel
theorem cwL_pendingCount : Cond.codeWith yL_pendingCount method_13_code 4 (Option.some Jvm.ClassFile.FieldType.int) [(0, 9, 12, 19)] ∈ lw_tbl := in_t5 (List.mem_of_getElem? (i := 145) rfl)
theorem kL_pendingCount {w : WP} (hW : gW w) (hS : gS w) (hO : wFr w (14, 13, 0, 0)) {Ω : OM} {S : Nat → Nat → HV} (e : Ω.1 = S) (a1 : Int32) {v : Int32} (hF : F_X10_pendingCount a1 S = some (.inl v)) : gMh w 8 yL_pendingCount cL_pendingCount 4 (some .int) [(0, 9, 12, 19)] [.ref (wAd w (7, 11, 6, 0)), .int a1, .ref (wAd w (14, 13, 0, 0))] (cA w Ω) (some (.int 0)) (cA w (oAns Ω v.toInt64)) 0 0 := by
  refine gMh_of "HedgeMessagesLaw" rfl (by decide) (kR rfl) fun X C hT9 => ?_
  show gU w X _ _ 0 [(0, .ref (wAd w (7, 11, 6, 0))), (1, .int a1), (2, .ref (wAd w (14, 13, 0, 0)))] []
  refine r_aload_n C (k := 2) rfl rfl dL_pendingCount_0 ?_
  refine r_iconst C (v := 0) rfl dL_pendingCount_1 ?_
  refine r_aload_n C (k := 0) rfl rfl dL_pendingCount_2 ?_
  refine r_iload_n C (k := 1) rfl rfl dL_pendingCount_3 ?_
  refine r_callV C (d' := 7) [.int a1] (c_X10_pendingCount hW hS e a1 hF) myX10_pendingCount wm5_146 ⟨_, _, _, _, (hW.ok k7), rfl, rfl, rfl, rfl⟩ rfl (kR rfl) (by decide) (kR rfl) rfl dL_pendingCount_4 ?_
  refine r_i2l C (v := v.toInt64) rfl dL_pendingCount_7 ?_
  refine r_last C hW.x hO dL_pendingCount_8 ?_
  refine r_goto C (tgt := 15) rfl dL_pendingCount_9 ?_
  refine r_iconst C (v := 0) rfl dL_pendingCount_15 ?_
  exact r_hreturn C dL_pendingCount_16
theorem xL_pendingCount_2 {w : WP} (hW : gW w) (hS : gS w) (hZ : gZ w) {Ω : OM} {S : Nat → Nat → HV} (e : Ω.1 = S) (a1 : Int32) (hF : F_X10_pendingCount a1 S = some (.inr 2)) : gMh w 8 yL_pendingCount cL_pendingCount 4 (some .int) [(0, 9, 12, 19)] [.ref (wAd w (7, 11, 6, 0)), .int a1, .ref (wAd w (14, 13, 0, 0))] (cA w Ω) (some (.int 1)) (cA w Ω) 1 6 := by
  refine gMh_of "HedgeMessagesLaw" rfl (by decide) (kR rfl) fun X C hT9 => ?_
  show gU w X _ _ 0 [(0, .ref (wAd w (7, 11, 6, 0))), (1, .int a1), (2, .ref (wAd w (14, 13, 0, 0)))] []
  refine r_aload_n C (k := 2) rfl rfl dL_pendingCount_0 ?_
  refine r_iconst C (v := 0) rfl dL_pendingCount_1 ?_
  refine r_aload_n C (k := 0) rfl rfl dL_pendingCount_2 ?_
  refine r_iload_n C (k := 1) rfl rfl dL_pendingCount_3 ?_
  refine r_callC C hT9 (d' := 7) (E := xN 2) [.int a1] (x_X10_pendingCount hW hS hZ e a1 hF) myX10_pendingCount wm5_146 ⟨_, _, _, _, (hW.ok k7), rfl, rfl, rfl, rfl⟩ rfl (kR rfl) (by decide) (kR rfl) rfl dL_pendingCount_4 [] [] ⟨0, 9, 12, 19⟩ rfl (gXt (fun _ h => nomatch h)) (by decide) (by decide) wm3_234 rfl wm4_1 fun q => ?_
  refine r_astore_n C (lo' := [(3, .ref q), (0, .ref (wAd w (7, 11, 6, 0))), (1, .int a1), (2, .ref (wAd w (14, 13, 0, 0)))]) rfl (by decide) rfl dL_pendingCount_12 ?_
  refine r_iconst C (v := 1) rfl dL_pendingCount_13 ?_
  exact r_hreturn C dL_pendingCount_14
theorem dL_pendingLetter_0 : decode cL_pendingLetter 0 = .ok (.aload 4, 2) := by decide +kernel
theorem dL_pendingLetter_2 : decode cL_pendingLetter 2 = .ok (.iconst 0, 1) := by decide +kernel
theorem dL_pendingLetter_3 : decode cL_pendingLetter 3 = .ok (.aload_n 0, 1) := by decide +kernel
theorem dL_pendingLetter_4 : decode cL_pendingLetter 4 = .ok (.iload_n 1, 1) := by decide +kernel
theorem dL_pendingLetter_5 : decode cL_pendingLetter 5 = .ok (.iload_n 2, 1) := by decide +kernel
theorem dL_pendingLetter_6 : decode cL_pendingLetter 6 = .ok (.iload_n 3, 1) := by decide +kernel
theorem dL_pendingLetter_7 : decode cL_pendingLetter 7 = .ok (.invokevirtual 52, 3) := by decide +kernel
theorem dL_pendingLetter_10 : decode cL_pendingLetter 10 = .ok (.i2l, 1) := by decide +kernel
theorem dL_pendingLetter_11 : decode cL_pendingLetter 11 = .ok (.lastore, 1) := by decide +kernel
theorem dL_pendingLetter_12 : decode cL_pendingLetter 12 = .ok (.goto 7, 3) := by decide +kernel
theorem dL_pendingLetter_15 : decode cL_pendingLetter 15 = .ok (.astore 5, 2) := by decide +kernel
theorem dL_pendingLetter_17 : decode cL_pendingLetter 17 = .ok (.iconst 1, 1) := by decide +kernel
theorem dL_pendingLetter_18 : decode cL_pendingLetter 18 = .ok (.ireturn, 1) := by decide +kernel
theorem dL_pendingLetter_19 : decode cL_pendingLetter 19 = .ok (.iconst 0, 1) := by decide +kernel
theorem dL_pendingLetter_20 : decode cL_pendingLetter 20 = .ok (.ireturn, 1) := by decide +kernel
theorem cwL_pendingLetter : Cond.codeWith yL_pendingLetter method_14_code 6 (Option.some Jvm.ClassFile.FieldType.int) [(0, 12, 15, 19)] ∈ lw_tbl := in_t5 (List.mem_of_getElem? (i := 156) rfl)
theorem kL_pendingLetter {w : WP} (hW : gW w) (hS : gS w) (hO : wFr w (14, 13, 0, 0)) {Ω : OM} {S : Nat → Nat → HV} (e : Ω.1 = S) (a1 : Int32) (a2 : Int32) (a3 : Int32) {v : Int32} (hF : F_X10_pendingLetter a1 a2 a3 S = some (.inl v)) : gMh w 8 yL_pendingLetter cL_pendingLetter 6 (some .int) [(0, 12, 15, 19)] [.ref (wAd w (7, 11, 6, 0)), .int a1, .int a2, .int a3, .ref (wAd w (14, 13, 0, 0))] (cA w Ω) (some (.int 0)) (cA w (oAns Ω v.toInt64)) 0 0 := by
  refine gMh_of "HedgeMessagesLaw" rfl (by decide) (kR rfl) fun X C hT9 => ?_
  show gU w X _ _ 0 [(0, .ref (wAd w (7, 11, 6, 0))), (1, .int a1), (2, .int a2), (3, .int a3), (4, .ref (wAd w (14, 13, 0, 0)))] []
  refine r_aload C (k := 4) rfl dL_pendingLetter_0 ?_
  refine r_iconst C (v := 0) rfl dL_pendingLetter_2 ?_
  refine r_aload_n C (k := 0) rfl rfl dL_pendingLetter_3 ?_
  refine r_iload_n C (k := 1) rfl rfl dL_pendingLetter_4 ?_
  refine r_iload_n C (k := 2) rfl rfl dL_pendingLetter_5 ?_
  refine r_iload_n C (k := 3) rfl rfl dL_pendingLetter_6 ?_
  refine r_callV C (d' := 7) [.int a1, .int a2, .int a3] (c_X10_pendingLetter hW hS e a1 a2 a3 hF) myX10_pendingLetter wm5_157 ⟨_, _, _, _, (hW.ok k7), rfl, rfl, rfl, rfl⟩ rfl (kR rfl) (by decide) (kR rfl) rfl dL_pendingLetter_7 ?_
  refine r_i2l C (v := v.toInt64) rfl dL_pendingLetter_10 ?_
  refine r_last C hW.x hO dL_pendingLetter_11 ?_
  refine r_goto C (tgt := 19) rfl dL_pendingLetter_12 ?_
  refine r_iconst C (v := 0) rfl dL_pendingLetter_19 ?_
  exact r_hreturn C dL_pendingLetter_20
theorem xL_pendingLetter_2 {w : WP} (hW : gW w) (hS : gS w) (hZ : gZ w) {Ω : OM} {S : Nat → Nat → HV} (e : Ω.1 = S) (a1 : Int32) (a2 : Int32) (a3 : Int32) (hF : F_X10_pendingLetter a1 a2 a3 S = some (.inr 2)) : gMh w 8 yL_pendingLetter cL_pendingLetter 6 (some .int) [(0, 12, 15, 19)] [.ref (wAd w (7, 11, 6, 0)), .int a1, .int a2, .int a3, .ref (wAd w (14, 13, 0, 0))] (cA w Ω) (some (.int 1)) (cA w Ω) 1 6 := by
  refine gMh_of "HedgeMessagesLaw" rfl (by decide) (kR rfl) fun X C hT9 => ?_
  show gU w X _ _ 0 [(0, .ref (wAd w (7, 11, 6, 0))), (1, .int a1), (2, .int a2), (3, .int a3), (4, .ref (wAd w (14, 13, 0, 0)))] []
  refine r_aload C (k := 4) rfl dL_pendingLetter_0 ?_
  refine r_iconst C (v := 0) rfl dL_pendingLetter_2 ?_
  refine r_aload_n C (k := 0) rfl rfl dL_pendingLetter_3 ?_
  refine r_iload_n C (k := 1) rfl rfl dL_pendingLetter_4 ?_
  refine r_iload_n C (k := 2) rfl rfl dL_pendingLetter_5 ?_
  refine r_iload_n C (k := 3) rfl rfl dL_pendingLetter_6 ?_
  refine r_callC C hT9 (d' := 7) (E := xN 2) [.int a1, .int a2, .int a3] (x_X10_pendingLetter hW hS hZ e a1 a2 a3 hF) myX10_pendingLetter wm5_157 ⟨_, _, _, _, (hW.ok k7), rfl, rfl, rfl, rfl⟩ rfl (kR rfl) (by decide) (kR rfl) rfl dL_pendingLetter_7 [] [] ⟨0, 12, 15, 19⟩ rfl (gXt (fun _ h => nomatch h)) (by decide) (by decide) wm3_234 rfl wm4_1 fun q => ?_
  refine r_astore C (lo' := [(5, .ref q), (0, .ref (wAd w (7, 11, 6, 0))), (1, .int a1), (2, .int a2), (3, .int a3), (4, .ref (wAd w (14, 13, 0, 0)))]) (by decide) rfl dL_pendingLetter_15 ?_
  refine r_iconst C (v := 1) rfl dL_pendingLetter_17 ?_
  exact r_hreturn C dL_pendingLetter_18
theorem dL_lettersWritten_0 : decode cL_lettersWritten 0 = .ok (.aload_n 2, 1) := by decide +kernel
theorem dL_lettersWritten_1 : decode cL_lettersWritten 1 = .ok (.iconst 0, 1) := by decide +kernel
theorem dL_lettersWritten_2 : decode cL_lettersWritten 2 = .ok (.aload_n 0, 1) := by decide +kernel
theorem dL_lettersWritten_3 : decode cL_lettersWritten 3 = .ok (.iload_n 1, 1) := by decide +kernel
theorem dL_lettersWritten_4 : decode cL_lettersWritten 4 = .ok (.invokevirtual 56, 3) := by decide +kernel
theorem dL_lettersWritten_7 : decode cL_lettersWritten 7 = .ok (.i2l, 1) := by decide +kernel
theorem dL_lettersWritten_8 : decode cL_lettersWritten 8 = .ok (.lastore, 1) := by decide +kernel
theorem dL_lettersWritten_9 : decode cL_lettersWritten 9 = .ok (.goto 6, 3) := by decide +kernel
theorem dL_lettersWritten_12 : decode cL_lettersWritten 12 = .ok (.astore_n 3, 1) := by decide +kernel
theorem dL_lettersWritten_13 : decode cL_lettersWritten 13 = .ok (.iconst 1, 1) := by decide +kernel
theorem dL_lettersWritten_14 : decode cL_lettersWritten 14 = .ok (.ireturn, 1) := by decide +kernel
theorem dL_lettersWritten_15 : decode cL_lettersWritten 15 = .ok (.iconst 0, 1) := by decide +kernel
theorem dL_lettersWritten_16 : decode cL_lettersWritten 16 = .ok (.ireturn, 1) := by decide +kernel
theorem cwL_lettersWritten : Cond.codeWith yL_lettersWritten method_15_code 4 (Option.some Jvm.ClassFile.FieldType.int) [(0, 9, 12, 19)] ∈ lw_tbl := in_t5 (List.mem_of_getElem? (i := 168) rfl)
theorem kL_lettersWritten {w : WP} (hW : gW w) (hS : gS w) (hO : wFr w (14, 13, 0, 0)) {Ω : OM} {S : Nat → Nat → HV} (e : Ω.1 = S) (a1 : Int32) {v : Int32} (hF : F_X10_lettersWritten a1 S = some (.inl v)) : gMh w 8 yL_lettersWritten cL_lettersWritten 4 (some .int) [(0, 9, 12, 19)] [.ref (wAd w (7, 11, 6, 0)), .int a1, .ref (wAd w (14, 13, 0, 0))] (cA w Ω) (some (.int 0)) (cA w (oAns Ω v.toInt64)) 0 0 := by
  refine gMh_of "HedgeMessagesLaw" rfl (by decide) (kR rfl) fun X C hT9 => ?_
  show gU w X _ _ 0 [(0, .ref (wAd w (7, 11, 6, 0))), (1, .int a1), (2, .ref (wAd w (14, 13, 0, 0)))] []
  refine r_aload_n C (k := 2) rfl rfl dL_lettersWritten_0 ?_
  refine r_iconst C (v := 0) rfl dL_lettersWritten_1 ?_
  refine r_aload_n C (k := 0) rfl rfl dL_lettersWritten_2 ?_
  refine r_iload_n C (k := 1) rfl rfl dL_lettersWritten_3 ?_
  refine r_callV C (d' := 7) [.int a1] (c_X10_lettersWritten hW hS e a1 hF) myX10_lettersWritten wm5_169 ⟨_, _, _, _, (hW.ok k7), rfl, rfl, rfl, rfl⟩ rfl (kR rfl) (by decide) (kR rfl) rfl dL_lettersWritten_4 ?_
  refine r_i2l C (v := v.toInt64) rfl dL_lettersWritten_7 ?_
  refine r_last C hW.x hO dL_lettersWritten_8 ?_
  refine r_goto C (tgt := 15) rfl dL_lettersWritten_9 ?_
  refine r_iconst C (v := 0) rfl dL_lettersWritten_15 ?_
  exact r_hreturn C dL_lettersWritten_16
theorem xL_lettersWritten_2 {w : WP} (hW : gW w) (hS : gS w) (hZ : gZ w) {Ω : OM} {S : Nat → Nat → HV} (e : Ω.1 = S) (a1 : Int32) (hF : F_X10_lettersWritten a1 S = some (.inr 2)) : gMh w 8 yL_lettersWritten cL_lettersWritten 4 (some .int) [(0, 9, 12, 19)] [.ref (wAd w (7, 11, 6, 0)), .int a1, .ref (wAd w (14, 13, 0, 0))] (cA w Ω) (some (.int 1)) (cA w Ω) 1 6 := by
  refine gMh_of "HedgeMessagesLaw" rfl (by decide) (kR rfl) fun X C hT9 => ?_
  show gU w X _ _ 0 [(0, .ref (wAd w (7, 11, 6, 0))), (1, .int a1), (2, .ref (wAd w (14, 13, 0, 0)))] []
  refine r_aload_n C (k := 2) rfl rfl dL_lettersWritten_0 ?_
  refine r_iconst C (v := 0) rfl dL_lettersWritten_1 ?_
  refine r_aload_n C (k := 0) rfl rfl dL_lettersWritten_2 ?_
  refine r_iload_n C (k := 1) rfl rfl dL_lettersWritten_3 ?_
  refine r_callC C hT9 (d' := 7) (E := xN 2) [.int a1] (x_X10_lettersWritten hW hS hZ e a1 hF) myX10_lettersWritten wm5_169 ⟨_, _, _, _, (hW.ok k7), rfl, rfl, rfl, rfl⟩ rfl (kR rfl) (by decide) (kR rfl) rfl dL_lettersWritten_4 [] [] ⟨0, 9, 12, 19⟩ rfl (gXt (fun _ h => nomatch h)) (by decide) (by decide) wm3_234 rfl wm4_1 fun q => ?_
  refine r_astore_n C (lo' := [(3, .ref q), (0, .ref (wAd w (7, 11, 6, 0))), (1, .int a1), (2, .ref (wAd w (14, 13, 0, 0)))]) rfl (by decide) rfl dL_lettersWritten_12 ?_
  refine r_iconst C (v := 1) rfl dL_lettersWritten_13 ?_
  exact r_hreturn C dL_lettersWritten_14
theorem dL_startSlot_0 : decode cL_startSlot 0 = .ok (.aload_n 2, 1) := by decide +kernel
theorem dL_startSlot_1 : decode cL_startSlot 1 = .ok (.iconst 0, 1) := by decide +kernel
theorem dL_startSlot_2 : decode cL_startSlot 2 = .ok (.aload_n 0, 1) := by decide +kernel
theorem dL_startSlot_3 : decode cL_startSlot 3 = .ok (.iload_n 1, 1) := by decide +kernel
theorem dL_startSlot_4 : decode cL_startSlot 4 = .ok (.invokevirtual 59, 3) := by decide +kernel
theorem dL_startSlot_7 : decode cL_startSlot 7 = .ok (.i2l, 1) := by decide +kernel
theorem dL_startSlot_8 : decode cL_startSlot 8 = .ok (.lastore, 1) := by decide +kernel
theorem dL_startSlot_9 : decode cL_startSlot 9 = .ok (.goto 6, 3) := by decide +kernel
theorem dL_startSlot_12 : decode cL_startSlot 12 = .ok (.astore_n 3, 1) := by decide +kernel
theorem dL_startSlot_13 : decode cL_startSlot 13 = .ok (.iconst 1, 1) := by decide +kernel
theorem dL_startSlot_14 : decode cL_startSlot 14 = .ok (.ireturn, 1) := by decide +kernel
theorem dL_startSlot_15 : decode cL_startSlot 15 = .ok (.iconst 0, 1) := by decide +kernel
theorem dL_startSlot_16 : decode cL_startSlot 16 = .ok (.ireturn, 1) := by decide +kernel
theorem cwL_startSlot : Cond.codeWith yL_startSlot method_16_code 4 (Option.some Jvm.ClassFile.FieldType.int) [(0, 9, 12, 19)] ∈ lw_tbl := in_t5 (List.mem_of_getElem? (i := 175) rfl)
theorem kL_startSlot {w : WP} (hW : gW w) (hS : gS w) (hO : wFr w (14, 13, 0, 0)) {Ω : OM} {S : Nat → Nat → HV} (e : Ω.1 = S) (a1 : Int32) {v : Int32} (hF : F_X10_startSlot a1 S = some (.inl v)) : gMh w 8 yL_startSlot cL_startSlot 4 (some .int) [(0, 9, 12, 19)] [.ref (wAd w (7, 11, 6, 0)), .int a1, .ref (wAd w (14, 13, 0, 0))] (cA w Ω) (some (.int 0)) (cA w (oAns Ω v.toInt64)) 0 0 := by
  refine gMh_of "HedgeMessagesLaw" rfl (by decide) (kR rfl) fun X C hT9 => ?_
  show gU w X _ _ 0 [(0, .ref (wAd w (7, 11, 6, 0))), (1, .int a1), (2, .ref (wAd w (14, 13, 0, 0)))] []
  refine r_aload_n C (k := 2) rfl rfl dL_startSlot_0 ?_
  refine r_iconst C (v := 0) rfl dL_startSlot_1 ?_
  refine r_aload_n C (k := 0) rfl rfl dL_startSlot_2 ?_
  refine r_iload_n C (k := 1) rfl rfl dL_startSlot_3 ?_
  refine r_callV C (d' := 7) [.int a1] (c_X10_startSlot hW hS e a1 hF) myX10_startSlot wm5_176 ⟨_, _, _, _, (hW.ok k7), rfl, rfl, rfl, rfl⟩ rfl (kR rfl) (by decide) (kR rfl) rfl dL_startSlot_4 ?_
  refine r_i2l C (v := v.toInt64) rfl dL_startSlot_7 ?_
  refine r_last C hW.x hO dL_startSlot_8 ?_
  refine r_goto C (tgt := 15) rfl dL_startSlot_9 ?_
  refine r_iconst C (v := 0) rfl dL_startSlot_15 ?_
  exact r_hreturn C dL_startSlot_16
theorem xL_startSlot_2 {w : WP} (hW : gW w) (hS : gS w) (hZ : gZ w) {Ω : OM} {S : Nat → Nat → HV} (e : Ω.1 = S) (a1 : Int32) (hF : F_X10_startSlot a1 S = some (.inr 2)) : gMh w 8 yL_startSlot cL_startSlot 4 (some .int) [(0, 9, 12, 19)] [.ref (wAd w (7, 11, 6, 0)), .int a1, .ref (wAd w (14, 13, 0, 0))] (cA w Ω) (some (.int 1)) (cA w Ω) 1 6 := by
  refine gMh_of "HedgeMessagesLaw" rfl (by decide) (kR rfl) fun X C hT9 => ?_
  show gU w X _ _ 0 [(0, .ref (wAd w (7, 11, 6, 0))), (1, .int a1), (2, .ref (wAd w (14, 13, 0, 0)))] []
  refine r_aload_n C (k := 2) rfl rfl dL_startSlot_0 ?_
  refine r_iconst C (v := 0) rfl dL_startSlot_1 ?_
  refine r_aload_n C (k := 0) rfl rfl dL_startSlot_2 ?_
  refine r_iload_n C (k := 1) rfl rfl dL_startSlot_3 ?_
  refine r_callC C hT9 (d' := 7) (E := xN 2) [.int a1] (x_X10_startSlot hW hS hZ e a1 hF) myX10_startSlot wm5_176 ⟨_, _, _, _, (hW.ok k7), rfl, rfl, rfl, rfl⟩ rfl (kR rfl) (by decide) (kR rfl) rfl dL_startSlot_4 [] [] ⟨0, 9, 12, 19⟩ rfl (gXt (fun _ h => nomatch h)) (by decide) (by decide) wm3_234 rfl wm4_1 fun q => ?_
  refine r_astore_n C (lo' := [(3, .ref q), (0, .ref (wAd w (7, 11, 6, 0))), (1, .int a1), (2, .ref (wAd w (14, 13, 0, 0)))]) rfl (by decide) rfl dL_startSlot_12 ?_
  refine r_iconst C (v := 1) rfl dL_startSlot_13 ?_
  exact r_hreturn C dL_startSlot_14
theorem dL_postedCount_0 : decode cL_postedCount 0 = .ok (.aload_n 2, 1) := by decide +kernel
theorem dL_postedCount_1 : decode cL_postedCount 1 = .ok (.iconst 0, 1) := by decide +kernel
theorem dL_postedCount_2 : decode cL_postedCount 2 = .ok (.aload_n 0, 1) := by decide +kernel
theorem dL_postedCount_3 : decode cL_postedCount 3 = .ok (.iload_n 1, 1) := by decide +kernel
theorem dL_postedCount_4 : decode cL_postedCount 4 = .ok (.invokevirtual 62, 3) := by decide +kernel
theorem dL_postedCount_7 : decode cL_postedCount 7 = .ok (.i2l, 1) := by decide +kernel
theorem dL_postedCount_8 : decode cL_postedCount 8 = .ok (.lastore, 1) := by decide +kernel
theorem dL_postedCount_9 : decode cL_postedCount 9 = .ok (.goto 6, 3) := by decide +kernel
theorem dL_postedCount_12 : decode cL_postedCount 12 = .ok (.astore_n 3, 1) := by decide +kernel
theorem dL_postedCount_13 : decode cL_postedCount 13 = .ok (.iconst 1, 1) := by decide +kernel
theorem dL_postedCount_14 : decode cL_postedCount 14 = .ok (.ireturn, 1) := by decide +kernel
theorem dL_postedCount_15 : decode cL_postedCount 15 = .ok (.iconst 0, 1) := by decide +kernel
theorem dL_postedCount_16 : decode cL_postedCount 16 = .ok (.ireturn, 1) := by decide +kernel
theorem cwL_postedCount : Cond.codeWith yL_postedCount method_17_code 4 (Option.some Jvm.ClassFile.FieldType.int) [(0, 9, 12, 19)] ∈ lw_tbl := in_t5 (List.mem_of_getElem? (i := 183) rfl)
theorem kL_postedCount {w : WP} (hW : gW w) (hS : gS w) (hO : wFr w (14, 13, 0, 0)) {Ω : OM} {S : Nat → Nat → HV} (e : Ω.1 = S) (N : Nat) (a1 : Int32) {v : Int32} (hF : F_X10_postedCount N a1 S = some (.inl v)) : gMh w 8 yL_postedCount cL_postedCount 4 (some .int) [(0, 9, 12, 19)] [.ref (wAd w (7, 11, 6, 0)), .int a1, .ref (wAd w (14, 13, 0, 0))] (cA w Ω) (some (.int 0)) (cA w (oAns Ω v.toInt64)) 0 0 := by
  refine gMh_of "HedgeMessagesLaw" rfl (by decide) (kR rfl) fun X C hT9 => ?_
  show gU w X _ _ 0 [(0, .ref (wAd w (7, 11, 6, 0))), (1, .int a1), (2, .ref (wAd w (14, 13, 0, 0)))] []
  refine r_aload_n C (k := 2) rfl rfl dL_postedCount_0 ?_
  refine r_iconst C (v := 0) rfl dL_postedCount_1 ?_
  refine r_aload_n C (k := 0) rfl rfl dL_postedCount_2 ?_
  refine r_iload_n C (k := 1) rfl rfl dL_postedCount_3 ?_
  refine r_callV C (d' := 7) [.int a1] (c_X10_postedCount hW hS e N a1 hF) myX10_postedCount wm5_184 ⟨_, _, _, _, (hW.ok k7), rfl, rfl, rfl, rfl⟩ rfl (kR rfl) (by decide) (kR rfl) rfl dL_postedCount_4 ?_
  refine r_i2l C (v := v.toInt64) rfl dL_postedCount_7 ?_
  refine r_last C hW.x hO dL_postedCount_8 ?_
  refine r_goto C (tgt := 15) rfl dL_postedCount_9 ?_
  refine r_iconst C (v := 0) rfl dL_postedCount_15 ?_
  exact r_hreturn C dL_postedCount_16
theorem xL_postedCount_2 {w : WP} (hW : gW w) (hS : gS w) (hZ : gZ w) {Ω : OM} {S : Nat → Nat → HV} (e : Ω.1 = S) (N : Nat) (a1 : Int32) (hF : F_X10_postedCount N a1 S = some (.inr 2)) : gMh w 8 yL_postedCount cL_postedCount 4 (some .int) [(0, 9, 12, 19)] [.ref (wAd w (7, 11, 6, 0)), .int a1, .ref (wAd w (14, 13, 0, 0))] (cA w Ω) (some (.int 1)) (cA w Ω) 1 6 := by
  refine gMh_of "HedgeMessagesLaw" rfl (by decide) (kR rfl) fun X C hT9 => ?_
  show gU w X _ _ 0 [(0, .ref (wAd w (7, 11, 6, 0))), (1, .int a1), (2, .ref (wAd w (14, 13, 0, 0)))] []
  refine r_aload_n C (k := 2) rfl rfl dL_postedCount_0 ?_
  refine r_iconst C (v := 0) rfl dL_postedCount_1 ?_
  refine r_aload_n C (k := 0) rfl rfl dL_postedCount_2 ?_
  refine r_iload_n C (k := 1) rfl rfl dL_postedCount_3 ?_
  refine r_callC C hT9 (d' := 7) (E := xN 2) [.int a1] (x_X10_postedCount hW hS hZ e N a1 hF) myX10_postedCount wm5_184 ⟨_, _, _, _, (hW.ok k7), rfl, rfl, rfl, rfl⟩ rfl (kR rfl) (by decide) (kR rfl) rfl dL_postedCount_4 [] [] ⟨0, 9, 12, 19⟩ rfl (gXt (fun _ h => nomatch h)) (by decide) (by decide) wm3_234 rfl wm4_1 fun q => ?_
  refine r_astore_n C (lo' := [(3, .ref q), (0, .ref (wAd w (7, 11, 6, 0))), (1, .int a1), (2, .ref (wAd w (14, 13, 0, 0)))]) rfl (by decide) rfl dL_postedCount_12 ?_
  refine r_iconst C (v := 1) rfl dL_postedCount_13 ?_
  exact r_hreturn C dL_postedCount_14
theorem dL_nextStartSlot_0 : decode cL_nextStartSlot 0 = .ok (.aload_n 2, 1) := by decide +kernel
theorem dL_nextStartSlot_1 : decode cL_nextStartSlot 1 = .ok (.iconst 0, 1) := by decide +kernel
theorem dL_nextStartSlot_2 : decode cL_nextStartSlot 2 = .ok (.aload_n 0, 1) := by decide +kernel
theorem dL_nextStartSlot_3 : decode cL_nextStartSlot 3 = .ok (.iload_n 1, 1) := by decide +kernel
theorem dL_nextStartSlot_4 : decode cL_nextStartSlot 4 = .ok (.invokevirtual 65, 3) := by decide +kernel
theorem dL_nextStartSlot_7 : decode cL_nextStartSlot 7 = .ok (.i2l, 1) := by decide +kernel
theorem dL_nextStartSlot_8 : decode cL_nextStartSlot 8 = .ok (.lastore, 1) := by decide +kernel
theorem dL_nextStartSlot_9 : decode cL_nextStartSlot 9 = .ok (.goto 6, 3) := by decide +kernel
theorem dL_nextStartSlot_12 : decode cL_nextStartSlot 12 = .ok (.astore_n 3, 1) := by decide +kernel
theorem dL_nextStartSlot_13 : decode cL_nextStartSlot 13 = .ok (.iconst 1, 1) := by decide +kernel
theorem dL_nextStartSlot_14 : decode cL_nextStartSlot 14 = .ok (.ireturn, 1) := by decide +kernel
theorem dL_nextStartSlot_15 : decode cL_nextStartSlot 15 = .ok (.iconst 0, 1) := by decide +kernel
theorem dL_nextStartSlot_16 : decode cL_nextStartSlot 16 = .ok (.ireturn, 1) := by decide +kernel
theorem cwL_nextStartSlot : Cond.codeWith yL_nextStartSlot method_18_code 4 (Option.some Jvm.ClassFile.FieldType.int) [(0, 9, 12, 19)] ∈ lw_tbl := in_t5 (List.mem_of_getElem? (i := 194) rfl)
theorem kL_nextStartSlot {w : WP} (hW : gW w) (hS : gS w) (hO : wFr w (14, 13, 0, 0)) {Ω : OM} {S : Nat → Nat → HV} (e : Ω.1 = S) (N : Nat) (a1 : Int32) {v : Int32} (hF : F_X10_nextStartSlot N a1 S = some (.inl v)) : gMh w 8 yL_nextStartSlot cL_nextStartSlot 4 (some .int) [(0, 9, 12, 19)] [.ref (wAd w (7, 11, 6, 0)), .int a1, .ref (wAd w (14, 13, 0, 0))] (cA w Ω) (some (.int 0)) (cA w (oAns Ω v.toInt64)) 0 0 := by
  refine gMh_of "HedgeMessagesLaw" rfl (by decide) (kR rfl) fun X C hT9 => ?_
  show gU w X _ _ 0 [(0, .ref (wAd w (7, 11, 6, 0))), (1, .int a1), (2, .ref (wAd w (14, 13, 0, 0)))] []
  refine r_aload_n C (k := 2) rfl rfl dL_nextStartSlot_0 ?_
  refine r_iconst C (v := 0) rfl dL_nextStartSlot_1 ?_
  refine r_aload_n C (k := 0) rfl rfl dL_nextStartSlot_2 ?_
  refine r_iload_n C (k := 1) rfl rfl dL_nextStartSlot_3 ?_
  refine r_callV C (d' := 7) [.int a1] (c_X10_nextStartSlot hW hS e N a1 hF) myX10_nextStartSlot wm5_195 ⟨_, _, _, _, (hW.ok k7), rfl, rfl, rfl, rfl⟩ rfl (kR rfl) (by decide) (kR rfl) rfl dL_nextStartSlot_4 ?_
  refine r_i2l C (v := v.toInt64) rfl dL_nextStartSlot_7 ?_
  refine r_last C hW.x hO dL_nextStartSlot_8 ?_
  refine r_goto C (tgt := 15) rfl dL_nextStartSlot_9 ?_
  refine r_iconst C (v := 0) rfl dL_nextStartSlot_15 ?_
  exact r_hreturn C dL_nextStartSlot_16
theorem xL_nextStartSlot_2 {w : WP} (hW : gW w) (hS : gS w) (hZ : gZ w) {Ω : OM} {S : Nat → Nat → HV} (e : Ω.1 = S) (N : Nat) (a1 : Int32) (hF : F_X10_nextStartSlot N a1 S = some (.inr 2)) : gMh w 8 yL_nextStartSlot cL_nextStartSlot 4 (some .int) [(0, 9, 12, 19)] [.ref (wAd w (7, 11, 6, 0)), .int a1, .ref (wAd w (14, 13, 0, 0))] (cA w Ω) (some (.int 1)) (cA w Ω) 1 6 := by
  refine gMh_of "HedgeMessagesLaw" rfl (by decide) (kR rfl) fun X C hT9 => ?_
  show gU w X _ _ 0 [(0, .ref (wAd w (7, 11, 6, 0))), (1, .int a1), (2, .ref (wAd w (14, 13, 0, 0)))] []
  refine r_aload_n C (k := 2) rfl rfl dL_nextStartSlot_0 ?_
  refine r_iconst C (v := 0) rfl dL_nextStartSlot_1 ?_
  refine r_aload_n C (k := 0) rfl rfl dL_nextStartSlot_2 ?_
  refine r_iload_n C (k := 1) rfl rfl dL_nextStartSlot_3 ?_
  refine r_callC C hT9 (d' := 7) (E := xN 2) [.int a1] (x_X10_nextStartSlot hW hS hZ e N a1 hF) myX10_nextStartSlot wm5_195 ⟨_, _, _, _, (hW.ok k7), rfl, rfl, rfl, rfl⟩ rfl (kR rfl) (by decide) (kR rfl) rfl dL_nextStartSlot_4 [] [] ⟨0, 9, 12, 19⟩ rfl (gXt (fun _ h => nomatch h)) (by decide) (by decide) wm3_234 rfl wm4_1 fun q => ?_
  refine r_astore_n C (lo' := [(3, .ref q), (0, .ref (wAd w (7, 11, 6, 0))), (1, .int a1), (2, .ref (wAd w (14, 13, 0, 0)))]) rfl (by decide) rfl dL_nextStartSlot_12 ?_
  refine r_iconst C (v := 1) rfl dL_nextStartSlot_13 ?_
  exact r_hreturn C dL_nextStartSlot_14
theorem dL_plantReason_0 : decode cL_plantReason 0 = .ok (.aload_n 2, 1) := by decide +kernel
theorem dL_plantReason_1 : decode cL_plantReason 1 = .ok (.iconst 0, 1) := by decide +kernel
theorem dL_plantReason_2 : decode cL_plantReason 2 = .ok (.aload_n 0, 1) := by decide +kernel
theorem dL_plantReason_3 : decode cL_plantReason 3 = .ok (.iload_n 1, 1) := by decide +kernel
theorem dL_plantReason_4 : decode cL_plantReason 4 = .ok (.invokevirtual 68, 3) := by decide +kernel
theorem dL_plantReason_7 : decode cL_plantReason 7 = .ok (.i2l, 1) := by decide +kernel
theorem dL_plantReason_8 : decode cL_plantReason 8 = .ok (.lastore, 1) := by decide +kernel
theorem dL_plantReason_9 : decode cL_plantReason 9 = .ok (.goto 6, 3) := by decide +kernel
theorem dL_plantReason_12 : decode cL_plantReason 12 = .ok (.astore_n 3, 1) := by decide +kernel
theorem dL_plantReason_13 : decode cL_plantReason 13 = .ok (.iconst 1, 1) := by decide +kernel
theorem dL_plantReason_14 : decode cL_plantReason 14 = .ok (.ireturn, 1) := by decide +kernel
theorem dL_plantReason_15 : decode cL_plantReason 15 = .ok (.iconst 0, 1) := by decide +kernel
theorem dL_plantReason_16 : decode cL_plantReason 16 = .ok (.ireturn, 1) := by decide +kernel
theorem cwL_plantReason : Cond.codeWith yL_plantReason method_19_code 4 (Option.some Jvm.ClassFile.FieldType.int) [(0, 9, 12, 31)] ∈ lw_tbl := in_t5 (List.mem_of_getElem? (i := 203) rfl)
theorem kL_plantReason {w : WP} (hW : gW w) (hS : gS w) (hO : wFr w (14, 13, 0, 0)) {Ω : OM} {S : Nat → Nat → HV} (e : Ω.1 = S) (a1 : Int32) {v : Int32} (hF : F_X10_plantReason a1 S = some (.inl v)) : gMh w 8 yL_plantReason cL_plantReason 4 (some .int) [(0, 9, 12, 31)] [.ref (wAd w (7, 11, 6, 0)), .int a1, .ref (wAd w (14, 13, 0, 0))] (cA w Ω) (some (.int 0)) (cA w (oAns Ω v.toInt64)) 0 0 := by
  refine gMh_of "HedgeMessagesLaw" rfl (by decide) (kR rfl) fun X C hT9 => ?_
  show gU w X _ _ 0 [(0, .ref (wAd w (7, 11, 6, 0))), (1, .int a1), (2, .ref (wAd w (14, 13, 0, 0)))] []
  refine r_aload_n C (k := 2) rfl rfl dL_plantReason_0 ?_
  refine r_iconst C (v := 0) rfl dL_plantReason_1 ?_
  refine r_aload_n C (k := 0) rfl rfl dL_plantReason_2 ?_
  refine r_iload_n C (k := 1) rfl rfl dL_plantReason_3 ?_
  refine r_callV C (d' := 7) [.int a1] (c_X10_plantReason hW hS e a1 hF) myX10_plantReason wm5_204 ⟨_, _, _, _, (hW.ok k7), rfl, rfl, rfl, rfl⟩ rfl (kR rfl) (by decide) (kR rfl) rfl dL_plantReason_4 ?_
  refine r_i2l C (v := v.toInt64) rfl dL_plantReason_7 ?_
  refine r_last C hW.x hO dL_plantReason_8 ?_
  refine r_goto C (tgt := 15) rfl dL_plantReason_9 ?_
  refine r_iconst C (v := 0) rfl dL_plantReason_15 ?_
  exact r_hreturn C dL_plantReason_16
theorem xL_plantReason_3 {w : WP} (hW : gW w) (hS : gS w) (hZ : gZ w) {Ω : OM} {S : Nat → Nat → HV} (e : Ω.1 = S) (a1 : Int32) (hF : F_X10_plantReason a1 S = some (.inr 3)) : gMh w 8 yL_plantReason cL_plantReason 4 (some .int) [(0, 9, 12, 31)] [.ref (wAd w (7, 11, 6, 0)), .int a1, .ref (wAd w (14, 13, 0, 0))] (cA w Ω) (some (.int 1)) (cA w Ω) 1 6 := by
  refine gMh_of "HedgeMessagesLaw" rfl (by decide) (kR rfl) fun X C hT9 => ?_
  show gU w X _ _ 0 [(0, .ref (wAd w (7, 11, 6, 0))), (1, .int a1), (2, .ref (wAd w (14, 13, 0, 0)))] []
  refine r_aload_n C (k := 2) rfl rfl dL_plantReason_0 ?_
  refine r_iconst C (v := 0) rfl dL_plantReason_1 ?_
  refine r_aload_n C (k := 0) rfl rfl dL_plantReason_2 ?_
  refine r_iload_n C (k := 1) rfl rfl dL_plantReason_3 ?_
  refine r_callC C hT9 (d' := 7) (E := xN 3) [.int a1] (x_X10_plantReason hW hS hZ e a1 hF) myX10_plantReason wm5_204 ⟨_, _, _, _, (hW.ok k7), rfl, rfl, rfl, rfl⟩ rfl (kR rfl) (by decide) (kR rfl) rfl dL_plantReason_4 [] [] ⟨0, 9, 12, 31⟩ rfl (gXt (fun _ h => nomatch h)) (by decide) (by decide) wm5_80 rfl wm5_91 fun q => ?_
  refine r_astore_n C (lo' := [(3, .ref q), (0, .ref (wAd w (7, 11, 6, 0))), (1, .int a1), (2, .ref (wAd w (14, 13, 0, 0)))]) rfl (by decide) rfl dL_plantReason_12 ?_
  refine r_iconst C (v := 1) rfl dL_plantReason_13 ?_
  exact r_hreturn C dL_plantReason_14
theorem dL_removeReason_0 : decode cL_removeReason 0 = .ok (.aload_n 2, 1) := by decide +kernel
theorem dL_removeReason_1 : decode cL_removeReason 1 = .ok (.iconst 0, 1) := by decide +kernel
theorem dL_removeReason_2 : decode cL_removeReason 2 = .ok (.aload_n 0, 1) := by decide +kernel
theorem dL_removeReason_3 : decode cL_removeReason 3 = .ok (.iload_n 1, 1) := by decide +kernel
theorem dL_removeReason_4 : decode cL_removeReason 4 = .ok (.invokevirtual 71, 3) := by decide +kernel
theorem dL_removeReason_7 : decode cL_removeReason 7 = .ok (.i2l, 1) := by decide +kernel
theorem dL_removeReason_8 : decode cL_removeReason 8 = .ok (.lastore, 1) := by decide +kernel
theorem dL_removeReason_9 : decode cL_removeReason 9 = .ok (.goto 6, 3) := by decide +kernel
theorem dL_removeReason_12 : decode cL_removeReason 12 = .ok (.astore_n 3, 1) := by decide +kernel
theorem dL_removeReason_13 : decode cL_removeReason 13 = .ok (.iconst 1, 1) := by decide +kernel
theorem dL_removeReason_14 : decode cL_removeReason 14 = .ok (.ireturn, 1) := by decide +kernel
theorem dL_removeReason_15 : decode cL_removeReason 15 = .ok (.iconst 0, 1) := by decide +kernel
theorem dL_removeReason_16 : decode cL_removeReason 16 = .ok (.ireturn, 1) := by decide +kernel
theorem cwL_removeReason : Cond.codeWith yL_removeReason method_20_code 4 (Option.some Jvm.ClassFile.FieldType.int) [(0, 9, 12, 31)] ∈ lw_tbl := in_t5 (List.mem_of_getElem? (i := 211) rfl)
theorem kL_removeReason {w : WP} (hW : gW w) (hS : gS w) (hO : wFr w (14, 13, 0, 0)) {Ω : OM} {S : Nat → Nat → HV} (e : Ω.1 = S) (a1 : Int32) {v : Int32} (hF : F_X10_removeReason a1 S = some (.inl v)) : gMh w 8 yL_removeReason cL_removeReason 4 (some .int) [(0, 9, 12, 31)] [.ref (wAd w (7, 11, 6, 0)), .int a1, .ref (wAd w (14, 13, 0, 0))] (cA w Ω) (some (.int 0)) (cA w (oAns Ω v.toInt64)) 0 0 := by
  refine gMh_of "HedgeMessagesLaw" rfl (by decide) (kR rfl) fun X C hT9 => ?_
  show gU w X _ _ 0 [(0, .ref (wAd w (7, 11, 6, 0))), (1, .int a1), (2, .ref (wAd w (14, 13, 0, 0)))] []
  refine r_aload_n C (k := 2) rfl rfl dL_removeReason_0 ?_
  refine r_iconst C (v := 0) rfl dL_removeReason_1 ?_
  refine r_aload_n C (k := 0) rfl rfl dL_removeReason_2 ?_
  refine r_iload_n C (k := 1) rfl rfl dL_removeReason_3 ?_
  refine r_callV C (d' := 7) [.int a1] (c_X10_removeReason hW hS e a1 hF) myX10_removeReason wm5_212 ⟨_, _, _, _, (hW.ok k7), rfl, rfl, rfl, rfl⟩ rfl (kR rfl) (by decide) (kR rfl) rfl dL_removeReason_4 ?_
  refine r_i2l C (v := v.toInt64) rfl dL_removeReason_7 ?_
  refine r_last C hW.x hO dL_removeReason_8 ?_
  refine r_goto C (tgt := 15) rfl dL_removeReason_9 ?_
  refine r_iconst C (v := 0) rfl dL_removeReason_15 ?_
  exact r_hreturn C dL_removeReason_16
theorem xL_removeReason_3 {w : WP} (hW : gW w) (hS : gS w) (hZ : gZ w) {Ω : OM} {S : Nat → Nat → HV} (e : Ω.1 = S) (a1 : Int32) (hF : F_X10_removeReason a1 S = some (.inr 3)) : gMh w 8 yL_removeReason cL_removeReason 4 (some .int) [(0, 9, 12, 31)] [.ref (wAd w (7, 11, 6, 0)), .int a1, .ref (wAd w (14, 13, 0, 0))] (cA w Ω) (some (.int 1)) (cA w Ω) 1 6 := by
  refine gMh_of "HedgeMessagesLaw" rfl (by decide) (kR rfl) fun X C hT9 => ?_
  show gU w X _ _ 0 [(0, .ref (wAd w (7, 11, 6, 0))), (1, .int a1), (2, .ref (wAd w (14, 13, 0, 0)))] []
  refine r_aload_n C (k := 2) rfl rfl dL_removeReason_0 ?_
  refine r_iconst C (v := 0) rfl dL_removeReason_1 ?_
  refine r_aload_n C (k := 0) rfl rfl dL_removeReason_2 ?_
  refine r_iload_n C (k := 1) rfl rfl dL_removeReason_3 ?_
  refine r_callC C hT9 (d' := 7) (E := xN 3) [.int a1] (x_X10_removeReason hW hS hZ e a1 hF) myX10_removeReason wm5_212 ⟨_, _, _, _, (hW.ok k7), rfl, rfl, rfl, rfl⟩ rfl (kR rfl) (by decide) (kR rfl) rfl dL_removeReason_4 [] [] ⟨0, 9, 12, 31⟩ rfl (gXt (fun _ h => nomatch h)) (by decide) (by decide) wm5_80 rfl wm5_91 fun q => ?_
  refine r_astore_n C (lo' := [(3, .ref q), (0, .ref (wAd w (7, 11, 6, 0))), (1, .int a1), (2, .ref (wAd w (14, 13, 0, 0)))]) rfl (by decide) rfl dL_removeReason_12 ?_
  refine r_iconst C (v := 1) rfl dL_removeReason_13 ?_
  exact r_hreturn C dL_removeReason_14
theorem dL_trimReason_0 : decode cL_trimReason 0 = .ok (.aload_n 2, 1) := by decide +kernel
theorem dL_trimReason_1 : decode cL_trimReason 1 = .ok (.iconst 0, 1) := by decide +kernel
theorem dL_trimReason_2 : decode cL_trimReason 2 = .ok (.aload_n 0, 1) := by decide +kernel
theorem dL_trimReason_3 : decode cL_trimReason 3 = .ok (.iload_n 1, 1) := by decide +kernel
theorem dL_trimReason_4 : decode cL_trimReason 4 = .ok (.invokevirtual 74, 3) := by decide +kernel
theorem dL_trimReason_7 : decode cL_trimReason 7 = .ok (.i2l, 1) := by decide +kernel
theorem dL_trimReason_8 : decode cL_trimReason 8 = .ok (.lastore, 1) := by decide +kernel
theorem dL_trimReason_9 : decode cL_trimReason 9 = .ok (.goto 6, 3) := by decide +kernel
theorem dL_trimReason_12 : decode cL_trimReason 12 = .ok (.astore_n 3, 1) := by decide +kernel
theorem dL_trimReason_13 : decode cL_trimReason 13 = .ok (.iconst 1, 1) := by decide +kernel
theorem dL_trimReason_14 : decode cL_trimReason 14 = .ok (.ireturn, 1) := by decide +kernel
theorem dL_trimReason_15 : decode cL_trimReason 15 = .ok (.iconst 0, 1) := by decide +kernel
theorem dL_trimReason_16 : decode cL_trimReason 16 = .ok (.ireturn, 1) := by decide +kernel
theorem cwL_trimReason : Cond.codeWith yL_trimReason method_21_code 4 (Option.some Jvm.ClassFile.FieldType.int) [(0, 9, 12, 31)] ∈ lw_tbl := in_t5 (List.mem_of_getElem? (i := 219) rfl)
theorem kL_trimReason {w : WP} (hW : gW w) (hS : gS w) (hO : wFr w (14, 13, 0, 0)) {Ω : OM} {S : Nat → Nat → HV} (e : Ω.1 = S) (a1 : Int32) {v : Int32} (hF : F_X10_trimReason a1 S = some (.inl v)) : gMh w 8 yL_trimReason cL_trimReason 4 (some .int) [(0, 9, 12, 31)] [.ref (wAd w (7, 11, 6, 0)), .int a1, .ref (wAd w (14, 13, 0, 0))] (cA w Ω) (some (.int 0)) (cA w (oAns Ω v.toInt64)) 0 0 := by
  refine gMh_of "HedgeMessagesLaw" rfl (by decide) (kR rfl) fun X C hT9 => ?_
  show gU w X _ _ 0 [(0, .ref (wAd w (7, 11, 6, 0))), (1, .int a1), (2, .ref (wAd w (14, 13, 0, 0)))] []
  refine r_aload_n C (k := 2) rfl rfl dL_trimReason_0 ?_
  refine r_iconst C (v := 0) rfl dL_trimReason_1 ?_
  refine r_aload_n C (k := 0) rfl rfl dL_trimReason_2 ?_
  refine r_iload_n C (k := 1) rfl rfl dL_trimReason_3 ?_
  refine r_callV C (d' := 7) [.int a1] (c_X10_trimReason hW hS e a1 hF) myX10_trimReason wm5_220 ⟨_, _, _, _, (hW.ok k7), rfl, rfl, rfl, rfl⟩ rfl (kR rfl) (by decide) (kR rfl) rfl dL_trimReason_4 ?_
  refine r_i2l C (v := v.toInt64) rfl dL_trimReason_7 ?_
  refine r_last C hW.x hO dL_trimReason_8 ?_
  refine r_goto C (tgt := 15) rfl dL_trimReason_9 ?_
  refine r_iconst C (v := 0) rfl dL_trimReason_15 ?_
  exact r_hreturn C dL_trimReason_16
theorem xL_trimReason_3 {w : WP} (hW : gW w) (hS : gS w) (hZ : gZ w) {Ω : OM} {S : Nat → Nat → HV} (e : Ω.1 = S) (a1 : Int32) (hF : F_X10_trimReason a1 S = some (.inr 3)) : gMh w 8 yL_trimReason cL_trimReason 4 (some .int) [(0, 9, 12, 31)] [.ref (wAd w (7, 11, 6, 0)), .int a1, .ref (wAd w (14, 13, 0, 0))] (cA w Ω) (some (.int 1)) (cA w Ω) 1 6 := by
  refine gMh_of "HedgeMessagesLaw" rfl (by decide) (kR rfl) fun X C hT9 => ?_
  show gU w X _ _ 0 [(0, .ref (wAd w (7, 11, 6, 0))), (1, .int a1), (2, .ref (wAd w (14, 13, 0, 0)))] []
  refine r_aload_n C (k := 2) rfl rfl dL_trimReason_0 ?_
  refine r_iconst C (v := 0) rfl dL_trimReason_1 ?_
  refine r_aload_n C (k := 0) rfl rfl dL_trimReason_2 ?_
  refine r_iload_n C (k := 1) rfl rfl dL_trimReason_3 ?_
  refine r_callC C hT9 (d' := 7) (E := xN 3) [.int a1] (x_X10_trimReason hW hS hZ e a1 hF) myX10_trimReason wm5_220 ⟨_, _, _, _, (hW.ok k7), rfl, rfl, rfl, rfl⟩ rfl (kR rfl) (by decide) (kR rfl) rfl dL_trimReason_4 [] [] ⟨0, 9, 12, 31⟩ rfl (gXt (fun _ h => nomatch h)) (by decide) (by decide) wm5_80 rfl wm5_91 fun q => ?_
  refine r_astore_n C (lo' := [(3, .ref q), (0, .ref (wAd w (7, 11, 6, 0))), (1, .int a1), (2, .ref (wAd w (14, 13, 0, 0)))]) rfl (by decide) rfl dL_trimReason_12 ?_
  refine r_iconst C (v := 1) rfl dL_trimReason_13 ?_
  exact r_hreturn C dL_trimReason_14
theorem dL_writeReason_0 : decode cL_writeReason 0 = .ok (.aload_n 2, 1) := by decide +kernel
theorem dL_writeReason_1 : decode cL_writeReason 1 = .ok (.iconst 0, 1) := by decide +kernel
theorem dL_writeReason_2 : decode cL_writeReason 2 = .ok (.aload_n 0, 1) := by decide +kernel
theorem dL_writeReason_3 : decode cL_writeReason 3 = .ok (.iload_n 1, 1) := by decide +kernel
theorem dL_writeReason_4 : decode cL_writeReason 4 = .ok (.invokevirtual 77, 3) := by decide +kernel
theorem dL_writeReason_7 : decode cL_writeReason 7 = .ok (.i2l, 1) := by decide +kernel
theorem dL_writeReason_8 : decode cL_writeReason 8 = .ok (.lastore, 1) := by decide +kernel
theorem dL_writeReason_9 : decode cL_writeReason 9 = .ok (.goto 6, 3) := by decide +kernel
theorem dL_writeReason_12 : decode cL_writeReason 12 = .ok (.astore_n 3, 1) := by decide +kernel
theorem dL_writeReason_13 : decode cL_writeReason 13 = .ok (.iconst 1, 1) := by decide +kernel
theorem dL_writeReason_14 : decode cL_writeReason 14 = .ok (.ireturn, 1) := by decide +kernel
theorem dL_writeReason_15 : decode cL_writeReason 15 = .ok (.iconst 0, 1) := by decide +kernel
theorem dL_writeReason_16 : decode cL_writeReason 16 = .ok (.ireturn, 1) := by decide +kernel
theorem cwL_writeReason : Cond.codeWith yL_writeReason method_22_code 4 (Option.some Jvm.ClassFile.FieldType.int) [(0, 9, 12, 19)] ∈ lw_tbl := in_t5 (List.mem_of_getElem? (i := 227) rfl)
theorem kL_writeReason {w : WP} (hW : gW w) (hS : gS w) (hO : wFr w (14, 13, 0, 0)) {Ω : OM} {S : Nat → Nat → HV} (e : Ω.1 = S) (N : Nat) (a1 : Int32) {v : Int32} (hF : F_X10_writeReason N a1 S = some (.inl v)) : gMh w 8 yL_writeReason cL_writeReason 4 (some .int) [(0, 9, 12, 19)] [.ref (wAd w (7, 11, 6, 0)), .int a1, .ref (wAd w (14, 13, 0, 0))] (cA w Ω) (some (.int 0)) (cA w (oAns Ω v.toInt64)) 0 0 := by
  refine gMh_of "HedgeMessagesLaw" rfl (by decide) (kR rfl) fun X C hT9 => ?_
  show gU w X _ _ 0 [(0, .ref (wAd w (7, 11, 6, 0))), (1, .int a1), (2, .ref (wAd w (14, 13, 0, 0)))] []
  refine r_aload_n C (k := 2) rfl rfl dL_writeReason_0 ?_
  refine r_iconst C (v := 0) rfl dL_writeReason_1 ?_
  refine r_aload_n C (k := 0) rfl rfl dL_writeReason_2 ?_
  refine r_iload_n C (k := 1) rfl rfl dL_writeReason_3 ?_
  refine r_callV C (d' := 7) [.int a1] (c_X10_writeReason hW hS e N a1 hF) myX10_writeReason wm5_228 ⟨_, _, _, _, (hW.ok k7), rfl, rfl, rfl, rfl⟩ rfl (kR rfl) (by decide) (kR rfl) rfl dL_writeReason_4 ?_
  refine r_i2l C (v := v.toInt64) rfl dL_writeReason_7 ?_
  refine r_last C hW.x hO dL_writeReason_8 ?_
  refine r_goto C (tgt := 15) rfl dL_writeReason_9 ?_
  refine r_iconst C (v := 0) rfl dL_writeReason_15 ?_
  exact r_hreturn C dL_writeReason_16
theorem xL_writeReason_2 {w : WP} (hW : gW w) (hS : gS w) (hZ : gZ w) {Ω : OM} {S : Nat → Nat → HV} (e : Ω.1 = S) (N : Nat) (a1 : Int32) (hF : F_X10_writeReason N a1 S = some (.inr 2)) : gMh w 8 yL_writeReason cL_writeReason 4 (some .int) [(0, 9, 12, 19)] [.ref (wAd w (7, 11, 6, 0)), .int a1, .ref (wAd w (14, 13, 0, 0))] (cA w Ω) (some (.int 1)) (cA w Ω) 1 6 := by
  refine gMh_of "HedgeMessagesLaw" rfl (by decide) (kR rfl) fun X C hT9 => ?_
  show gU w X _ _ 0 [(0, .ref (wAd w (7, 11, 6, 0))), (1, .int a1), (2, .ref (wAd w (14, 13, 0, 0)))] []
  refine r_aload_n C (k := 2) rfl rfl dL_writeReason_0 ?_
  refine r_iconst C (v := 0) rfl dL_writeReason_1 ?_
  refine r_aload_n C (k := 0) rfl rfl dL_writeReason_2 ?_
  refine r_iload_n C (k := 1) rfl rfl dL_writeReason_3 ?_
  refine r_callC C hT9 (d' := 7) (E := xN 2) [.int a1] (x_X10_writeReason hW hS hZ e N a1 hF) myX10_writeReason wm5_228 ⟨_, _, _, _, (hW.ok k7), rfl, rfl, rfl, rfl⟩ rfl (kR rfl) (by decide) (kR rfl) rfl dL_writeReason_4 [] [] ⟨0, 9, 12, 19⟩ rfl (gXt (fun _ h => nomatch h)) (by decide) (by decide) wm3_234 rfl wm4_1 fun q => ?_
  refine r_astore_n C (lo' := [(3, .ref q), (0, .ref (wAd w (7, 11, 6, 0))), (1, .int a1), (2, .ref (wAd w (14, 13, 0, 0)))]) rfl (by decide) rfl dL_writeReason_12 ?_
  refine r_iconst C (v := 1) rfl dL_writeReason_13 ?_
  exact r_hreturn C dL_writeReason_14
theorem dL_keepReason_0 : decode cL_keepReason 0 = .ok (.aload_n 2, 1) := by decide +kernel
theorem dL_keepReason_1 : decode cL_keepReason 1 = .ok (.iconst 0, 1) := by decide +kernel
theorem dL_keepReason_2 : decode cL_keepReason 2 = .ok (.aload_n 0, 1) := by decide +kernel
theorem dL_keepReason_3 : decode cL_keepReason 3 = .ok (.iload_n 1, 1) := by decide +kernel
theorem dL_keepReason_4 : decode cL_keepReason 4 = .ok (.invokevirtual 80, 3) := by decide +kernel
theorem dL_keepReason_7 : decode cL_keepReason 7 = .ok (.i2l, 1) := by decide +kernel
theorem dL_keepReason_8 : decode cL_keepReason 8 = .ok (.lastore, 1) := by decide +kernel
theorem dL_keepReason_9 : decode cL_keepReason 9 = .ok (.goto 6, 3) := by decide +kernel
theorem dL_keepReason_12 : decode cL_keepReason 12 = .ok (.astore_n 3, 1) := by decide +kernel
theorem dL_keepReason_13 : decode cL_keepReason 13 = .ok (.iconst 1, 1) := by decide +kernel
theorem dL_keepReason_14 : decode cL_keepReason 14 = .ok (.ireturn, 1) := by decide +kernel
theorem dL_keepReason_15 : decode cL_keepReason 15 = .ok (.iconst 0, 1) := by decide +kernel
theorem dL_keepReason_16 : decode cL_keepReason 16 = .ok (.ireturn, 1) := by decide +kernel
theorem cwL_keepReason : Cond.codeWith yL_keepReason method_23_code 4 (Option.some Jvm.ClassFile.FieldType.int) [(0, 9, 12, 31)] ∈ lw_tbl := in_t5 (List.mem_of_getElem? (i := 238) rfl)
theorem kL_keepReason {w : WP} (hW : gW w) (hS : gS w) (hO : wFr w (14, 13, 0, 0)) {Ω : OM} {S : Nat → Nat → HV} (e : Ω.1 = S) (a1 : Int32) {v : Int32} (hF : F_X10_keepReason a1 S = some (.inl v)) : gMh w 8 yL_keepReason cL_keepReason 4 (some .int) [(0, 9, 12, 31)] [.ref (wAd w (7, 11, 6, 0)), .int a1, .ref (wAd w (14, 13, 0, 0))] (cA w Ω) (some (.int 0)) (cA w (oAns Ω v.toInt64)) 0 0 := by
  refine gMh_of "HedgeMessagesLaw" rfl (by decide) (kR rfl) fun X C hT9 => ?_
  show gU w X _ _ 0 [(0, .ref (wAd w (7, 11, 6, 0))), (1, .int a1), (2, .ref (wAd w (14, 13, 0, 0)))] []
  refine r_aload_n C (k := 2) rfl rfl dL_keepReason_0 ?_
  refine r_iconst C (v := 0) rfl dL_keepReason_1 ?_
  refine r_aload_n C (k := 0) rfl rfl dL_keepReason_2 ?_
  refine r_iload_n C (k := 1) rfl rfl dL_keepReason_3 ?_
  refine r_callV C (d' := 7) [.int a1] (c_X10_keepReason hW hS e a1 hF) myX10_keepReason wm5_239 ⟨_, _, _, _, (hW.ok k7), rfl, rfl, rfl, rfl⟩ rfl (kR rfl) (by decide) (kR rfl) rfl dL_keepReason_4 ?_
  refine r_i2l C (v := v.toInt64) rfl dL_keepReason_7 ?_
  refine r_last C hW.x hO dL_keepReason_8 ?_
  refine r_goto C (tgt := 15) rfl dL_keepReason_9 ?_
  refine r_iconst C (v := 0) rfl dL_keepReason_15 ?_
  exact r_hreturn C dL_keepReason_16
theorem xL_keepReason_3 {w : WP} (hW : gW w) (hS : gS w) (hZ : gZ w) {Ω : OM} {S : Nat → Nat → HV} (e : Ω.1 = S) (a1 : Int32) (hF : F_X10_keepReason a1 S = some (.inr 3)) : gMh w 8 yL_keepReason cL_keepReason 4 (some .int) [(0, 9, 12, 31)] [.ref (wAd w (7, 11, 6, 0)), .int a1, .ref (wAd w (14, 13, 0, 0))] (cA w Ω) (some (.int 1)) (cA w Ω) 1 6 := by
  refine gMh_of "HedgeMessagesLaw" rfl (by decide) (kR rfl) fun X C hT9 => ?_
  show gU w X _ _ 0 [(0, .ref (wAd w (7, 11, 6, 0))), (1, .int a1), (2, .ref (wAd w (14, 13, 0, 0)))] []
  refine r_aload_n C (k := 2) rfl rfl dL_keepReason_0 ?_
  refine r_iconst C (v := 0) rfl dL_keepReason_1 ?_
  refine r_aload_n C (k := 0) rfl rfl dL_keepReason_2 ?_
  refine r_iload_n C (k := 1) rfl rfl dL_keepReason_3 ?_
  refine r_callC C hT9 (d' := 7) (E := xN 3) [.int a1] (x_X10_keepReason hW hS hZ e a1 hF) myX10_keepReason wm5_239 ⟨_, _, _, _, (hW.ok k7), rfl, rfl, rfl, rfl⟩ rfl (kR rfl) (by decide) (kR rfl) rfl dL_keepReason_4 [] [] ⟨0, 9, 12, 31⟩ rfl (gXt (fun _ h => nomatch h)) (by decide) (by decide) wm5_80 rfl wm5_91 fun q => ?_
  refine r_astore_n C (lo' := [(3, .ref q), (0, .ref (wAd w (7, 11, 6, 0))), (1, .int a1), (2, .ref (wAd w (14, 13, 0, 0)))]) rfl (by decide) rfl dL_keepReason_12 ?_
  refine r_iconst C (v := 1) rfl dL_keepReason_13 ?_
  exact r_hreturn C dL_keepReason_14
theorem dL_daysUntilPruned_0 : decode cL_daysUntilPruned 0 = .ok (.aload_n 2, 1) := by decide +kernel
theorem dL_daysUntilPruned_1 : decode cL_daysUntilPruned 1 = .ok (.iconst 0, 1) := by decide +kernel
theorem dL_daysUntilPruned_2 : decode cL_daysUntilPruned 2 = .ok (.aload_n 0, 1) := by decide +kernel
theorem dL_daysUntilPruned_3 : decode cL_daysUntilPruned 3 = .ok (.iload_n 1, 1) := by decide +kernel
theorem dL_daysUntilPruned_4 : decode cL_daysUntilPruned 4 = .ok (.invokevirtual 83, 3) := by decide +kernel
theorem dL_daysUntilPruned_7 : decode cL_daysUntilPruned 7 = .ok (.i2l, 1) := by decide +kernel
theorem dL_daysUntilPruned_8 : decode cL_daysUntilPruned 8 = .ok (.lastore, 1) := by decide +kernel
theorem dL_daysUntilPruned_9 : decode cL_daysUntilPruned 9 = .ok (.goto 6, 3) := by decide +kernel
theorem dL_daysUntilPruned_12 : decode cL_daysUntilPruned 12 = .ok (.astore_n 3, 1) := by decide +kernel
theorem dL_daysUntilPruned_13 : decode cL_daysUntilPruned 13 = .ok (.iconst 1, 1) := by decide +kernel
theorem dL_daysUntilPruned_14 : decode cL_daysUntilPruned 14 = .ok (.ireturn, 1) := by decide +kernel
theorem dL_daysUntilPruned_15 : decode cL_daysUntilPruned 15 = .ok (.iconst 0, 1) := by decide +kernel
theorem dL_daysUntilPruned_16 : decode cL_daysUntilPruned 16 = .ok (.ireturn, 1) := by decide +kernel
theorem cwL_daysUntilPruned : Cond.codeWith yL_daysUntilPruned method_24_code 4 (Option.some Jvm.ClassFile.FieldType.int) [(0, 9, 12, 31)] ∈ lw_tbl := in_t6 (List.mem_of_getElem? (i := 6) rfl)
theorem kL_daysUntilPruned {w : WP} (hW : gW w) (hS : gS w) (hO : wFr w (14, 13, 0, 0)) {Ω : OM} {S : Nat → Nat → HV} (e : Ω.1 = S) (N : Nat) (a1 : Int32) {v : Int32} {S' : Nat → Nat → HV} (hF : F_X10_daysUntilPruned N a1 S = some (.inl (v, S'))) : gMh w 8 yL_daysUntilPruned cL_daysUntilPruned 4 (some .int) [(0, 9, 12, 31)] [.ref (wAd w (7, 11, 6, 0)), .int a1, .ref (wAd w (14, 13, 0, 0))] (cA w Ω) (some (.int 0)) (cA w (oAns (S', Ω.2) v.toInt64)) 0 0 := by
  refine gMh_of "HedgeMessagesLaw" rfl (by decide) (kR rfl) fun X C hT9 => ?_
  show gU w X _ _ 0 [(0, .ref (wAd w (7, 11, 6, 0))), (1, .int a1), (2, .ref (wAd w (14, 13, 0, 0)))] []
  refine r_aload_n C (k := 2) rfl rfl dL_daysUntilPruned_0 ?_
  refine r_iconst C (v := 0) rfl dL_daysUntilPruned_1 ?_
  refine r_aload_n C (k := 0) rfl rfl dL_daysUntilPruned_2 ?_
  refine r_iload_n C (k := 1) rfl rfl dL_daysUntilPruned_3 ?_
  refine r_callV C (d' := 7) [.int a1] (c_X10_daysUntilPruned hW hS e N a1 hF rfl) myX10_daysUntilPruned wm6_7 ⟨_, _, _, _, (hW.ok k7), rfl, rfl, rfl, rfl⟩ rfl (kR rfl) (by decide) (kR rfl) rfl dL_daysUntilPruned_4 ?_
  refine r_i2l C (v := v.toInt64) rfl dL_daysUntilPruned_7 ?_
  refine r_last C hW.x hO dL_daysUntilPruned_8 ?_
  refine r_goto C (tgt := 15) rfl dL_daysUntilPruned_9 ?_
  refine r_iconst C (v := 0) rfl dL_daysUntilPruned_15 ?_
  exact r_hreturn C dL_daysUntilPruned_16
theorem xL_daysUntilPruned_3 {w : WP} (hW : gW w) (hS : gS w) (hZ : gZ w) {Ω : OM} {S : Nat → Nat → HV} (e : Ω.1 = S) (N : Nat) (a1 : Int32) {S' : Nat → Nat → HV} (hF : F_X10_daysUntilPruned N a1 S = some (.inr (3, S'))) : gMh w 8 yL_daysUntilPruned cL_daysUntilPruned 4 (some .int) [(0, 9, 12, 31)] [.ref (wAd w (7, 11, 6, 0)), .int a1, .ref (wAd w (14, 13, 0, 0))] (cA w Ω) (some (.int 1)) (cA w (S', Ω.2)) 1 6 := by
  refine gMh_of "HedgeMessagesLaw" rfl (by decide) (kR rfl) fun X C hT9 => ?_
  show gU w X _ _ 0 [(0, .ref (wAd w (7, 11, 6, 0))), (1, .int a1), (2, .ref (wAd w (14, 13, 0, 0)))] []
  refine r_aload_n C (k := 2) rfl rfl dL_daysUntilPruned_0 ?_
  refine r_iconst C (v := 0) rfl dL_daysUntilPruned_1 ?_
  refine r_aload_n C (k := 0) rfl rfl dL_daysUntilPruned_2 ?_
  refine r_iload_n C (k := 1) rfl rfl dL_daysUntilPruned_3 ?_
  refine r_callC C hT9 (d' := 7) (E := xN 3) [.int a1] (x_X10_daysUntilPruned hW hS hZ e N a1 hF rfl) myX10_daysUntilPruned wm6_7 ⟨_, _, _, _, (hW.ok k7), rfl, rfl, rfl, rfl⟩ rfl (kR rfl) (by decide) (kR rfl) rfl dL_daysUntilPruned_4 [] [] ⟨0, 9, 12, 31⟩ rfl (gXt (fun _ h => nomatch h)) (by decide) (by decide) wm5_80 rfl wm5_91 fun q => ?_
  refine r_astore_n C (lo' := [(3, .ref q), (0, .ref (wAd w (7, 11, 6, 0))), (1, .int a1), (2, .ref (wAd w (14, 13, 0, 0)))]) rfl (by decide) rfl dL_daysUntilPruned_12 ?_
  refine r_iconst C (v := 1) rfl dL_daysUntilPruned_13 ?_
  exact r_hreturn C dL_daysUntilPruned_14
theorem dL_deliveredAfter_0 : decode cL_deliveredAfter 0 = .ok (.aload_n 3, 1) := by decide +kernel
theorem dL_deliveredAfter_1 : decode cL_deliveredAfter 1 = .ok (.iconst 0, 1) := by decide +kernel
theorem dL_deliveredAfter_2 : decode cL_deliveredAfter 2 = .ok (.aload_n 0, 1) := by decide +kernel
theorem dL_deliveredAfter_3 : decode cL_deliveredAfter 3 = .ok (.iload_n 1, 1) := by decide +kernel
theorem dL_deliveredAfter_4 : decode cL_deliveredAfter 4 = .ok (.iload_n 2, 1) := by decide +kernel
theorem dL_deliveredAfter_5 : decode cL_deliveredAfter 5 = .ok (.invokevirtual 86, 3) := by decide +kernel
theorem dL_deliveredAfter_8 : decode cL_deliveredAfter 8 = .ok (.i2l, 1) := by decide +kernel
theorem dL_deliveredAfter_9 : decode cL_deliveredAfter 9 = .ok (.lastore, 1) := by decide +kernel
theorem dL_deliveredAfter_10 : decode cL_deliveredAfter 10 = .ok (.goto 7, 3) := by decide +kernel
theorem dL_deliveredAfter_13 : decode cL_deliveredAfter 13 = .ok (.astore 4, 2) := by decide +kernel
theorem dL_deliveredAfter_15 : decode cL_deliveredAfter 15 = .ok (.iconst 1, 1) := by decide +kernel
theorem dL_deliveredAfter_16 : decode cL_deliveredAfter 16 = .ok (.ireturn, 1) := by decide +kernel
theorem dL_deliveredAfter_17 : decode cL_deliveredAfter 17 = .ok (.iconst 0, 1) := by decide +kernel
theorem dL_deliveredAfter_18 : decode cL_deliveredAfter 18 = .ok (.ireturn, 1) := by decide +kernel
theorem cwL_deliveredAfter : Cond.codeWith yL_deliveredAfter method_25_code 5 (Option.some Jvm.ClassFile.FieldType.int) [(0, 10, 13, 19)] ∈ lw_tbl := in_t6 (List.mem_of_getElem? (i := 13) rfl)
theorem kL_deliveredAfter {w : WP} (hW : gW w) (hS : gS w) (hO : wFr w (14, 13, 0, 0)) {Ω : OM} {S : Nat → Nat → HV} (e : Ω.1 = S) (N : Nat) (a1 : Int32) (a2 : Int32) {v : Int32} {S' : Nat → Nat → HV} (hF : F_X10_deliveredAfter N a1 a2 S = some (.inl (v, S'))) : gMh w 8 yL_deliveredAfter cL_deliveredAfter 5 (some .int) [(0, 10, 13, 19)] [.ref (wAd w (7, 11, 6, 0)), .int a1, .int a2, .ref (wAd w (14, 13, 0, 0))] (cA w Ω) (some (.int 0)) (cA w (oAns (S', Ω.2) v.toInt64)) 0 0 := by
  refine gMh_of "HedgeMessagesLaw" rfl (by decide) (kR rfl) fun X C hT9 => ?_
  show gU w X _ _ 0 [(0, .ref (wAd w (7, 11, 6, 0))), (1, .int a1), (2, .int a2), (3, .ref (wAd w (14, 13, 0, 0)))] []
  refine r_aload_n C (k := 3) rfl rfl dL_deliveredAfter_0 ?_
  refine r_iconst C (v := 0) rfl dL_deliveredAfter_1 ?_
  refine r_aload_n C (k := 0) rfl rfl dL_deliveredAfter_2 ?_
  refine r_iload_n C (k := 1) rfl rfl dL_deliveredAfter_3 ?_
  refine r_iload_n C (k := 2) rfl rfl dL_deliveredAfter_4 ?_
  refine r_callV C (d' := 7) [.int a1, .int a2] (c_X10_deliveredAfter hW hS e N a1 a2 hF rfl) myX10_deliveredAfter wm6_14 ⟨_, _, _, _, (hW.ok k7), rfl, rfl, rfl, rfl⟩ rfl (kR rfl) (by decide) (kR rfl) rfl dL_deliveredAfter_5 ?_
  refine r_i2l C (v := v.toInt64) rfl dL_deliveredAfter_8 ?_
  refine r_last C hW.x hO dL_deliveredAfter_9 ?_
  refine r_goto C (tgt := 17) rfl dL_deliveredAfter_10 ?_
  refine r_iconst C (v := 0) rfl dL_deliveredAfter_17 ?_
  exact r_hreturn C dL_deliveredAfter_18
theorem xL_deliveredAfter_2 {w : WP} (hW : gW w) (hS : gS w) (hZ : gZ w) {Ω : OM} {S : Nat → Nat → HV} (e : Ω.1 = S) (N : Nat) (a1 : Int32) (a2 : Int32) {S' : Nat → Nat → HV} (hF : F_X10_deliveredAfter N a1 a2 S = some (.inr (2, S'))) : gMh w 8 yL_deliveredAfter cL_deliveredAfter 5 (some .int) [(0, 10, 13, 19)] [.ref (wAd w (7, 11, 6, 0)), .int a1, .int a2, .ref (wAd w (14, 13, 0, 0))] (cA w Ω) (some (.int 1)) (cA w (S', Ω.2)) 1 6 := by
  refine gMh_of "HedgeMessagesLaw" rfl (by decide) (kR rfl) fun X C hT9 => ?_
  show gU w X _ _ 0 [(0, .ref (wAd w (7, 11, 6, 0))), (1, .int a1), (2, .int a2), (3, .ref (wAd w (14, 13, 0, 0)))] []
  refine r_aload_n C (k := 3) rfl rfl dL_deliveredAfter_0 ?_
  refine r_iconst C (v := 0) rfl dL_deliveredAfter_1 ?_
  refine r_aload_n C (k := 0) rfl rfl dL_deliveredAfter_2 ?_
  refine r_iload_n C (k := 1) rfl rfl dL_deliveredAfter_3 ?_
  refine r_iload_n C (k := 2) rfl rfl dL_deliveredAfter_4 ?_
  refine r_callC C hT9 (d' := 7) (E := xN 2) [.int a1, .int a2] (x_X10_deliveredAfter hW hS hZ e N a1 a2 hF rfl) myX10_deliveredAfter wm6_14 ⟨_, _, _, _, (hW.ok k7), rfl, rfl, rfl, rfl⟩ rfl (kR rfl) (by decide) (kR rfl) rfl dL_deliveredAfter_5 [] [] ⟨0, 10, 13, 19⟩ rfl (gXt (fun _ h => nomatch h)) (by decide) (by decide) wm3_234 rfl wm4_1 fun q => ?_
  refine r_astore C (lo' := [(4, .ref q), (0, .ref (wAd w (7, 11, 6, 0))), (1, .int a1), (2, .int a2), (3, .ref (wAd w (14, 13, 0, 0)))]) (by decide) rfl dL_deliveredAfter_13 ?_
  refine r_iconst C (v := 1) rfl dL_deliveredAfter_15 ?_
  exact r_hreturn C dL_deliveredAfter_16
theorem dL_pendingAfter_0 : decode cL_pendingAfter 0 = .ok (.aload_n 3, 1) := by decide +kernel
theorem dL_pendingAfter_1 : decode cL_pendingAfter 1 = .ok (.iconst 0, 1) := by decide +kernel
theorem dL_pendingAfter_2 : decode cL_pendingAfter 2 = .ok (.aload_n 0, 1) := by decide +kernel
theorem dL_pendingAfter_3 : decode cL_pendingAfter 3 = .ok (.iload_n 1, 1) := by decide +kernel
theorem dL_pendingAfter_4 : decode cL_pendingAfter 4 = .ok (.iload_n 2, 1) := by decide +kernel
theorem dL_pendingAfter_5 : decode cL_pendingAfter 5 = .ok (.invokevirtual 90, 3) := by decide +kernel
theorem dL_pendingAfter_8 : decode cL_pendingAfter 8 = .ok (.i2l, 1) := by decide +kernel
theorem dL_pendingAfter_9 : decode cL_pendingAfter 9 = .ok (.lastore, 1) := by decide +kernel
theorem dL_pendingAfter_10 : decode cL_pendingAfter 10 = .ok (.goto 7, 3) := by decide +kernel
theorem dL_pendingAfter_13 : decode cL_pendingAfter 13 = .ok (.astore 4, 2) := by decide +kernel
theorem dL_pendingAfter_15 : decode cL_pendingAfter 15 = .ok (.iconst 1, 1) := by decide +kernel
theorem dL_pendingAfter_16 : decode cL_pendingAfter 16 = .ok (.ireturn, 1) := by decide +kernel
theorem dL_pendingAfter_17 : decode cL_pendingAfter 17 = .ok (.iconst 0, 1) := by decide +kernel
theorem dL_pendingAfter_18 : decode cL_pendingAfter 18 = .ok (.ireturn, 1) := by decide +kernel
theorem cwL_pendingAfter : Cond.codeWith yL_pendingAfter method_26_code 5 (Option.some Jvm.ClassFile.FieldType.int) [(0, 10, 13, 19)] ∈ lw_tbl := in_t6 (List.mem_of_getElem? (i := 28) rfl)
theorem kL_pendingAfter {w : WP} (hW : gW w) (hS : gS w) (hO : wFr w (14, 13, 0, 0)) {Ω : OM} {S : Nat → Nat → HV} (e : Ω.1 = S) (N : Nat) (a1 : Int32) (a2 : Int32) {v : Int32} {S' : Nat → Nat → HV} (hF : F_X10_pendingAfter N a1 a2 S = some (.inl (v, S'))) : gMh w 8 yL_pendingAfter cL_pendingAfter 5 (some .int) [(0, 10, 13, 19)] [.ref (wAd w (7, 11, 6, 0)), .int a1, .int a2, .ref (wAd w (14, 13, 0, 0))] (cA w Ω) (some (.int 0)) (cA w (oAns (S', Ω.2) v.toInt64)) 0 0 := by
  refine gMh_of "HedgeMessagesLaw" rfl (by decide) (kR rfl) fun X C hT9 => ?_
  show gU w X _ _ 0 [(0, .ref (wAd w (7, 11, 6, 0))), (1, .int a1), (2, .int a2), (3, .ref (wAd w (14, 13, 0, 0)))] []
  refine r_aload_n C (k := 3) rfl rfl dL_pendingAfter_0 ?_
  refine r_iconst C (v := 0) rfl dL_pendingAfter_1 ?_
  refine r_aload_n C (k := 0) rfl rfl dL_pendingAfter_2 ?_
  refine r_iload_n C (k := 1) rfl rfl dL_pendingAfter_3 ?_
  refine r_iload_n C (k := 2) rfl rfl dL_pendingAfter_4 ?_
  refine r_callV C (d' := 7) [.int a1, .int a2] (c_X10_pendingAfter hW hS e N a1 a2 hF rfl) myX10_pendingAfter wm6_29 ⟨_, _, _, _, (hW.ok k7), rfl, rfl, rfl, rfl⟩ rfl (kR rfl) (by decide) (kR rfl) rfl dL_pendingAfter_5 ?_
  refine r_i2l C (v := v.toInt64) rfl dL_pendingAfter_8 ?_
  refine r_last C hW.x hO dL_pendingAfter_9 ?_
  refine r_goto C (tgt := 17) rfl dL_pendingAfter_10 ?_
  refine r_iconst C (v := 0) rfl dL_pendingAfter_17 ?_
  exact r_hreturn C dL_pendingAfter_18
theorem xL_pendingAfter_2 {w : WP} (hW : gW w) (hS : gS w) (hZ : gZ w) {Ω : OM} {S : Nat → Nat → HV} (e : Ω.1 = S) (N : Nat) (a1 : Int32) (a2 : Int32) {S' : Nat → Nat → HV} (hF : F_X10_pendingAfter N a1 a2 S = some (.inr (2, S'))) : gMh w 8 yL_pendingAfter cL_pendingAfter 5 (some .int) [(0, 10, 13, 19)] [.ref (wAd w (7, 11, 6, 0)), .int a1, .int a2, .ref (wAd w (14, 13, 0, 0))] (cA w Ω) (some (.int 1)) (cA w (S', Ω.2)) 1 6 := by
  refine gMh_of "HedgeMessagesLaw" rfl (by decide) (kR rfl) fun X C hT9 => ?_
  show gU w X _ _ 0 [(0, .ref (wAd w (7, 11, 6, 0))), (1, .int a1), (2, .int a2), (3, .ref (wAd w (14, 13, 0, 0)))] []
  refine r_aload_n C (k := 3) rfl rfl dL_pendingAfter_0 ?_
  refine r_iconst C (v := 0) rfl dL_pendingAfter_1 ?_
  refine r_aload_n C (k := 0) rfl rfl dL_pendingAfter_2 ?_
  refine r_iload_n C (k := 1) rfl rfl dL_pendingAfter_3 ?_
  refine r_iload_n C (k := 2) rfl rfl dL_pendingAfter_4 ?_
  refine r_callC C hT9 (d' := 7) (E := xN 2) [.int a1, .int a2] (x_X10_pendingAfter hW hS hZ e N a1 a2 hF rfl) myX10_pendingAfter wm6_29 ⟨_, _, _, _, (hW.ok k7), rfl, rfl, rfl, rfl⟩ rfl (kR rfl) (by decide) (kR rfl) rfl dL_pendingAfter_5 [] [] ⟨0, 10, 13, 19⟩ rfl (gXt (fun _ h => nomatch h)) (by decide) (by decide) wm3_234 rfl wm4_1 fun q => ?_
  refine r_astore C (lo' := [(4, .ref q), (0, .ref (wAd w (7, 11, 6, 0))), (1, .int a1), (2, .int a2), (3, .ref (wAd w (14, 13, 0, 0)))]) (by decide) rfl dL_pendingAfter_13 ?_
  refine r_iconst C (v := 1) rfl dL_pendingAfter_15 ?_
  exact r_hreturn C dL_pendingAfter_16
theorem dL_leastWorkLimit_0 : decode cL_leastWorkLimit 0 = .ok (.aload_n 3, 1) := by decide +kernel
theorem dL_leastWorkLimit_1 : decode cL_leastWorkLimit 1 = .ok (.iconst 0, 1) := by decide +kernel
theorem dL_leastWorkLimit_2 : decode cL_leastWorkLimit 2 = .ok (.aload_n 0, 1) := by decide +kernel
theorem dL_leastWorkLimit_3 : decode cL_leastWorkLimit 3 = .ok (.iload_n 1, 1) := by decide +kernel
theorem dL_leastWorkLimit_4 : decode cL_leastWorkLimit 4 = .ok (.iload_n 2, 1) := by decide +kernel
theorem dL_leastWorkLimit_5 : decode cL_leastWorkLimit 5 = .ok (.invokevirtual 93, 3) := by decide +kernel
theorem dL_leastWorkLimit_8 : decode cL_leastWorkLimit 8 = .ok (.i2l, 1) := by decide +kernel
theorem dL_leastWorkLimit_9 : decode cL_leastWorkLimit 9 = .ok (.lastore, 1) := by decide +kernel
theorem dL_leastWorkLimit_10 : decode cL_leastWorkLimit 10 = .ok (.goto 7, 3) := by decide +kernel
theorem dL_leastWorkLimit_13 : decode cL_leastWorkLimit 13 = .ok (.astore 4, 2) := by decide +kernel
theorem dL_leastWorkLimit_15 : decode cL_leastWorkLimit 15 = .ok (.iconst 1, 1) := by decide +kernel
theorem dL_leastWorkLimit_16 : decode cL_leastWorkLimit 16 = .ok (.ireturn, 1) := by decide +kernel
theorem dL_leastWorkLimit_17 : decode cL_leastWorkLimit 17 = .ok (.iconst 0, 1) := by decide +kernel
theorem dL_leastWorkLimit_18 : decode cL_leastWorkLimit 18 = .ok (.ireturn, 1) := by decide +kernel
theorem cwL_leastWorkLimit : Cond.codeWith yL_leastWorkLimit method_27_code 5 (Option.some Jvm.ClassFile.FieldType.int) [(0, 10, 13, 19)] ∈ lw_tbl := in_t6 (List.mem_of_getElem? (i := 35) rfl)
theorem kL_leastWorkLimit {w : WP} (hW : gW w) (hS : gS w) (hO : wFr w (14, 13, 0, 0)) {Ω : OM} {S : Nat → Nat → HV} (e : Ω.1 = S) (N : Nat) (a1 : Int32) (a2 : Int32) {v : Int32} {S' : Nat → Nat → HV} (hF : F_X10_leastWorkLimit N a1 a2 S = some (.inl (v, S'))) : gMh w 8 yL_leastWorkLimit cL_leastWorkLimit 5 (some .int) [(0, 10, 13, 19)] [.ref (wAd w (7, 11, 6, 0)), .int a1, .int a2, .ref (wAd w (14, 13, 0, 0))] (cA w Ω) (some (.int 0)) (cA w (oAns (S', Ω.2) v.toInt64)) 0 0 := by
  refine gMh_of "HedgeMessagesLaw" rfl (by decide) (kR rfl) fun X C hT9 => ?_
  show gU w X _ _ 0 [(0, .ref (wAd w (7, 11, 6, 0))), (1, .int a1), (2, .int a2), (3, .ref (wAd w (14, 13, 0, 0)))] []
  refine r_aload_n C (k := 3) rfl rfl dL_leastWorkLimit_0 ?_
  refine r_iconst C (v := 0) rfl dL_leastWorkLimit_1 ?_
  refine r_aload_n C (k := 0) rfl rfl dL_leastWorkLimit_2 ?_
  refine r_iload_n C (k := 1) rfl rfl dL_leastWorkLimit_3 ?_
  refine r_iload_n C (k := 2) rfl rfl dL_leastWorkLimit_4 ?_
  refine r_callV C (d' := 7) [.int a1, .int a2] (c_X10_leastWorkLimit hW hS e N a1 a2 hF rfl) myX10_leastWorkLimit wm6_36 ⟨_, _, _, _, (hW.ok k7), rfl, rfl, rfl, rfl⟩ rfl (kR rfl) (by decide) (kR rfl) rfl dL_leastWorkLimit_5 ?_
  refine r_i2l C (v := v.toInt64) rfl dL_leastWorkLimit_8 ?_
  refine r_last C hW.x hO dL_leastWorkLimit_9 ?_
  refine r_goto C (tgt := 17) rfl dL_leastWorkLimit_10 ?_
  refine r_iconst C (v := 0) rfl dL_leastWorkLimit_17 ?_
  exact r_hreturn C dL_leastWorkLimit_18
theorem xL_leastWorkLimit_2 {w : WP} (hW : gW w) (hS : gS w) (hZ : gZ w) {Ω : OM} {S : Nat → Nat → HV} (e : Ω.1 = S) (N : Nat) (a1 : Int32) (a2 : Int32) {S' : Nat → Nat → HV} (hF : F_X10_leastWorkLimit N a1 a2 S = some (.inr (2, S'))) : gMh w 8 yL_leastWorkLimit cL_leastWorkLimit 5 (some .int) [(0, 10, 13, 19)] [.ref (wAd w (7, 11, 6, 0)), .int a1, .int a2, .ref (wAd w (14, 13, 0, 0))] (cA w Ω) (some (.int 1)) (cA w (S', Ω.2)) 1 6 := by
  refine gMh_of "HedgeMessagesLaw" rfl (by decide) (kR rfl) fun X C hT9 => ?_
  show gU w X _ _ 0 [(0, .ref (wAd w (7, 11, 6, 0))), (1, .int a1), (2, .int a2), (3, .ref (wAd w (14, 13, 0, 0)))] []
  refine r_aload_n C (k := 3) rfl rfl dL_leastWorkLimit_0 ?_
  refine r_iconst C (v := 0) rfl dL_leastWorkLimit_1 ?_
  refine r_aload_n C (k := 0) rfl rfl dL_leastWorkLimit_2 ?_
  refine r_iload_n C (k := 1) rfl rfl dL_leastWorkLimit_3 ?_
  refine r_iload_n C (k := 2) rfl rfl dL_leastWorkLimit_4 ?_
  refine r_callC C hT9 (d' := 7) (E := xN 2) [.int a1, .int a2] (x_X10_leastWorkLimit hW hS hZ e N a1 a2 hF rfl) myX10_leastWorkLimit wm6_36 ⟨_, _, _, _, (hW.ok k7), rfl, rfl, rfl, rfl⟩ rfl (kR rfl) (by decide) (kR rfl) rfl dL_leastWorkLimit_5 [] [] ⟨0, 10, 13, 19⟩ rfl (gXt (fun _ h => nomatch h)) (by decide) (by decide) wm3_234 rfl wm4_1 fun q => ?_
  refine r_astore C (lo' := [(4, .ref q), (0, .ref (wAd w (7, 11, 6, 0))), (1, .int a1), (2, .int a2), (3, .ref (wAd w (14, 13, 0, 0)))]) (by decide) rfl dL_leastWorkLimit_13 ?_
  refine r_iconst C (v := 1) rfl dL_leastWorkLimit_15 ?_
  exact r_hreturn C dL_leastWorkLimit_16
theorem dL_messagesQueued_0 : decode cL_messagesQueued 0 = .ok (.aload_n 2, 1) := by decide +kernel
theorem dL_messagesQueued_1 : decode cL_messagesQueued 1 = .ok (.iconst 0, 1) := by decide +kernel
theorem dL_messagesQueued_2 : decode cL_messagesQueued 2 = .ok (.aload_n 0, 1) := by decide +kernel
theorem dL_messagesQueued_3 : decode cL_messagesQueued 3 = .ok (.iload_n 1, 1) := by decide +kernel
theorem dL_messagesQueued_4 : decode cL_messagesQueued 4 = .ok (.invokevirtual 96, 3) := by decide +kernel
theorem dL_messagesQueued_7 : decode cL_messagesQueued 7 = .ok (.i2l, 1) := by decide +kernel
theorem dL_messagesQueued_8 : decode cL_messagesQueued 8 = .ok (.lastore, 1) := by decide +kernel
theorem dL_messagesQueued_9 : decode cL_messagesQueued 9 = .ok (.goto 6, 3) := by decide +kernel
theorem dL_messagesQueued_12 : decode cL_messagesQueued 12 = .ok (.astore_n 3, 1) := by decide +kernel
theorem dL_messagesQueued_13 : decode cL_messagesQueued 13 = .ok (.iconst 1, 1) := by decide +kernel
theorem dL_messagesQueued_14 : decode cL_messagesQueued 14 = .ok (.ireturn, 1) := by decide +kernel
theorem dL_messagesQueued_15 : decode cL_messagesQueued 15 = .ok (.iconst 0, 1) := by decide +kernel
theorem dL_messagesQueued_16 : decode cL_messagesQueued 16 = .ok (.ireturn, 1) := by decide +kernel
theorem cwL_messagesQueued : Cond.codeWith yL_messagesQueued method_28_code 4 (Option.some Jvm.ClassFile.FieldType.int) [(0, 9, 12, 19)] ∈ lw_tbl := in_t6 (List.mem_of_getElem? (i := 51) rfl)
theorem kL_messagesQueued {w : WP} (hW : gW w) (hS : gS w) (hO : wFr w (14, 13, 0, 0)) {Ω : OM} {S : Nat → Nat → HV} (e : Ω.1 = S) (a1 : Int32) {v : Int32} (hF : F_X10_messagesQueued a1 S = some (.inl v)) : gMh w 8 yL_messagesQueued cL_messagesQueued 4 (some .int) [(0, 9, 12, 19)] [.ref (wAd w (7, 11, 6, 0)), .int a1, .ref (wAd w (14, 13, 0, 0))] (cA w Ω) (some (.int 0)) (cA w (oAns Ω v.toInt64)) 0 0 := by
  refine gMh_of "HedgeMessagesLaw" rfl (by decide) (kR rfl) fun X C hT9 => ?_
  show gU w X _ _ 0 [(0, .ref (wAd w (7, 11, 6, 0))), (1, .int a1), (2, .ref (wAd w (14, 13, 0, 0)))] []
  refine r_aload_n C (k := 2) rfl rfl dL_messagesQueued_0 ?_
  refine r_iconst C (v := 0) rfl dL_messagesQueued_1 ?_
  refine r_aload_n C (k := 0) rfl rfl dL_messagesQueued_2 ?_
  refine r_iload_n C (k := 1) rfl rfl dL_messagesQueued_3 ?_
  refine r_callV C (d' := 7) [.int a1] (c_X10_messagesQueued hW hS e a1 hF) myX10_messagesQueued wm6_52 ⟨_, _, _, _, (hW.ok k7), rfl, rfl, rfl, rfl⟩ rfl (kR rfl) (by decide) (kR rfl) rfl dL_messagesQueued_4 ?_
  refine r_i2l C (v := v.toInt64) rfl dL_messagesQueued_7 ?_
  refine r_last C hW.x hO dL_messagesQueued_8 ?_
  refine r_goto C (tgt := 15) rfl dL_messagesQueued_9 ?_
  refine r_iconst C (v := 0) rfl dL_messagesQueued_15 ?_
  exact r_hreturn C dL_messagesQueued_16
theorem xL_messagesQueued_2 {w : WP} (hW : gW w) (hS : gS w) (hZ : gZ w) {Ω : OM} {S : Nat → Nat → HV} (e : Ω.1 = S) (a1 : Int32) (hF : F_X10_messagesQueued a1 S = some (.inr 2)) : gMh w 8 yL_messagesQueued cL_messagesQueued 4 (some .int) [(0, 9, 12, 19)] [.ref (wAd w (7, 11, 6, 0)), .int a1, .ref (wAd w (14, 13, 0, 0))] (cA w Ω) (some (.int 1)) (cA w Ω) 1 6 := by
  refine gMh_of "HedgeMessagesLaw" rfl (by decide) (kR rfl) fun X C hT9 => ?_
  show gU w X _ _ 0 [(0, .ref (wAd w (7, 11, 6, 0))), (1, .int a1), (2, .ref (wAd w (14, 13, 0, 0)))] []
  refine r_aload_n C (k := 2) rfl rfl dL_messagesQueued_0 ?_
  refine r_iconst C (v := 0) rfl dL_messagesQueued_1 ?_
  refine r_aload_n C (k := 0) rfl rfl dL_messagesQueued_2 ?_
  refine r_iload_n C (k := 1) rfl rfl dL_messagesQueued_3 ?_
  refine r_callC C hT9 (d' := 7) (E := xN 2) [.int a1] (x_X10_messagesQueued hW hS hZ e a1 hF) myX10_messagesQueued wm6_52 ⟨_, _, _, _, (hW.ok k7), rfl, rfl, rfl, rfl⟩ rfl (kR rfl) (by decide) (kR rfl) rfl dL_messagesQueued_4 [] [] ⟨0, 9, 12, 19⟩ rfl (gXt (fun _ h => nomatch h)) (by decide) (by decide) wm3_234 rfl wm4_1 fun q => ?_
  refine r_astore_n C (lo' := [(3, .ref q), (0, .ref (wAd w (7, 11, 6, 0))), (1, .int a1), (2, .ref (wAd w (14, 13, 0, 0)))]) rfl (by decide) rfl dL_messagesQueued_12 ?_
  refine r_iconst C (v := 1) rfl dL_messagesQueued_13 ?_
  exact r_hreturn C dL_messagesQueued_14
theorem dL_messagesDelivered_0 : decode cL_messagesDelivered 0 = .ok (.aload_n 2, 1) := by decide +kernel
theorem dL_messagesDelivered_1 : decode cL_messagesDelivered 1 = .ok (.iconst 0, 1) := by decide +kernel
theorem dL_messagesDelivered_2 : decode cL_messagesDelivered 2 = .ok (.aload_n 0, 1) := by decide +kernel
theorem dL_messagesDelivered_3 : decode cL_messagesDelivered 3 = .ok (.iload_n 1, 1) := by decide +kernel
theorem dL_messagesDelivered_4 : decode cL_messagesDelivered 4 = .ok (.invokevirtual 99, 3) := by decide +kernel
theorem dL_messagesDelivered_7 : decode cL_messagesDelivered 7 = .ok (.i2l, 1) := by decide +kernel
theorem dL_messagesDelivered_8 : decode cL_messagesDelivered 8 = .ok (.lastore, 1) := by decide +kernel
theorem dL_messagesDelivered_9 : decode cL_messagesDelivered 9 = .ok (.goto 6, 3) := by decide +kernel
theorem dL_messagesDelivered_12 : decode cL_messagesDelivered 12 = .ok (.astore_n 3, 1) := by decide +kernel
theorem dL_messagesDelivered_13 : decode cL_messagesDelivered 13 = .ok (.iconst 1, 1) := by decide +kernel
theorem dL_messagesDelivered_14 : decode cL_messagesDelivered 14 = .ok (.ireturn, 1) := by decide +kernel
theorem dL_messagesDelivered_15 : decode cL_messagesDelivered 15 = .ok (.iconst 0, 1) := by decide +kernel
theorem dL_messagesDelivered_16 : decode cL_messagesDelivered 16 = .ok (.ireturn, 1) := by decide +kernel
theorem cwL_messagesDelivered : Cond.codeWith yL_messagesDelivered method_29_code 4 (Option.some Jvm.ClassFile.FieldType.int) [(0, 9, 12, 19)] ∈ lw_tbl := in_t6 (List.mem_of_getElem? (i := 58) rfl)
theorem kL_messagesDelivered {w : WP} (hW : gW w) (hS : gS w) (hO : wFr w (14, 13, 0, 0)) {Ω : OM} {S : Nat → Nat → HV} (e : Ω.1 = S) (a1 : Int32) {v : Int32} (hF : F_X10_messagesDelivered a1 S = some (.inl v)) : gMh w 8 yL_messagesDelivered cL_messagesDelivered 4 (some .int) [(0, 9, 12, 19)] [.ref (wAd w (7, 11, 6, 0)), .int a1, .ref (wAd w (14, 13, 0, 0))] (cA w Ω) (some (.int 0)) (cA w (oAns Ω v.toInt64)) 0 0 := by
  refine gMh_of "HedgeMessagesLaw" rfl (by decide) (kR rfl) fun X C hT9 => ?_
  show gU w X _ _ 0 [(0, .ref (wAd w (7, 11, 6, 0))), (1, .int a1), (2, .ref (wAd w (14, 13, 0, 0)))] []
  refine r_aload_n C (k := 2) rfl rfl dL_messagesDelivered_0 ?_
  refine r_iconst C (v := 0) rfl dL_messagesDelivered_1 ?_
  refine r_aload_n C (k := 0) rfl rfl dL_messagesDelivered_2 ?_
  refine r_iload_n C (k := 1) rfl rfl dL_messagesDelivered_3 ?_
  refine r_callV C (d' := 7) [.int a1] (c_X10_messagesDelivered hW hS e a1 hF) myX10_messagesDelivered wm6_59 ⟨_, _, _, _, (hW.ok k7), rfl, rfl, rfl, rfl⟩ rfl (kR rfl) (by decide) (kR rfl) rfl dL_messagesDelivered_4 ?_
  refine r_i2l C (v := v.toInt64) rfl dL_messagesDelivered_7 ?_
  refine r_last C hW.x hO dL_messagesDelivered_8 ?_
  refine r_goto C (tgt := 15) rfl dL_messagesDelivered_9 ?_
  refine r_iconst C (v := 0) rfl dL_messagesDelivered_15 ?_
  exact r_hreturn C dL_messagesDelivered_16
theorem xL_messagesDelivered_2 {w : WP} (hW : gW w) (hS : gS w) (hZ : gZ w) {Ω : OM} {S : Nat → Nat → HV} (e : Ω.1 = S) (a1 : Int32) (hF : F_X10_messagesDelivered a1 S = some (.inr 2)) : gMh w 8 yL_messagesDelivered cL_messagesDelivered 4 (some .int) [(0, 9, 12, 19)] [.ref (wAd w (7, 11, 6, 0)), .int a1, .ref (wAd w (14, 13, 0, 0))] (cA w Ω) (some (.int 1)) (cA w Ω) 1 6 := by
  refine gMh_of "HedgeMessagesLaw" rfl (by decide) (kR rfl) fun X C hT9 => ?_
  show gU w X _ _ 0 [(0, .ref (wAd w (7, 11, 6, 0))), (1, .int a1), (2, .ref (wAd w (14, 13, 0, 0)))] []
  refine r_aload_n C (k := 2) rfl rfl dL_messagesDelivered_0 ?_
  refine r_iconst C (v := 0) rfl dL_messagesDelivered_1 ?_
  refine r_aload_n C (k := 0) rfl rfl dL_messagesDelivered_2 ?_
  refine r_iload_n C (k := 1) rfl rfl dL_messagesDelivered_3 ?_
  refine r_callC C hT9 (d' := 7) (E := xN 2) [.int a1] (x_X10_messagesDelivered hW hS hZ e a1 hF) myX10_messagesDelivered wm6_59 ⟨_, _, _, _, (hW.ok k7), rfl, rfl, rfl, rfl⟩ rfl (kR rfl) (by decide) (kR rfl) rfl dL_messagesDelivered_4 [] [] ⟨0, 9, 12, 19⟩ rfl (gXt (fun _ h => nomatch h)) (by decide) (by decide) wm3_234 rfl wm4_1 fun q => ?_
  refine r_astore_n C (lo' := [(3, .ref q), (0, .ref (wAd w (7, 11, 6, 0))), (1, .int a1), (2, .ref (wAd w (14, 13, 0, 0)))]) rfl (by decide) rfl dL_messagesDelivered_12 ?_
  refine r_iconst C (v := 1) rfl dL_messagesDelivered_13 ?_
  exact r_hreturn C dL_messagesDelivered_14
theorem dL_messagesFailed_0 : decode cL_messagesFailed 0 = .ok (.aload_n 2, 1) := by decide +kernel
theorem dL_messagesFailed_1 : decode cL_messagesFailed 1 = .ok (.iconst 0, 1) := by decide +kernel
theorem dL_messagesFailed_2 : decode cL_messagesFailed 2 = .ok (.aload_n 0, 1) := by decide +kernel
theorem dL_messagesFailed_3 : decode cL_messagesFailed 3 = .ok (.iload_n 1, 1) := by decide +kernel
theorem dL_messagesFailed_4 : decode cL_messagesFailed 4 = .ok (.invokevirtual 102, 3) := by decide +kernel
theorem dL_messagesFailed_7 : decode cL_messagesFailed 7 = .ok (.i2l, 1) := by decide +kernel
theorem dL_messagesFailed_8 : decode cL_messagesFailed 8 = .ok (.lastore, 1) := by decide +kernel
theorem dL_messagesFailed_9 : decode cL_messagesFailed 9 = .ok (.goto 6, 3) := by decide +kernel
theorem dL_messagesFailed_12 : decode cL_messagesFailed 12 = .ok (.astore_n 3, 1) := by decide +kernel
theorem dL_messagesFailed_13 : decode cL_messagesFailed 13 = .ok (.iconst 1, 1) := by decide +kernel
theorem dL_messagesFailed_14 : decode cL_messagesFailed 14 = .ok (.ireturn, 1) := by decide +kernel
theorem dL_messagesFailed_15 : decode cL_messagesFailed 15 = .ok (.iconst 0, 1) := by decide +kernel
theorem dL_messagesFailed_16 : decode cL_messagesFailed 16 = .ok (.ireturn, 1) := by decide +kernel
theorem cwL_messagesFailed : Cond.codeWith yL_messagesFailed method_30_code 4 (Option.some Jvm.ClassFile.FieldType.int) [(0, 9, 12, 19)] ∈ lw_tbl := in_t6 (List.mem_of_getElem? (i := 65) rfl)
theorem kL_messagesFailed {w : WP} (hW : gW w) (hS : gS w) (hO : wFr w (14, 13, 0, 0)) {Ω : OM} {S : Nat → Nat → HV} (e : Ω.1 = S) (a1 : Int32) {v : Int32} (hF : F_X10_messagesFailed a1 S = some (.inl v)) : gMh w 8 yL_messagesFailed cL_messagesFailed 4 (some .int) [(0, 9, 12, 19)] [.ref (wAd w (7, 11, 6, 0)), .int a1, .ref (wAd w (14, 13, 0, 0))] (cA w Ω) (some (.int 0)) (cA w (oAns Ω v.toInt64)) 0 0 := by
  refine gMh_of "HedgeMessagesLaw" rfl (by decide) (kR rfl) fun X C hT9 => ?_
  show gU w X _ _ 0 [(0, .ref (wAd w (7, 11, 6, 0))), (1, .int a1), (2, .ref (wAd w (14, 13, 0, 0)))] []
  refine r_aload_n C (k := 2) rfl rfl dL_messagesFailed_0 ?_
  refine r_iconst C (v := 0) rfl dL_messagesFailed_1 ?_
  refine r_aload_n C (k := 0) rfl rfl dL_messagesFailed_2 ?_
  refine r_iload_n C (k := 1) rfl rfl dL_messagesFailed_3 ?_
  refine r_callV C (d' := 7) [.int a1] (c_X10_messagesFailed hW hS e a1 hF) myX10_messagesFailed wm6_66 ⟨_, _, _, _, (hW.ok k7), rfl, rfl, rfl, rfl⟩ rfl (kR rfl) (by decide) (kR rfl) rfl dL_messagesFailed_4 ?_
  refine r_i2l C (v := v.toInt64) rfl dL_messagesFailed_7 ?_
  refine r_last C hW.x hO dL_messagesFailed_8 ?_
  refine r_goto C (tgt := 15) rfl dL_messagesFailed_9 ?_
  refine r_iconst C (v := 0) rfl dL_messagesFailed_15 ?_
  exact r_hreturn C dL_messagesFailed_16
theorem xL_messagesFailed_2 {w : WP} (hW : gW w) (hS : gS w) (hZ : gZ w) {Ω : OM} {S : Nat → Nat → HV} (e : Ω.1 = S) (a1 : Int32) (hF : F_X10_messagesFailed a1 S = some (.inr 2)) : gMh w 8 yL_messagesFailed cL_messagesFailed 4 (some .int) [(0, 9, 12, 19)] [.ref (wAd w (7, 11, 6, 0)), .int a1, .ref (wAd w (14, 13, 0, 0))] (cA w Ω) (some (.int 1)) (cA w Ω) 1 6 := by
  refine gMh_of "HedgeMessagesLaw" rfl (by decide) (kR rfl) fun X C hT9 => ?_
  show gU w X _ _ 0 [(0, .ref (wAd w (7, 11, 6, 0))), (1, .int a1), (2, .ref (wAd w (14, 13, 0, 0)))] []
  refine r_aload_n C (k := 2) rfl rfl dL_messagesFailed_0 ?_
  refine r_iconst C (v := 0) rfl dL_messagesFailed_1 ?_
  refine r_aload_n C (k := 0) rfl rfl dL_messagesFailed_2 ?_
  refine r_iload_n C (k := 1) rfl rfl dL_messagesFailed_3 ?_
  refine r_callC C hT9 (d' := 7) (E := xN 2) [.int a1] (x_X10_messagesFailed hW hS hZ e a1 hF) myX10_messagesFailed wm6_66 ⟨_, _, _, _, (hW.ok k7), rfl, rfl, rfl, rfl⟩ rfl (kR rfl) (by decide) (kR rfl) rfl dL_messagesFailed_4 [] [] ⟨0, 9, 12, 19⟩ rfl (gXt (fun _ h => nomatch h)) (by decide) (by decide) wm3_234 rfl wm4_1 fun q => ?_
  refine r_astore_n C (lo' := [(3, .ref q), (0, .ref (wAd w (7, 11, 6, 0))), (1, .int a1), (2, .ref (wAd w (14, 13, 0, 0)))]) rfl (by decide) rfl dL_messagesFailed_12 ?_
  refine r_iconst C (v := 1) rfl dL_messagesFailed_13 ?_
  exact r_hreturn C dL_messagesFailed_14
theorem dL_messagesDropped_0 : decode cL_messagesDropped 0 = .ok (.aload_n 2, 1) := by decide +kernel
theorem dL_messagesDropped_1 : decode cL_messagesDropped 1 = .ok (.iconst 0, 1) := by decide +kernel
theorem dL_messagesDropped_2 : decode cL_messagesDropped 2 = .ok (.aload_n 0, 1) := by decide +kernel
theorem dL_messagesDropped_3 : decode cL_messagesDropped 3 = .ok (.iload_n 1, 1) := by decide +kernel
theorem dL_messagesDropped_4 : decode cL_messagesDropped 4 = .ok (.invokevirtual 105, 3) := by decide +kernel
theorem dL_messagesDropped_7 : decode cL_messagesDropped 7 = .ok (.i2l, 1) := by decide +kernel
theorem dL_messagesDropped_8 : decode cL_messagesDropped 8 = .ok (.lastore, 1) := by decide +kernel
theorem dL_messagesDropped_9 : decode cL_messagesDropped 9 = .ok (.goto 6, 3) := by decide +kernel
theorem dL_messagesDropped_12 : decode cL_messagesDropped 12 = .ok (.astore_n 3, 1) := by decide +kernel
theorem dL_messagesDropped_13 : decode cL_messagesDropped 13 = .ok (.iconst 1, 1) := by decide +kernel
theorem dL_messagesDropped_14 : decode cL_messagesDropped 14 = .ok (.ireturn, 1) := by decide +kernel
theorem dL_messagesDropped_15 : decode cL_messagesDropped 15 = .ok (.iconst 0, 1) := by decide +kernel
theorem dL_messagesDropped_16 : decode cL_messagesDropped 16 = .ok (.ireturn, 1) := by decide +kernel
theorem cwL_messagesDropped : Cond.codeWith yL_messagesDropped method_31_code 4 (Option.some Jvm.ClassFile.FieldType.int) [(0, 9, 12, 19)] ∈ lw_tbl := in_t6 (List.mem_of_getElem? (i := 72) rfl)
theorem kL_messagesDropped {w : WP} (hW : gW w) (hS : gS w) (hO : wFr w (14, 13, 0, 0)) {Ω : OM} {S : Nat → Nat → HV} (e : Ω.1 = S) (a1 : Int32) {v : Int32} (hF : F_X10_messagesDropped a1 S = some (.inl v)) : gMh w 8 yL_messagesDropped cL_messagesDropped 4 (some .int) [(0, 9, 12, 19)] [.ref (wAd w (7, 11, 6, 0)), .int a1, .ref (wAd w (14, 13, 0, 0))] (cA w Ω) (some (.int 0)) (cA w (oAns Ω v.toInt64)) 0 0 := by
  refine gMh_of "HedgeMessagesLaw" rfl (by decide) (kR rfl) fun X C hT9 => ?_
  show gU w X _ _ 0 [(0, .ref (wAd w (7, 11, 6, 0))), (1, .int a1), (2, .ref (wAd w (14, 13, 0, 0)))] []
  refine r_aload_n C (k := 2) rfl rfl dL_messagesDropped_0 ?_
  refine r_iconst C (v := 0) rfl dL_messagesDropped_1 ?_
  refine r_aload_n C (k := 0) rfl rfl dL_messagesDropped_2 ?_
  refine r_iload_n C (k := 1) rfl rfl dL_messagesDropped_3 ?_
  refine r_callV C (d' := 7) [.int a1] (c_X10_messagesDropped hW hS e a1 hF) myX10_messagesDropped wm6_73 ⟨_, _, _, _, (hW.ok k7), rfl, rfl, rfl, rfl⟩ rfl (kR rfl) (by decide) (kR rfl) rfl dL_messagesDropped_4 ?_
  refine r_i2l C (v := v.toInt64) rfl dL_messagesDropped_7 ?_
  refine r_last C hW.x hO dL_messagesDropped_8 ?_
  refine r_goto C (tgt := 15) rfl dL_messagesDropped_9 ?_
  refine r_iconst C (v := 0) rfl dL_messagesDropped_15 ?_
  exact r_hreturn C dL_messagesDropped_16
theorem xL_messagesDropped_2 {w : WP} (hW : gW w) (hS : gS w) (hZ : gZ w) {Ω : OM} {S : Nat → Nat → HV} (e : Ω.1 = S) (a1 : Int32) (hF : F_X10_messagesDropped a1 S = some (.inr 2)) : gMh w 8 yL_messagesDropped cL_messagesDropped 4 (some .int) [(0, 9, 12, 19)] [.ref (wAd w (7, 11, 6, 0)), .int a1, .ref (wAd w (14, 13, 0, 0))] (cA w Ω) (some (.int 1)) (cA w Ω) 1 6 := by
  refine gMh_of "HedgeMessagesLaw" rfl (by decide) (kR rfl) fun X C hT9 => ?_
  show gU w X _ _ 0 [(0, .ref (wAd w (7, 11, 6, 0))), (1, .int a1), (2, .ref (wAd w (14, 13, 0, 0)))] []
  refine r_aload_n C (k := 2) rfl rfl dL_messagesDropped_0 ?_
  refine r_iconst C (v := 0) rfl dL_messagesDropped_1 ?_
  refine r_aload_n C (k := 0) rfl rfl dL_messagesDropped_2 ?_
  refine r_iload_n C (k := 1) rfl rfl dL_messagesDropped_3 ?_
  refine r_callC C hT9 (d' := 7) (E := xN 2) [.int a1] (x_X10_messagesDropped hW hS hZ e a1 hF) myX10_messagesDropped wm6_73 ⟨_, _, _, _, (hW.ok k7), rfl, rfl, rfl, rfl⟩ rfl (kR rfl) (by decide) (kR rfl) rfl dL_messagesDropped_4 [] [] ⟨0, 9, 12, 19⟩ rfl (gXt (fun _ h => nomatch h)) (by decide) (by decide) wm3_234 rfl wm4_1 fun q => ?_
  refine r_astore_n C (lo' := [(3, .ref q), (0, .ref (wAd w (7, 11, 6, 0))), (1, .int a1), (2, .ref (wAd w (14, 13, 0, 0)))]) rfl (by decide) rfl dL_messagesDropped_12 ?_
  refine r_iconst C (v := 1) rfl dL_messagesDropped_13 ?_
  exact r_hreturn C dL_messagesDropped_14
theorem dL_plant_0 : decode cL_plant 0 = .ok (.aload_n 3, 1) := by decide +kernel
theorem dL_plant_1 : decode cL_plant 1 = .ok (.iconst 0, 1) := by decide +kernel
theorem dL_plant_2 : decode cL_plant 2 = .ok (.aload_n 0, 1) := by decide +kernel
theorem dL_plant_3 : decode cL_plant 3 = .ok (.iload_n 1, 1) := by decide +kernel
theorem dL_plant_4 : decode cL_plant 4 = .ok (.iload_n 2, 1) := by decide +kernel
theorem dL_plant_5 : decode cL_plant 5 = .ok (.invokevirtual 108, 3) := by decide +kernel
theorem dL_plant_8 : decode cL_plant 8 = .ok (.i2l, 1) := by decide +kernel
theorem dL_plant_9 : decode cL_plant 9 = .ok (.lastore, 1) := by decide +kernel
theorem dL_plant_10 : decode cL_plant 10 = .ok (.goto 15, 3) := by decide +kernel
theorem dL_plant_13 : decode cL_plant 13 = .ok (.astore 4, 2) := by decide +kernel
theorem dL_plant_15 : decode cL_plant 15 = .ok (.iconst 1, 1) := by decide +kernel
theorem dL_plant_16 : decode cL_plant 16 = .ok (.ireturn, 1) := by decide +kernel
theorem dL_plant_17 : decode cL_plant 17 = .ok (.astore 4, 2) := by decide +kernel
theorem dL_plant_19 : decode cL_plant 19 = .ok (.iconst 2, 1) := by decide +kernel
theorem dL_plant_20 : decode cL_plant 20 = .ok (.ireturn, 1) := by decide +kernel
theorem dL_plant_21 : decode cL_plant 21 = .ok (.astore 4, 2) := by decide +kernel
theorem dL_plant_23 : decode cL_plant 23 = .ok (.iconst 3, 1) := by decide +kernel
theorem dL_plant_24 : decode cL_plant 24 = .ok (.ireturn, 1) := by decide +kernel
theorem dL_plant_25 : decode cL_plant 25 = .ok (.iconst 0, 1) := by decide +kernel
theorem dL_plant_26 : decode cL_plant 26 = .ok (.ireturn, 1) := by decide +kernel
theorem cwL_plant : Cond.codeWith yL_plant method_32_code 5 (Option.some Jvm.ClassFile.FieldType.int) [(0, 10, 13, 31), (0, 10, 17, 19), (0, 10, 21, 13)] ∈ lw_tbl := in_t6 (List.mem_of_getElem? (i := 79) rfl)
theorem kL_plant {w : WP} (hW : gW w) (hS : gS w) (hO : wFr w (14, 13, 0, 0)) {Ω : OM} {S : Nat → Nat → HV} (e : Ω.1 = S) (N : Nat) (a1 : Int32) (a2 : Int32) {v : Int32} {S' : Nat → Nat → HV} (hF : F_X10_plant N a1 a2 S = some (.inl (v, S'))) : gMh w 8 yL_plant cL_plant 5 (some .int) [(0, 10, 13, 31), (0, 10, 17, 19), (0, 10, 21, 13)] [.ref (wAd w (7, 11, 6, 0)), .int a1, .int a2, .ref (wAd w (14, 13, 0, 0))] (cA w Ω) (some (.int 0)) (cA w (oAns (S', Ω.2) v.toInt64)) 0 0 := by
  refine gMh_of "HedgeMessagesLaw" rfl (by decide) (kR rfl) fun X C hT9 => ?_
  show gU w X _ _ 0 [(0, .ref (wAd w (7, 11, 6, 0))), (1, .int a1), (2, .int a2), (3, .ref (wAd w (14, 13, 0, 0)))] []
  refine r_aload_n C (k := 3) rfl rfl dL_plant_0 ?_
  refine r_iconst C (v := 0) rfl dL_plant_1 ?_
  refine r_aload_n C (k := 0) rfl rfl dL_plant_2 ?_
  refine r_iload_n C (k := 1) rfl rfl dL_plant_3 ?_
  refine r_iload_n C (k := 2) rfl rfl dL_plant_4 ?_
  refine r_callV C (d' := 7) [.int a1, .int a2] (c_X10_plant hW hS e N a1 a2 hF rfl) myX10_plant wm6_80 ⟨_, _, _, _, (hW.ok k7), rfl, rfl, rfl, rfl⟩ rfl (kR rfl) (by decide) (kR rfl) rfl dL_plant_5 ?_
  refine r_i2l C (v := v.toInt64) rfl dL_plant_8 ?_
  refine r_last C hW.x hO dL_plant_9 ?_
  refine r_goto C (tgt := 25) rfl dL_plant_10 ?_
  refine r_iconst C (v := 0) rfl dL_plant_25 ?_
  exact r_hreturn C dL_plant_26
theorem xL_plant_3 {w : WP} (hW : gW w) (hS : gS w) (hZ : gZ w) {Ω : OM} {S : Nat → Nat → HV} (e : Ω.1 = S) (N : Nat) (a1 : Int32) (a2 : Int32) {S' : Nat → Nat → HV} (hF : F_X10_plant N a1 a2 S = some (.inr (3, S'))) : gMh w 8 yL_plant cL_plant 5 (some .int) [(0, 10, 13, 31), (0, 10, 17, 19), (0, 10, 21, 13)] [.ref (wAd w (7, 11, 6, 0)), .int a1, .int a2, .ref (wAd w (14, 13, 0, 0))] (cA w Ω) (some (.int 1)) (cA w (S', Ω.2)) 1 6 := by
  refine gMh_of "HedgeMessagesLaw" rfl (by decide) (kR rfl) fun X C hT9 => ?_
  show gU w X _ _ 0 [(0, .ref (wAd w (7, 11, 6, 0))), (1, .int a1), (2, .int a2), (3, .ref (wAd w (14, 13, 0, 0)))] []
  refine r_aload_n C (k := 3) rfl rfl dL_plant_0 ?_
  refine r_iconst C (v := 0) rfl dL_plant_1 ?_
  refine r_aload_n C (k := 0) rfl rfl dL_plant_2 ?_
  refine r_iload_n C (k := 1) rfl rfl dL_plant_3 ?_
  refine r_iload_n C (k := 2) rfl rfl dL_plant_4 ?_
  refine r_callC C hT9 (d' := 7) (E := xN 3) [.int a1, .int a2] (x_X10_plant hW hS hZ e N a1 a2 hF rfl) myX10_plant wm6_80 ⟨_, _, _, _, (hW.ok k7), rfl, rfl, rfl, rfl⟩ rfl (kR rfl) (by decide) (kR rfl) rfl dL_plant_5 [] [⟨0, 10, 17, 19⟩, ⟨0, 10, 21, 13⟩] ⟨0, 10, 13, 31⟩ rfl (gXt (fun _ h => nomatch h)) (by decide) (by decide) wm5_80 rfl wm5_91 fun q => ?_
  refine r_astore C (lo' := [(4, .ref q), (0, .ref (wAd w (7, 11, 6, 0))), (1, .int a1), (2, .int a2), (3, .ref (wAd w (14, 13, 0, 0)))]) (by decide) rfl dL_plant_13 ?_
  refine r_iconst C (v := 1) rfl dL_plant_15 ?_
  exact r_hreturn C dL_plant_16
theorem xL_plant_2 {w : WP} (hW : gW w) (hS : gS w) (hZ : gZ w) {Ω : OM} {S : Nat → Nat → HV} (e : Ω.1 = S) (N : Nat) (a1 : Int32) (a2 : Int32) {S' : Nat → Nat → HV} (hF : F_X10_plant N a1 a2 S = some (.inr (2, S'))) : gMh w 8 yL_plant cL_plant 5 (some .int) [(0, 10, 13, 31), (0, 10, 17, 19), (0, 10, 21, 13)] [.ref (wAd w (7, 11, 6, 0)), .int a1, .int a2, .ref (wAd w (14, 13, 0, 0))] (cA w Ω) (some (.int 2)) (cA w (S', Ω.2)) 1 6 := by
  refine gMh_of "HedgeMessagesLaw" rfl (by decide) (kR rfl) fun X C hT9 => ?_
  show gU w X _ _ 0 [(0, .ref (wAd w (7, 11, 6, 0))), (1, .int a1), (2, .int a2), (3, .ref (wAd w (14, 13, 0, 0)))] []
  refine r_aload_n C (k := 3) rfl rfl dL_plant_0 ?_
  refine r_iconst C (v := 0) rfl dL_plant_1 ?_
  refine r_aload_n C (k := 0) rfl rfl dL_plant_2 ?_
  refine r_iload_n C (k := 1) rfl rfl dL_plant_3 ?_
  refine r_iload_n C (k := 2) rfl rfl dL_plant_4 ?_
  refine r_callC C hT9 (d' := 7) (E := xN 2) [.int a1, .int a2] (x_X10_plant hW hS hZ e N a1 a2 hF rfl) myX10_plant wm6_80 ⟨_, _, _, _, (hW.ok k7), rfl, rfl, rfl, rfl⟩ rfl (kR rfl) (by decide) (kR rfl) rfl dL_plant_5 [⟨0, 10, 13, 31⟩] [⟨0, 10, 21, 13⟩] ⟨0, 10, 17, 19⟩ rfl ((gZ.x hZ C).imp fun _ _ _ h => xfz (Or.inr ⟨by decide, _, wm5_80, rfl, h.2.2.2.2.1⟩) <| fun _ h => nomatch h) (by decide) (by decide) wm3_234 rfl wm4_1 fun q => ?_
  refine r_astore C (lo' := [(4, .ref q), (0, .ref (wAd w (7, 11, 6, 0))), (1, .int a1), (2, .int a2), (3, .ref (wAd w (14, 13, 0, 0)))]) (by decide) rfl dL_plant_17 ?_
  refine r_iconst C (v := 2) rfl dL_plant_19 ?_
  exact r_hreturn C dL_plant_20
theorem xL_plant_1 {w : WP} (hW : gW w) (hS : gS w) (hZ : gZ w) {Ω : OM} {S : Nat → Nat → HV} (e : Ω.1 = S) (N : Nat) (a1 : Int32) (a2 : Int32) {S' : Nat → Nat → HV} (hF : F_X10_plant N a1 a2 S = some (.inr (1, S'))) : gMh w 8 yL_plant cL_plant 5 (some .int) [(0, 10, 13, 31), (0, 10, 17, 19), (0, 10, 21, 13)] [.ref (wAd w (7, 11, 6, 0)), .int a1, .int a2, .ref (wAd w (14, 13, 0, 0))] (cA w Ω) (some (.int 3)) (cA w (S', Ω.2)) 1 6 := by
  refine gMh_of "HedgeMessagesLaw" rfl (by decide) (kR rfl) fun X C hT9 => ?_
  show gU w X _ _ 0 [(0, .ref (wAd w (7, 11, 6, 0))), (1, .int a1), (2, .int a2), (3, .ref (wAd w (14, 13, 0, 0)))] []
  refine r_aload_n C (k := 3) rfl rfl dL_plant_0 ?_
  refine r_iconst C (v := 0) rfl dL_plant_1 ?_
  refine r_aload_n C (k := 0) rfl rfl dL_plant_2 ?_
  refine r_iload_n C (k := 1) rfl rfl dL_plant_3 ?_
  refine r_iload_n C (k := 2) rfl rfl dL_plant_4 ?_
  refine r_callC C hT9 (d' := 7) (E := xN 1) [.int a1, .int a2] (x_X10_plant hW hS hZ e N a1 a2 hF rfl) myX10_plant wm6_80 ⟨_, _, _, _, (hW.ok k7), rfl, rfl, rfl, rfl⟩ rfl (kR rfl) (by decide) (kR rfl) rfl dL_plant_5 [⟨0, 10, 13, 31⟩, ⟨0, 10, 17, 19⟩] [] ⟨0, 10, 21, 13⟩ rfl ((gZ.x hZ C).imp fun _ _ _ h => xfz (Or.inr ⟨by decide, _, wm5_80, rfl, h.2.2.2.1⟩) <| xfz (Or.inr ⟨by decide, _, wm3_234, rfl, h.2.2.1⟩) <| fun _ h => nomatch h) (by decide) (by decide) wm3_154 rfl wm3_161 fun q => ?_
  refine r_astore C (lo' := [(4, .ref q), (0, .ref (wAd w (7, 11, 6, 0))), (1, .int a1), (2, .int a2), (3, .ref (wAd w (14, 13, 0, 0)))]) (by decide) rfl dL_plant_21 ?_
  refine r_iconst C (v := 3) rfl dL_plant_23 ?_
  exact r_hreturn C dL_plant_24
theorem dL_remove_0 : decode cL_remove 0 = .ok (.aload_n 2, 1) := by decide +kernel
theorem dL_remove_1 : decode cL_remove 1 = .ok (.iconst 0, 1) := by decide +kernel
theorem dL_remove_2 : decode cL_remove 2 = .ok (.aload_n 0, 1) := by decide +kernel
theorem dL_remove_3 : decode cL_remove 3 = .ok (.iload_n 1, 1) := by decide +kernel
theorem dL_remove_4 : decode cL_remove 4 = .ok (.invokevirtual 111, 3) := by decide +kernel
theorem dL_remove_7 : decode cL_remove 7 = .ok (.i2l, 1) := by decide +kernel
theorem dL_remove_8 : decode cL_remove 8 = .ok (.lastore, 1) := by decide +kernel
theorem dL_remove_9 : decode cL_remove 9 = .ok (.goto 9, 3) := by decide +kernel
theorem dL_remove_12 : decode cL_remove 12 = .ok (.astore_n 3, 1) := by decide +kernel
theorem dL_remove_13 : decode cL_remove 13 = .ok (.iconst 1, 1) := by decide +kernel
theorem dL_remove_14 : decode cL_remove 14 = .ok (.ireturn, 1) := by decide +kernel
theorem dL_remove_15 : decode cL_remove 15 = .ok (.astore_n 3, 1) := by decide +kernel
theorem dL_remove_16 : decode cL_remove 16 = .ok (.iconst 2, 1) := by decide +kernel
theorem dL_remove_17 : decode cL_remove 17 = .ok (.ireturn, 1) := by decide +kernel
theorem dL_remove_18 : decode cL_remove 18 = .ok (.iconst 0, 1) := by decide +kernel
theorem dL_remove_19 : decode cL_remove 19 = .ok (.ireturn, 1) := by decide +kernel
theorem cwL_remove : Cond.codeWith yL_remove method_33_code 4 (Option.some Jvm.ClassFile.FieldType.int) [(0, 9, 12, 31), (0, 9, 15, 13)] ∈ lw_tbl := in_t6 (List.mem_of_getElem? (i := 89) rfl)
theorem kL_remove {w : WP} (hW : gW w) (hS : gS w) (hO : wFr w (14, 13, 0, 0)) {Ω : OM} {S : Nat → Nat → HV} (e : Ω.1 = S) (a1 : Int32) {v : Int32} {S' : Nat → Nat → HV} (hF : F_X10_remove a1 S = some (.inl (v, S'))) : gMh w 8 yL_remove cL_remove 4 (some .int) [(0, 9, 12, 31), (0, 9, 15, 13)] [.ref (wAd w (7, 11, 6, 0)), .int a1, .ref (wAd w (14, 13, 0, 0))] (cA w Ω) (some (.int 0)) (cA w (oAns (S', Ω.2) v.toInt64)) 0 0 := by
  refine gMh_of "HedgeMessagesLaw" rfl (by decide) (kR rfl) fun X C hT9 => ?_
  show gU w X _ _ 0 [(0, .ref (wAd w (7, 11, 6, 0))), (1, .int a1), (2, .ref (wAd w (14, 13, 0, 0)))] []
  refine r_aload_n C (k := 2) rfl rfl dL_remove_0 ?_
  refine r_iconst C (v := 0) rfl dL_remove_1 ?_
  refine r_aload_n C (k := 0) rfl rfl dL_remove_2 ?_
  refine r_iload_n C (k := 1) rfl rfl dL_remove_3 ?_
  refine r_callV C (d' := 7) [.int a1] (c_X10_remove hW hS e a1 hF rfl) myX10_remove wm6_90 ⟨_, _, _, _, (hW.ok k7), rfl, rfl, rfl, rfl⟩ rfl (kR rfl) (by decide) (kR rfl) rfl dL_remove_4 ?_
  refine r_i2l C (v := v.toInt64) rfl dL_remove_7 ?_
  refine r_last C hW.x hO dL_remove_8 ?_
  refine r_goto C (tgt := 18) rfl dL_remove_9 ?_
  refine r_iconst C (v := 0) rfl dL_remove_18 ?_
  exact r_hreturn C dL_remove_19
theorem xL_remove_3 {w : WP} (hW : gW w) (hS : gS w) (hZ : gZ w) {Ω : OM} {S : Nat → Nat → HV} (e : Ω.1 = S) (a1 : Int32) {S' : Nat → Nat → HV} (hF : F_X10_remove a1 S = some (.inr (3, S'))) : gMh w 8 yL_remove cL_remove 4 (some .int) [(0, 9, 12, 31), (0, 9, 15, 13)] [.ref (wAd w (7, 11, 6, 0)), .int a1, .ref (wAd w (14, 13, 0, 0))] (cA w Ω) (some (.int 1)) (cA w (S', Ω.2)) 1 6 := by
  refine gMh_of "HedgeMessagesLaw" rfl (by decide) (kR rfl) fun X C hT9 => ?_
  show gU w X _ _ 0 [(0, .ref (wAd w (7, 11, 6, 0))), (1, .int a1), (2, .ref (wAd w (14, 13, 0, 0)))] []
  refine r_aload_n C (k := 2) rfl rfl dL_remove_0 ?_
  refine r_iconst C (v := 0) rfl dL_remove_1 ?_
  refine r_aload_n C (k := 0) rfl rfl dL_remove_2 ?_
  refine r_iload_n C (k := 1) rfl rfl dL_remove_3 ?_
  refine r_callC C hT9 (d' := 7) (E := xN 3) [.int a1] (x_X10_remove hW hS hZ e a1 hF rfl) myX10_remove wm6_90 ⟨_, _, _, _, (hW.ok k7), rfl, rfl, rfl, rfl⟩ rfl (kR rfl) (by decide) (kR rfl) rfl dL_remove_4 [] [⟨0, 9, 15, 13⟩] ⟨0, 9, 12, 31⟩ rfl (gXt (fun _ h => nomatch h)) (by decide) (by decide) wm5_80 rfl wm5_91 fun q => ?_
  refine r_astore_n C (lo' := [(3, .ref q), (0, .ref (wAd w (7, 11, 6, 0))), (1, .int a1), (2, .ref (wAd w (14, 13, 0, 0)))]) rfl (by decide) rfl dL_remove_12 ?_
  refine r_iconst C (v := 1) rfl dL_remove_13 ?_
  exact r_hreturn C dL_remove_14
theorem xL_remove_1 {w : WP} (hW : gW w) (hS : gS w) (hZ : gZ w) {Ω : OM} {S : Nat → Nat → HV} (e : Ω.1 = S) (a1 : Int32) {S' : Nat → Nat → HV} (hF : F_X10_remove a1 S = some (.inr (1, S'))) : gMh w 8 yL_remove cL_remove 4 (some .int) [(0, 9, 12, 31), (0, 9, 15, 13)] [.ref (wAd w (7, 11, 6, 0)), .int a1, .ref (wAd w (14, 13, 0, 0))] (cA w Ω) (some (.int 2)) (cA w (S', Ω.2)) 1 6 := by
  refine gMh_of "HedgeMessagesLaw" rfl (by decide) (kR rfl) fun X C hT9 => ?_
  show gU w X _ _ 0 [(0, .ref (wAd w (7, 11, 6, 0))), (1, .int a1), (2, .ref (wAd w (14, 13, 0, 0)))] []
  refine r_aload_n C (k := 2) rfl rfl dL_remove_0 ?_
  refine r_iconst C (v := 0) rfl dL_remove_1 ?_
  refine r_aload_n C (k := 0) rfl rfl dL_remove_2 ?_
  refine r_iload_n C (k := 1) rfl rfl dL_remove_3 ?_
  refine r_callC C hT9 (d' := 7) (E := xN 1) [.int a1] (x_X10_remove hW hS hZ e a1 hF rfl) myX10_remove wm6_90 ⟨_, _, _, _, (hW.ok k7), rfl, rfl, rfl, rfl⟩ rfl (kR rfl) (by decide) (kR rfl) rfl dL_remove_4 [⟨0, 9, 12, 31⟩] [] ⟨0, 9, 15, 13⟩ rfl ((gZ.x hZ C).imp fun _ _ _ h => xfz (Or.inr ⟨by decide, _, wm5_80, rfl, h.2.2.2.1⟩) <| fun _ h => nomatch h) (by decide) (by decide) wm3_154 rfl wm3_161 fun q => ?_
  refine r_astore_n C (lo' := [(3, .ref q), (0, .ref (wAd w (7, 11, 6, 0))), (1, .int a1), (2, .ref (wAd w (14, 13, 0, 0)))]) rfl (by decide) rfl dL_remove_15 ?_
  refine r_iconst C (v := 2) rfl dL_remove_16 ?_
  exact r_hreturn C dL_remove_17
theorem dL_trim_0 : decode cL_trim 0 = .ok (.aload_n 3, 1) := by decide +kernel
theorem dL_trim_1 : decode cL_trim 1 = .ok (.iconst 0, 1) := by decide +kernel
theorem dL_trim_2 : decode cL_trim 2 = .ok (.aload_n 0, 1) := by decide +kernel
theorem dL_trim_3 : decode cL_trim 3 = .ok (.iload_n 1, 1) := by decide +kernel
theorem dL_trim_4 : decode cL_trim 4 = .ok (.iload_n 2, 1) := by decide +kernel
theorem dL_trim_5 : decode cL_trim 5 = .ok (.invokevirtual 114, 3) := by decide +kernel
theorem dL_trim_8 : decode cL_trim 8 = .ok (.i2l, 1) := by decide +kernel
theorem dL_trim_9 : decode cL_trim 9 = .ok (.lastore, 1) := by decide +kernel
theorem dL_trim_10 : decode cL_trim 10 = .ok (.goto 15, 3) := by decide +kernel
theorem dL_trim_13 : decode cL_trim 13 = .ok (.astore 4, 2) := by decide +kernel
theorem dL_trim_15 : decode cL_trim 15 = .ok (.iconst 1, 1) := by decide +kernel
theorem dL_trim_16 : decode cL_trim 16 = .ok (.ireturn, 1) := by decide +kernel
theorem dL_trim_17 : decode cL_trim 17 = .ok (.astore 4, 2) := by decide +kernel
theorem dL_trim_19 : decode cL_trim 19 = .ok (.iconst 2, 1) := by decide +kernel
theorem dL_trim_20 : decode cL_trim 20 = .ok (.ireturn, 1) := by decide +kernel
theorem dL_trim_21 : decode cL_trim 21 = .ok (.astore 4, 2) := by decide +kernel
theorem dL_trim_23 : decode cL_trim 23 = .ok (.iconst 3, 1) := by decide +kernel
theorem dL_trim_24 : decode cL_trim 24 = .ok (.ireturn, 1) := by decide +kernel
theorem dL_trim_25 : decode cL_trim 25 = .ok (.iconst 0, 1) := by decide +kernel
theorem dL_trim_26 : decode cL_trim 26 = .ok (.ireturn, 1) := by decide +kernel
theorem cwL_trim : Cond.codeWith yL_trim method_34_code 5 (Option.some Jvm.ClassFile.FieldType.int) [(0, 10, 13, 31), (0, 10, 17, 19), (0, 10, 21, 13)] ∈ lw_tbl := in_t6 (List.mem_of_getElem? (i := 97) rfl)
theorem kL_trim {w : WP} (hW : gW w) (hS : gS w) (hO : wFr w (14, 13, 0, 0)) {Ω : OM} {S : Nat → Nat → HV} (e : Ω.1 = S) (a1 : Int32) (a2 : Int32) {v : Int32} {S' : Nat → Nat → HV} (hF : F_X10_trim a1 a2 S = some (.inl (v, S'))) : gMh w 8 yL_trim cL_trim 5 (some .int) [(0, 10, 13, 31), (0, 10, 17, 19), (0, 10, 21, 13)] [.ref (wAd w (7, 11, 6, 0)), .int a1, .int a2, .ref (wAd w (14, 13, 0, 0))] (cA w Ω) (some (.int 0)) (cA w (oAns (S', Ω.2) v.toInt64)) 0 0 := by
  refine gMh_of "HedgeMessagesLaw" rfl (by decide) (kR rfl) fun X C hT9 => ?_
  show gU w X _ _ 0 [(0, .ref (wAd w (7, 11, 6, 0))), (1, .int a1), (2, .int a2), (3, .ref (wAd w (14, 13, 0, 0)))] []
  refine r_aload_n C (k := 3) rfl rfl dL_trim_0 ?_
  refine r_iconst C (v := 0) rfl dL_trim_1 ?_
  refine r_aload_n C (k := 0) rfl rfl dL_trim_2 ?_
  refine r_iload_n C (k := 1) rfl rfl dL_trim_3 ?_
  refine r_iload_n C (k := 2) rfl rfl dL_trim_4 ?_
  refine r_callV C (d' := 7) [.int a1, .int a2] (c_X10_trim hW hS e a1 a2 hF rfl) myX10_trim wm6_98 ⟨_, _, _, _, (hW.ok k7), rfl, rfl, rfl, rfl⟩ rfl (kR rfl) (by decide) (kR rfl) rfl dL_trim_5 ?_
  refine r_i2l C (v := v.toInt64) rfl dL_trim_8 ?_
  refine r_last C hW.x hO dL_trim_9 ?_
  refine r_goto C (tgt := 25) rfl dL_trim_10 ?_
  refine r_iconst C (v := 0) rfl dL_trim_25 ?_
  exact r_hreturn C dL_trim_26
theorem xL_trim_3 {w : WP} (hW : gW w) (hS : gS w) (hZ : gZ w) {Ω : OM} {S : Nat → Nat → HV} (e : Ω.1 = S) (a1 : Int32) (a2 : Int32) {S' : Nat → Nat → HV} (hF : F_X10_trim a1 a2 S = some (.inr (3, S'))) : gMh w 8 yL_trim cL_trim 5 (some .int) [(0, 10, 13, 31), (0, 10, 17, 19), (0, 10, 21, 13)] [.ref (wAd w (7, 11, 6, 0)), .int a1, .int a2, .ref (wAd w (14, 13, 0, 0))] (cA w Ω) (some (.int 1)) (cA w (S', Ω.2)) 1 6 := by
  refine gMh_of "HedgeMessagesLaw" rfl (by decide) (kR rfl) fun X C hT9 => ?_
  show gU w X _ _ 0 [(0, .ref (wAd w (7, 11, 6, 0))), (1, .int a1), (2, .int a2), (3, .ref (wAd w (14, 13, 0, 0)))] []
  refine r_aload_n C (k := 3) rfl rfl dL_trim_0 ?_
  refine r_iconst C (v := 0) rfl dL_trim_1 ?_
  refine r_aload_n C (k := 0) rfl rfl dL_trim_2 ?_
  refine r_iload_n C (k := 1) rfl rfl dL_trim_3 ?_
  refine r_iload_n C (k := 2) rfl rfl dL_trim_4 ?_
  refine r_callC C hT9 (d' := 7) (E := xN 3) [.int a1, .int a2] (x_X10_trim hW hS hZ e a1 a2 hF rfl) myX10_trim wm6_98 ⟨_, _, _, _, (hW.ok k7), rfl, rfl, rfl, rfl⟩ rfl (kR rfl) (by decide) (kR rfl) rfl dL_trim_5 [] [⟨0, 10, 17, 19⟩, ⟨0, 10, 21, 13⟩] ⟨0, 10, 13, 31⟩ rfl (gXt (fun _ h => nomatch h)) (by decide) (by decide) wm5_80 rfl wm5_91 fun q => ?_
  refine r_astore C (lo' := [(4, .ref q), (0, .ref (wAd w (7, 11, 6, 0))), (1, .int a1), (2, .int a2), (3, .ref (wAd w (14, 13, 0, 0)))]) (by decide) rfl dL_trim_13 ?_
  refine r_iconst C (v := 1) rfl dL_trim_15 ?_
  exact r_hreturn C dL_trim_16
theorem xL_trim_2 {w : WP} (hW : gW w) (hS : gS w) (hZ : gZ w) {Ω : OM} {S : Nat → Nat → HV} (e : Ω.1 = S) (a1 : Int32) (a2 : Int32) {S' : Nat → Nat → HV} (hF : F_X10_trim a1 a2 S = some (.inr (2, S'))) : gMh w 8 yL_trim cL_trim 5 (some .int) [(0, 10, 13, 31), (0, 10, 17, 19), (0, 10, 21, 13)] [.ref (wAd w (7, 11, 6, 0)), .int a1, .int a2, .ref (wAd w (14, 13, 0, 0))] (cA w Ω) (some (.int 2)) (cA w (S', Ω.2)) 1 6 := by
  refine gMh_of "HedgeMessagesLaw" rfl (by decide) (kR rfl) fun X C hT9 => ?_
  show gU w X _ _ 0 [(0, .ref (wAd w (7, 11, 6, 0))), (1, .int a1), (2, .int a2), (3, .ref (wAd w (14, 13, 0, 0)))] []
  refine r_aload_n C (k := 3) rfl rfl dL_trim_0 ?_
  refine r_iconst C (v := 0) rfl dL_trim_1 ?_
  refine r_aload_n C (k := 0) rfl rfl dL_trim_2 ?_
  refine r_iload_n C (k := 1) rfl rfl dL_trim_3 ?_
  refine r_iload_n C (k := 2) rfl rfl dL_trim_4 ?_
  refine r_callC C hT9 (d' := 7) (E := xN 2) [.int a1, .int a2] (x_X10_trim hW hS hZ e a1 a2 hF rfl) myX10_trim wm6_98 ⟨_, _, _, _, (hW.ok k7), rfl, rfl, rfl, rfl⟩ rfl (kR rfl) (by decide) (kR rfl) rfl dL_trim_5 [⟨0, 10, 13, 31⟩] [⟨0, 10, 21, 13⟩] ⟨0, 10, 17, 19⟩ rfl ((gZ.x hZ C).imp fun _ _ _ h => xfz (Or.inr ⟨by decide, _, wm5_80, rfl, h.2.2.2.2.1⟩) <| fun _ h => nomatch h) (by decide) (by decide) wm3_234 rfl wm4_1 fun q => ?_
  refine r_astore C (lo' := [(4, .ref q), (0, .ref (wAd w (7, 11, 6, 0))), (1, .int a1), (2, .int a2), (3, .ref (wAd w (14, 13, 0, 0)))]) (by decide) rfl dL_trim_17 ?_
  refine r_iconst C (v := 2) rfl dL_trim_19 ?_
  exact r_hreturn C dL_trim_20
theorem xL_trim_1 {w : WP} (hW : gW w) (hS : gS w) (hZ : gZ w) {Ω : OM} {S : Nat → Nat → HV} (e : Ω.1 = S) (a1 : Int32) (a2 : Int32) {S' : Nat → Nat → HV} (hF : F_X10_trim a1 a2 S = some (.inr (1, S'))) : gMh w 8 yL_trim cL_trim 5 (some .int) [(0, 10, 13, 31), (0, 10, 17, 19), (0, 10, 21, 13)] [.ref (wAd w (7, 11, 6, 0)), .int a1, .int a2, .ref (wAd w (14, 13, 0, 0))] (cA w Ω) (some (.int 3)) (cA w (S', Ω.2)) 1 6 := by
  refine gMh_of "HedgeMessagesLaw" rfl (by decide) (kR rfl) fun X C hT9 => ?_
  show gU w X _ _ 0 [(0, .ref (wAd w (7, 11, 6, 0))), (1, .int a1), (2, .int a2), (3, .ref (wAd w (14, 13, 0, 0)))] []
  refine r_aload_n C (k := 3) rfl rfl dL_trim_0 ?_
  refine r_iconst C (v := 0) rfl dL_trim_1 ?_
  refine r_aload_n C (k := 0) rfl rfl dL_trim_2 ?_
  refine r_iload_n C (k := 1) rfl rfl dL_trim_3 ?_
  refine r_iload_n C (k := 2) rfl rfl dL_trim_4 ?_
  refine r_callC C hT9 (d' := 7) (E := xN 1) [.int a1, .int a2] (x_X10_trim hW hS hZ e a1 a2 hF rfl) myX10_trim wm6_98 ⟨_, _, _, _, (hW.ok k7), rfl, rfl, rfl, rfl⟩ rfl (kR rfl) (by decide) (kR rfl) rfl dL_trim_5 [⟨0, 10, 13, 31⟩, ⟨0, 10, 17, 19⟩] [] ⟨0, 10, 21, 13⟩ rfl ((gZ.x hZ C).imp fun _ _ _ h => xfz (Or.inr ⟨by decide, _, wm5_80, rfl, h.2.2.2.1⟩) <| xfz (Or.inr ⟨by decide, _, wm3_234, rfl, h.2.2.1⟩) <| fun _ h => nomatch h) (by decide) (by decide) wm3_154 rfl wm3_161 fun q => ?_
  refine r_astore C (lo' := [(4, .ref q), (0, .ref (wAd w (7, 11, 6, 0))), (1, .int a1), (2, .int a2), (3, .ref (wAd w (14, 13, 0, 0)))]) (by decide) rfl dL_trim_21 ?_
  refine r_iconst C (v := 3) rfl dL_trim_23 ?_
  exact r_hreturn C dL_trim_24
theorem dL_addNest_0 : decode cL_addNest 0 = .ok (.aload_n 3, 1) := by decide +kernel
theorem dL_addNest_1 : decode cL_addNest 1 = .ok (.iconst 0, 1) := by decide +kernel
theorem dL_addNest_2 : decode cL_addNest 2 = .ok (.aload_n 0, 1) := by decide +kernel
theorem dL_addNest_3 : decode cL_addNest 3 = .ok (.iload_n 1, 1) := by decide +kernel
theorem dL_addNest_4 : decode cL_addNest 4 = .ok (.iload_n 2, 1) := by decide +kernel
theorem dL_addNest_5 : decode cL_addNest 5 = .ok (.invokevirtual 117, 3) := by decide +kernel
theorem dL_addNest_8 : decode cL_addNest 8 = .ok (.i2l, 1) := by decide +kernel
theorem dL_addNest_9 : decode cL_addNest 9 = .ok (.lastore, 1) := by decide +kernel
theorem dL_addNest_10 : decode cL_addNest 10 = .ok (.goto 15, 3) := by decide +kernel
theorem dL_addNest_13 : decode cL_addNest 13 = .ok (.astore 4, 2) := by decide +kernel
theorem dL_addNest_15 : decode cL_addNest 15 = .ok (.iconst 1, 1) := by decide +kernel
theorem dL_addNest_16 : decode cL_addNest 16 = .ok (.ireturn, 1) := by decide +kernel
theorem dL_addNest_17 : decode cL_addNest 17 = .ok (.astore 4, 2) := by decide +kernel
theorem dL_addNest_19 : decode cL_addNest 19 = .ok (.iconst 2, 1) := by decide +kernel
theorem dL_addNest_20 : decode cL_addNest 20 = .ok (.ireturn, 1) := by decide +kernel
theorem dL_addNest_21 : decode cL_addNest 21 = .ok (.astore 4, 2) := by decide +kernel
theorem dL_addNest_23 : decode cL_addNest 23 = .ok (.iconst 3, 1) := by decide +kernel
theorem dL_addNest_24 : decode cL_addNest 24 = .ok (.ireturn, 1) := by decide +kernel
theorem dL_addNest_25 : decode cL_addNest 25 = .ok (.iconst 0, 1) := by decide +kernel
theorem dL_addNest_26 : decode cL_addNest 26 = .ok (.ireturn, 1) := by decide +kernel
theorem cwL_addNest : Cond.codeWith yL_addNest method_35_code 5 (Option.some Jvm.ClassFile.FieldType.int) [(0, 10, 13, 31), (0, 10, 17, 19), (0, 10, 21, 13)] ∈ lw_tbl := in_t6 (List.mem_of_getElem? (i := 106) rfl)
theorem kL_addNest {w : WP} (hW : gW w) (hS : gS w) (hO : wFr w (14, 13, 0, 0)) {Ω : OM} {S : Nat → Nat → HV} (e : Ω.1 = S) (N : Nat) (a1 : Int32) (a2 : Int32) {v : Int32} {S' : Nat → Nat → HV} (hF : F_X10_addNest N a1 a2 S = some (.inl (v, S'))) : gMh w 8 yL_addNest cL_addNest 5 (some .int) [(0, 10, 13, 31), (0, 10, 17, 19), (0, 10, 21, 13)] [.ref (wAd w (7, 11, 6, 0)), .int a1, .int a2, .ref (wAd w (14, 13, 0, 0))] (cA w Ω) (some (.int 0)) (cA w (oAns (S', Ω.2) v.toInt64)) 0 0 := by
  refine gMh_of "HedgeMessagesLaw" rfl (by decide) (kR rfl) fun X C hT9 => ?_
  show gU w X _ _ 0 [(0, .ref (wAd w (7, 11, 6, 0))), (1, .int a1), (2, .int a2), (3, .ref (wAd w (14, 13, 0, 0)))] []
  refine r_aload_n C (k := 3) rfl rfl dL_addNest_0 ?_
  refine r_iconst C (v := 0) rfl dL_addNest_1 ?_
  refine r_aload_n C (k := 0) rfl rfl dL_addNest_2 ?_
  refine r_iload_n C (k := 1) rfl rfl dL_addNest_3 ?_
  refine r_iload_n C (k := 2) rfl rfl dL_addNest_4 ?_
  refine r_callV C (d' := 7) [.int a1, .int a2] (c_X10_addNest hW hS e N a1 a2 hF rfl) myX10_addNest wm6_107 ⟨_, _, _, _, (hW.ok k7), rfl, rfl, rfl, rfl⟩ rfl (kR rfl) (by decide) (kR rfl) rfl dL_addNest_5 ?_
  refine r_i2l C (v := v.toInt64) rfl dL_addNest_8 ?_
  refine r_last C hW.x hO dL_addNest_9 ?_
  refine r_goto C (tgt := 25) rfl dL_addNest_10 ?_
  refine r_iconst C (v := 0) rfl dL_addNest_25 ?_
  exact r_hreturn C dL_addNest_26
theorem xL_addNest_3 {w : WP} (hW : gW w) (hS : gS w) (hZ : gZ w) {Ω : OM} {S : Nat → Nat → HV} (e : Ω.1 = S) (N : Nat) (a1 : Int32) (a2 : Int32) {S' : Nat → Nat → HV} (hF : F_X10_addNest N a1 a2 S = some (.inr (3, S'))) : gMh w 8 yL_addNest cL_addNest 5 (some .int) [(0, 10, 13, 31), (0, 10, 17, 19), (0, 10, 21, 13)] [.ref (wAd w (7, 11, 6, 0)), .int a1, .int a2, .ref (wAd w (14, 13, 0, 0))] (cA w Ω) (some (.int 1)) (cA w (S', Ω.2)) 1 6 := by
  refine gMh_of "HedgeMessagesLaw" rfl (by decide) (kR rfl) fun X C hT9 => ?_
  show gU w X _ _ 0 [(0, .ref (wAd w (7, 11, 6, 0))), (1, .int a1), (2, .int a2), (3, .ref (wAd w (14, 13, 0, 0)))] []
  refine r_aload_n C (k := 3) rfl rfl dL_addNest_0 ?_
  refine r_iconst C (v := 0) rfl dL_addNest_1 ?_
  refine r_aload_n C (k := 0) rfl rfl dL_addNest_2 ?_
  refine r_iload_n C (k := 1) rfl rfl dL_addNest_3 ?_
  refine r_iload_n C (k := 2) rfl rfl dL_addNest_4 ?_
  refine r_callC C hT9 (d' := 7) (E := xN 3) [.int a1, .int a2] (x_X10_addNest hW hS hZ e N a1 a2 hF rfl) myX10_addNest wm6_107 ⟨_, _, _, _, (hW.ok k7), rfl, rfl, rfl, rfl⟩ rfl (kR rfl) (by decide) (kR rfl) rfl dL_addNest_5 [] [⟨0, 10, 17, 19⟩, ⟨0, 10, 21, 13⟩] ⟨0, 10, 13, 31⟩ rfl (gXt (fun _ h => nomatch h)) (by decide) (by decide) wm5_80 rfl wm5_91 fun q => ?_
  refine r_astore C (lo' := [(4, .ref q), (0, .ref (wAd w (7, 11, 6, 0))), (1, .int a1), (2, .int a2), (3, .ref (wAd w (14, 13, 0, 0)))]) (by decide) rfl dL_addNest_13 ?_
  refine r_iconst C (v := 1) rfl dL_addNest_15 ?_
  exact r_hreturn C dL_addNest_16
theorem xL_addNest_2 {w : WP} (hW : gW w) (hS : gS w) (hZ : gZ w) {Ω : OM} {S : Nat → Nat → HV} (e : Ω.1 = S) (N : Nat) (a1 : Int32) (a2 : Int32) {S' : Nat → Nat → HV} (hF : F_X10_addNest N a1 a2 S = some (.inr (2, S'))) : gMh w 8 yL_addNest cL_addNest 5 (some .int) [(0, 10, 13, 31), (0, 10, 17, 19), (0, 10, 21, 13)] [.ref (wAd w (7, 11, 6, 0)), .int a1, .int a2, .ref (wAd w (14, 13, 0, 0))] (cA w Ω) (some (.int 2)) (cA w (S', Ω.2)) 1 6 := by
  refine gMh_of "HedgeMessagesLaw" rfl (by decide) (kR rfl) fun X C hT9 => ?_
  show gU w X _ _ 0 [(0, .ref (wAd w (7, 11, 6, 0))), (1, .int a1), (2, .int a2), (3, .ref (wAd w (14, 13, 0, 0)))] []
  refine r_aload_n C (k := 3) rfl rfl dL_addNest_0 ?_
  refine r_iconst C (v := 0) rfl dL_addNest_1 ?_
  refine r_aload_n C (k := 0) rfl rfl dL_addNest_2 ?_
  refine r_iload_n C (k := 1) rfl rfl dL_addNest_3 ?_
  refine r_iload_n C (k := 2) rfl rfl dL_addNest_4 ?_
  refine r_callC C hT9 (d' := 7) (E := xN 2) [.int a1, .int a2] (x_X10_addNest hW hS hZ e N a1 a2 hF rfl) myX10_addNest wm6_107 ⟨_, _, _, _, (hW.ok k7), rfl, rfl, rfl, rfl⟩ rfl (kR rfl) (by decide) (kR rfl) rfl dL_addNest_5 [⟨0, 10, 13, 31⟩] [⟨0, 10, 21, 13⟩] ⟨0, 10, 17, 19⟩ rfl ((gZ.x hZ C).imp fun _ _ _ h => xfz (Or.inr ⟨by decide, _, wm5_80, rfl, h.2.2.2.2.1⟩) <| fun _ h => nomatch h) (by decide) (by decide) wm3_234 rfl wm4_1 fun q => ?_
  refine r_astore C (lo' := [(4, .ref q), (0, .ref (wAd w (7, 11, 6, 0))), (1, .int a1), (2, .int a2), (3, .ref (wAd w (14, 13, 0, 0)))]) (by decide) rfl dL_addNest_17 ?_
  refine r_iconst C (v := 2) rfl dL_addNest_19 ?_
  exact r_hreturn C dL_addNest_20
theorem xL_addNest_1 {w : WP} (hW : gW w) (hS : gS w) (hZ : gZ w) {Ω : OM} {S : Nat → Nat → HV} (e : Ω.1 = S) (N : Nat) (a1 : Int32) (a2 : Int32) {S' : Nat → Nat → HV} (hF : F_X10_addNest N a1 a2 S = some (.inr (1, S'))) : gMh w 8 yL_addNest cL_addNest 5 (some .int) [(0, 10, 13, 31), (0, 10, 17, 19), (0, 10, 21, 13)] [.ref (wAd w (7, 11, 6, 0)), .int a1, .int a2, .ref (wAd w (14, 13, 0, 0))] (cA w Ω) (some (.int 3)) (cA w (S', Ω.2)) 1 6 := by
  refine gMh_of "HedgeMessagesLaw" rfl (by decide) (kR rfl) fun X C hT9 => ?_
  show gU w X _ _ 0 [(0, .ref (wAd w (7, 11, 6, 0))), (1, .int a1), (2, .int a2), (3, .ref (wAd w (14, 13, 0, 0)))] []
  refine r_aload_n C (k := 3) rfl rfl dL_addNest_0 ?_
  refine r_iconst C (v := 0) rfl dL_addNest_1 ?_
  refine r_aload_n C (k := 0) rfl rfl dL_addNest_2 ?_
  refine r_iload_n C (k := 1) rfl rfl dL_addNest_3 ?_
  refine r_iload_n C (k := 2) rfl rfl dL_addNest_4 ?_
  refine r_callC C hT9 (d' := 7) (E := xN 1) [.int a1, .int a2] (x_X10_addNest hW hS hZ e N a1 a2 hF rfl) myX10_addNest wm6_107 ⟨_, _, _, _, (hW.ok k7), rfl, rfl, rfl, rfl⟩ rfl (kR rfl) (by decide) (kR rfl) rfl dL_addNest_5 [⟨0, 10, 13, 31⟩, ⟨0, 10, 17, 19⟩] [] ⟨0, 10, 21, 13⟩ rfl ((gZ.x hZ C).imp fun _ _ _ h => xfz (Or.inr ⟨by decide, _, wm5_80, rfl, h.2.2.2.1⟩) <| xfz (Or.inr ⟨by decide, _, wm3_234, rfl, h.2.2.1⟩) <| fun _ h => nomatch h) (by decide) (by decide) wm3_154 rfl wm3_161 fun q => ?_
  refine r_astore C (lo' := [(4, .ref q), (0, .ref (wAd w (7, 11, 6, 0))), (1, .int a1), (2, .int a2), (3, .ref (wAd w (14, 13, 0, 0)))]) (by decide) rfl dL_addNest_21 ?_
  refine r_iconst C (v := 3) rfl dL_addNest_23 ?_
  exact r_hreturn C dL_addNest_24
theorem dL_queueMessage_0 : decode cL_queueMessage 0 = .ok (.aload_n 2, 1) := by decide +kernel
theorem dL_queueMessage_1 : decode cL_queueMessage 1 = .ok (.iconst 0, 1) := by decide +kernel
theorem dL_queueMessage_2 : decode cL_queueMessage 2 = .ok (.aload_n 0, 1) := by decide +kernel
theorem dL_queueMessage_3 : decode cL_queueMessage 3 = .ok (.iload_n 1, 1) := by decide +kernel
theorem dL_queueMessage_4 : decode cL_queueMessage 4 = .ok (.invokevirtual 120, 3) := by decide +kernel
theorem dL_queueMessage_7 : decode cL_queueMessage 7 = .ok (.i2l, 1) := by decide +kernel
theorem dL_queueMessage_8 : decode cL_queueMessage 8 = .ok (.lastore, 1) := by decide +kernel
theorem dL_queueMessage_9 : decode cL_queueMessage 9 = .ok (.goto 9, 3) := by decide +kernel
theorem dL_queueMessage_12 : decode cL_queueMessage 12 = .ok (.astore_n 3, 1) := by decide +kernel
theorem dL_queueMessage_13 : decode cL_queueMessage 13 = .ok (.iconst 1, 1) := by decide +kernel
theorem dL_queueMessage_14 : decode cL_queueMessage 14 = .ok (.ireturn, 1) := by decide +kernel
theorem dL_queueMessage_15 : decode cL_queueMessage 15 = .ok (.astore_n 3, 1) := by decide +kernel
theorem dL_queueMessage_16 : decode cL_queueMessage 16 = .ok (.iconst 2, 1) := by decide +kernel
theorem dL_queueMessage_17 : decode cL_queueMessage 17 = .ok (.ireturn, 1) := by decide +kernel
theorem dL_queueMessage_18 : decode cL_queueMessage 18 = .ok (.iconst 0, 1) := by decide +kernel
theorem dL_queueMessage_19 : decode cL_queueMessage 19 = .ok (.ireturn, 1) := by decide +kernel
theorem cwL_queueMessage : Cond.codeWith yL_queueMessage method_36_code 4 (Option.some Jvm.ClassFile.FieldType.int) [(0, 9, 12, 19), (0, 9, 15, 13)] ∈ lw_tbl := in_t6 (List.mem_of_getElem? (i := 115) rfl)
theorem kL_queueMessage {w : WP} (hW : gW w) (hS : gS w) (hO : wFr w (14, 13, 0, 0)) {Ω : OM} {S : Nat → Nat → HV} (e : Ω.1 = S) (N : Nat) (a1 : Int32) {v : Int32} {S' : Nat → Nat → HV} (hF : F_X10_queueMessage N a1 S = some (.inl (v, S'))) : gMh w 8 yL_queueMessage cL_queueMessage 4 (some .int) [(0, 9, 12, 19), (0, 9, 15, 13)] [.ref (wAd w (7, 11, 6, 0)), .int a1, .ref (wAd w (14, 13, 0, 0))] (cA w Ω) (some (.int 0)) (cA w (oAns (S', Ω.2) v.toInt64)) 0 0 := by
  refine gMh_of "HedgeMessagesLaw" rfl (by decide) (kR rfl) fun X C hT9 => ?_
  show gU w X _ _ 0 [(0, .ref (wAd w (7, 11, 6, 0))), (1, .int a1), (2, .ref (wAd w (14, 13, 0, 0)))] []
  refine r_aload_n C (k := 2) rfl rfl dL_queueMessage_0 ?_
  refine r_iconst C (v := 0) rfl dL_queueMessage_1 ?_
  refine r_aload_n C (k := 0) rfl rfl dL_queueMessage_2 ?_
  refine r_iload_n C (k := 1) rfl rfl dL_queueMessage_3 ?_
  refine r_callV C (d' := 7) [.int a1] (c_X10_queueMessage hW hS e N a1 hF rfl) myX10_queueMessage wm6_116 ⟨_, _, _, _, (hW.ok k7), rfl, rfl, rfl, rfl⟩ rfl (kR rfl) (by decide) (kR rfl) rfl dL_queueMessage_4 ?_
  refine r_i2l C (v := v.toInt64) rfl dL_queueMessage_7 ?_
  refine r_last C hW.x hO dL_queueMessage_8 ?_
  refine r_goto C (tgt := 18) rfl dL_queueMessage_9 ?_
  refine r_iconst C (v := 0) rfl dL_queueMessage_18 ?_
  exact r_hreturn C dL_queueMessage_19
theorem xL_queueMessage_2 {w : WP} (hW : gW w) (hS : gS w) (hZ : gZ w) {Ω : OM} {S : Nat → Nat → HV} (e : Ω.1 = S) (N : Nat) (a1 : Int32) {S' : Nat → Nat → HV} (hF : F_X10_queueMessage N a1 S = some (.inr (2, S'))) : gMh w 8 yL_queueMessage cL_queueMessage 4 (some .int) [(0, 9, 12, 19), (0, 9, 15, 13)] [.ref (wAd w (7, 11, 6, 0)), .int a1, .ref (wAd w (14, 13, 0, 0))] (cA w Ω) (some (.int 1)) (cA w (S', Ω.2)) 1 6 := by
  refine gMh_of "HedgeMessagesLaw" rfl (by decide) (kR rfl) fun X C hT9 => ?_
  show gU w X _ _ 0 [(0, .ref (wAd w (7, 11, 6, 0))), (1, .int a1), (2, .ref (wAd w (14, 13, 0, 0)))] []
  refine r_aload_n C (k := 2) rfl rfl dL_queueMessage_0 ?_
  refine r_iconst C (v := 0) rfl dL_queueMessage_1 ?_
  refine r_aload_n C (k := 0) rfl rfl dL_queueMessage_2 ?_
  refine r_iload_n C (k := 1) rfl rfl dL_queueMessage_3 ?_
  refine r_callC C hT9 (d' := 7) (E := xN 2) [.int a1] (x_X10_queueMessage hW hS hZ e N a1 hF rfl) myX10_queueMessage wm6_116 ⟨_, _, _, _, (hW.ok k7), rfl, rfl, rfl, rfl⟩ rfl (kR rfl) (by decide) (kR rfl) rfl dL_queueMessage_4 [] [⟨0, 9, 15, 13⟩] ⟨0, 9, 12, 19⟩ rfl (gXt (fun _ h => nomatch h)) (by decide) (by decide) wm3_234 rfl wm4_1 fun q => ?_
  refine r_astore_n C (lo' := [(3, .ref q), (0, .ref (wAd w (7, 11, 6, 0))), (1, .int a1), (2, .ref (wAd w (14, 13, 0, 0)))]) rfl (by decide) rfl dL_queueMessage_12 ?_
  refine r_iconst C (v := 1) rfl dL_queueMessage_13 ?_
  exact r_hreturn C dL_queueMessage_14
theorem xL_queueMessage_1 {w : WP} (hW : gW w) (hS : gS w) (hZ : gZ w) {Ω : OM} {S : Nat → Nat → HV} (e : Ω.1 = S) (N : Nat) (a1 : Int32) {S' : Nat → Nat → HV} (hF : F_X10_queueMessage N a1 S = some (.inr (1, S'))) : gMh w 8 yL_queueMessage cL_queueMessage 4 (some .int) [(0, 9, 12, 19), (0, 9, 15, 13)] [.ref (wAd w (7, 11, 6, 0)), .int a1, .ref (wAd w (14, 13, 0, 0))] (cA w Ω) (some (.int 2)) (cA w (S', Ω.2)) 1 6 := by
  refine gMh_of "HedgeMessagesLaw" rfl (by decide) (kR rfl) fun X C hT9 => ?_
  show gU w X _ _ 0 [(0, .ref (wAd w (7, 11, 6, 0))), (1, .int a1), (2, .ref (wAd w (14, 13, 0, 0)))] []
  refine r_aload_n C (k := 2) rfl rfl dL_queueMessage_0 ?_
  refine r_iconst C (v := 0) rfl dL_queueMessage_1 ?_
  refine r_aload_n C (k := 0) rfl rfl dL_queueMessage_2 ?_
  refine r_iload_n C (k := 1) rfl rfl dL_queueMessage_3 ?_
  refine r_callC C hT9 (d' := 7) (E := xN 1) [.int a1] (x_X10_queueMessage hW hS hZ e N a1 hF rfl) myX10_queueMessage wm6_116 ⟨_, _, _, _, (hW.ok k7), rfl, rfl, rfl, rfl⟩ rfl (kR rfl) (by decide) (kR rfl) rfl dL_queueMessage_4 [⟨0, 9, 12, 19⟩] [] ⟨0, 9, 15, 13⟩ rfl ((gZ.x hZ C).imp fun _ _ _ h => xfz (Or.inr ⟨by decide, _, wm3_234, rfl, h.2.2.1⟩) <| fun _ h => nomatch h) (by decide) (by decide) wm3_154 rfl wm3_161 fun q => ?_
  refine r_astore_n C (lo' := [(3, .ref q), (0, .ref (wAd w (7, 11, 6, 0))), (1, .int a1), (2, .ref (wAd w (14, 13, 0, 0)))]) rfl (by decide) rfl dL_queueMessage_15 ?_
  refine r_iconst C (v := 2) rfl dL_queueMessage_16 ?_
  exact r_hreturn C dL_queueMessage_17
theorem dL_cancelMessage_0 : decode cL_cancelMessage 0 = .ok (.aload_n 3, 1) := by decide +kernel
theorem dL_cancelMessage_1 : decode cL_cancelMessage 1 = .ok (.iconst 0, 1) := by decide +kernel
theorem dL_cancelMessage_2 : decode cL_cancelMessage 2 = .ok (.aload_n 0, 1) := by decide +kernel
theorem dL_cancelMessage_3 : decode cL_cancelMessage 3 = .ok (.iload_n 1, 1) := by decide +kernel
theorem dL_cancelMessage_4 : decode cL_cancelMessage 4 = .ok (.iload_n 2, 1) := by decide +kernel
theorem dL_cancelMessage_5 : decode cL_cancelMessage 5 = .ok (.invokevirtual 123, 3) := by decide +kernel
theorem dL_cancelMessage_8 : decode cL_cancelMessage 8 = .ok (.i2l, 1) := by decide +kernel
theorem dL_cancelMessage_9 : decode cL_cancelMessage 9 = .ok (.lastore, 1) := by decide +kernel
theorem dL_cancelMessage_10 : decode cL_cancelMessage 10 = .ok (.goto 11, 3) := by decide +kernel
theorem dL_cancelMessage_13 : decode cL_cancelMessage 13 = .ok (.astore 4, 2) := by decide +kernel
theorem dL_cancelMessage_15 : decode cL_cancelMessage 15 = .ok (.iconst 1, 1) := by decide +kernel
theorem dL_cancelMessage_16 : decode cL_cancelMessage 16 = .ok (.ireturn, 1) := by decide +kernel
theorem dL_cancelMessage_17 : decode cL_cancelMessage 17 = .ok (.astore 4, 2) := by decide +kernel
theorem dL_cancelMessage_19 : decode cL_cancelMessage 19 = .ok (.iconst 2, 1) := by decide +kernel
theorem dL_cancelMessage_20 : decode cL_cancelMessage 20 = .ok (.ireturn, 1) := by decide +kernel
theorem dL_cancelMessage_21 : decode cL_cancelMessage 21 = .ok (.iconst 0, 1) := by decide +kernel
theorem dL_cancelMessage_22 : decode cL_cancelMessage 22 = .ok (.ireturn, 1) := by decide +kernel
theorem cwL_cancelMessage : Cond.codeWith yL_cancelMessage method_37_code 5 (Option.some Jvm.ClassFile.FieldType.int) [(0, 10, 13, 19), (0, 10, 17, 31)] ∈ lw_tbl := in_t6 (List.mem_of_getElem? (i := 128) rfl)
theorem kL_cancelMessage {w : WP} (hW : gW w) (hS : gS w) (hO : wFr w (14, 13, 0, 0)) {Ω : OM} {S : Nat → Nat → HV} (e : Ω.1 = S) (a1 : Int32) (a2 : Int32) {v : Int32} {S' : Nat → Nat → HV} (hF : F_X10_cancelMessage a1 a2 S = some (.inl (v, S'))) : gMh w 8 yL_cancelMessage cL_cancelMessage 5 (some .int) [(0, 10, 13, 19), (0, 10, 17, 31)] [.ref (wAd w (7, 11, 6, 0)), .int a1, .int a2, .ref (wAd w (14, 13, 0, 0))] (cA w Ω) (some (.int 0)) (cA w (oAns (S', Ω.2) v.toInt64)) 0 0 := by
  refine gMh_of "HedgeMessagesLaw" rfl (by decide) (kR rfl) fun X C hT9 => ?_
  show gU w X _ _ 0 [(0, .ref (wAd w (7, 11, 6, 0))), (1, .int a1), (2, .int a2), (3, .ref (wAd w (14, 13, 0, 0)))] []
  refine r_aload_n C (k := 3) rfl rfl dL_cancelMessage_0 ?_
  refine r_iconst C (v := 0) rfl dL_cancelMessage_1 ?_
  refine r_aload_n C (k := 0) rfl rfl dL_cancelMessage_2 ?_
  refine r_iload_n C (k := 1) rfl rfl dL_cancelMessage_3 ?_
  refine r_iload_n C (k := 2) rfl rfl dL_cancelMessage_4 ?_
  refine r_callV C (d' := 7) [.int a1, .int a2] (c_X10_cancelMessage hW hS e a1 a2 hF rfl) myX10_cancelMessage wm6_129 ⟨_, _, _, _, (hW.ok k7), rfl, rfl, rfl, rfl⟩ rfl (kR rfl) (by decide) (kR rfl) rfl dL_cancelMessage_5 ?_
  refine r_i2l C (v := v.toInt64) rfl dL_cancelMessage_8 ?_
  refine r_last C hW.x hO dL_cancelMessage_9 ?_
  refine r_goto C (tgt := 21) rfl dL_cancelMessage_10 ?_
  refine r_iconst C (v := 0) rfl dL_cancelMessage_21 ?_
  exact r_hreturn C dL_cancelMessage_22
theorem xL_cancelMessage_2 {w : WP} (hW : gW w) (hS : gS w) (hZ : gZ w) {Ω : OM} {S : Nat → Nat → HV} (e : Ω.1 = S) (a1 : Int32) (a2 : Int32) {S' : Nat → Nat → HV} (hF : F_X10_cancelMessage a1 a2 S = some (.inr (2, S'))) : gMh w 8 yL_cancelMessage cL_cancelMessage 5 (some .int) [(0, 10, 13, 19), (0, 10, 17, 31)] [.ref (wAd w (7, 11, 6, 0)), .int a1, .int a2, .ref (wAd w (14, 13, 0, 0))] (cA w Ω) (some (.int 1)) (cA w (S', Ω.2)) 1 6 := by
  refine gMh_of "HedgeMessagesLaw" rfl (by decide) (kR rfl) fun X C hT9 => ?_
  show gU w X _ _ 0 [(0, .ref (wAd w (7, 11, 6, 0))), (1, .int a1), (2, .int a2), (3, .ref (wAd w (14, 13, 0, 0)))] []
  refine r_aload_n C (k := 3) rfl rfl dL_cancelMessage_0 ?_
  refine r_iconst C (v := 0) rfl dL_cancelMessage_1 ?_
  refine r_aload_n C (k := 0) rfl rfl dL_cancelMessage_2 ?_
  refine r_iload_n C (k := 1) rfl rfl dL_cancelMessage_3 ?_
  refine r_iload_n C (k := 2) rfl rfl dL_cancelMessage_4 ?_
  refine r_callC C hT9 (d' := 7) (E := xN 2) [.int a1, .int a2] (x_X10_cancelMessage hW hS hZ e a1 a2 hF rfl) myX10_cancelMessage wm6_129 ⟨_, _, _, _, (hW.ok k7), rfl, rfl, rfl, rfl⟩ rfl (kR rfl) (by decide) (kR rfl) rfl dL_cancelMessage_5 [] [⟨0, 10, 17, 31⟩] ⟨0, 10, 13, 19⟩ rfl (gXt (fun _ h => nomatch h)) (by decide) (by decide) wm3_234 rfl wm4_1 fun q => ?_
  refine r_astore C (lo' := [(4, .ref q), (0, .ref (wAd w (7, 11, 6, 0))), (1, .int a1), (2, .int a2), (3, .ref (wAd w (14, 13, 0, 0)))]) (by decide) rfl dL_cancelMessage_13 ?_
  refine r_iconst C (v := 1) rfl dL_cancelMessage_15 ?_
  exact r_hreturn C dL_cancelMessage_16
theorem xL_cancelMessage_3 {w : WP} (hW : gW w) (hS : gS w) (hZ : gZ w) {Ω : OM} {S : Nat → Nat → HV} (e : Ω.1 = S) (a1 : Int32) (a2 : Int32) {S' : Nat → Nat → HV} (hF : F_X10_cancelMessage a1 a2 S = some (.inr (3, S'))) : gMh w 8 yL_cancelMessage cL_cancelMessage 5 (some .int) [(0, 10, 13, 19), (0, 10, 17, 31)] [.ref (wAd w (7, 11, 6, 0)), .int a1, .int a2, .ref (wAd w (14, 13, 0, 0))] (cA w Ω) (some (.int 2)) (cA w (S', Ω.2)) 1 6 := by
  refine gMh_of "HedgeMessagesLaw" rfl (by decide) (kR rfl) fun X C hT9 => ?_
  show gU w X _ _ 0 [(0, .ref (wAd w (7, 11, 6, 0))), (1, .int a1), (2, .int a2), (3, .ref (wAd w (14, 13, 0, 0)))] []
  refine r_aload_n C (k := 3) rfl rfl dL_cancelMessage_0 ?_
  refine r_iconst C (v := 0) rfl dL_cancelMessage_1 ?_
  refine r_aload_n C (k := 0) rfl rfl dL_cancelMessage_2 ?_
  refine r_iload_n C (k := 1) rfl rfl dL_cancelMessage_3 ?_
  refine r_iload_n C (k := 2) rfl rfl dL_cancelMessage_4 ?_
  refine r_callC C hT9 (d' := 7) (E := xN 3) [.int a1, .int a2] (x_X10_cancelMessage hW hS hZ e a1 a2 hF rfl) myX10_cancelMessage wm6_129 ⟨_, _, _, _, (hW.ok k7), rfl, rfl, rfl, rfl⟩ rfl (kR rfl) (by decide) (kR rfl) rfl dL_cancelMessage_5 [⟨0, 10, 13, 19⟩] [] ⟨0, 10, 17, 31⟩ rfl ((gZ.x hZ C).imp fun _ _ _ h => xfz (Or.inr ⟨by decide, _, wm3_234, rfl, h.2.2.2.2.2⟩) <| fun _ h => nomatch h) (by decide) (by decide) wm5_80 rfl wm5_91 fun q => ?_
  refine r_astore C (lo' := [(4, .ref q), (0, .ref (wAd w (7, 11, 6, 0))), (1, .int a1), (2, .int a2), (3, .ref (wAd w (14, 13, 0, 0)))]) (by decide) rfl dL_cancelMessage_17 ?_
  refine r_iconst C (v := 2) rfl dL_cancelMessage_19 ?_
  exact r_hreturn C dL_cancelMessage_20
theorem dL_setWorkLimit_0 : decode cL_setWorkLimit 0 = .ok (.aload_n 2, 1) := by decide +kernel
theorem dL_setWorkLimit_1 : decode cL_setWorkLimit 1 = .ok (.iconst 0, 1) := by decide +kernel
theorem dL_setWorkLimit_2 : decode cL_setWorkLimit 2 = .ok (.aload_n 0, 1) := by decide +kernel
theorem dL_setWorkLimit_3 : decode cL_setWorkLimit 3 = .ok (.iload_n 1, 1) := by decide +kernel
theorem dL_setWorkLimit_4 : decode cL_setWorkLimit 4 = .ok (.invokevirtual 126, 3) := by decide +kernel
theorem dL_setWorkLimit_7 : decode cL_setWorkLimit 7 = .ok (.i2l, 1) := by decide +kernel
theorem dL_setWorkLimit_8 : decode cL_setWorkLimit 8 = .ok (.lastore, 1) := by decide +kernel
theorem dL_setWorkLimit_9 : decode cL_setWorkLimit 9 = .ok (.goto 6, 3) := by decide +kernel
theorem dL_setWorkLimit_12 : decode cL_setWorkLimit 12 = .ok (.astore_n 3, 1) := by decide +kernel
theorem dL_setWorkLimit_13 : decode cL_setWorkLimit 13 = .ok (.iconst 1, 1) := by decide +kernel
theorem dL_setWorkLimit_14 : decode cL_setWorkLimit 14 = .ok (.ireturn, 1) := by decide +kernel
theorem dL_setWorkLimit_15 : decode cL_setWorkLimit 15 = .ok (.iconst 0, 1) := by decide +kernel
theorem dL_setWorkLimit_16 : decode cL_setWorkLimit 16 = .ok (.ireturn, 1) := by decide +kernel
theorem cwL_setWorkLimit : Cond.codeWith yL_setWorkLimit method_38_code 4 (Option.some Jvm.ClassFile.FieldType.int) [(0, 9, 12, 19)] ∈ lw_tbl := in_t6 (List.mem_of_getElem? (i := 136) rfl)
theorem kL_setWorkLimit {w : WP} (hW : gW w) (hS : gS w) (hO : wFr w (14, 13, 0, 0)) {Ω : OM} {S : Nat → Nat → HV} (e : Ω.1 = S) (a1 : Int32) {v : Int32} {S' : Nat → Nat → HV} (hF : F_X10_setWorkLimit a1 S = some (.inl (v, S'))) : gMh w 7 yL_setWorkLimit cL_setWorkLimit 4 (some .int) [(0, 9, 12, 19)] [.ref (wAd w (7, 11, 6, 0)), .int a1, .ref (wAd w (14, 13, 0, 0))] (cA w Ω) (some (.int 0)) (cA w (oAns (S', Ω.2) v.toInt64)) 0 0 := by
  refine gMh_of "HedgeMessagesLaw" rfl (by decide) (kR rfl) fun X C hT9 => ?_
  show gU w X _ _ 0 [(0, .ref (wAd w (7, 11, 6, 0))), (1, .int a1), (2, .ref (wAd w (14, 13, 0, 0)))] []
  refine r_aload_n C (k := 2) rfl rfl dL_setWorkLimit_0 ?_
  refine r_iconst C (v := 0) rfl dL_setWorkLimit_1 ?_
  refine r_aload_n C (k := 0) rfl rfl dL_setWorkLimit_2 ?_
  refine r_iload_n C (k := 1) rfl rfl dL_setWorkLimit_3 ?_
  refine r_callV C (d' := 6) [.int a1] (c_X10_setWorkLimit hW hS e a1 hF rfl) myX10_setWorkLimit wm6_137 ⟨_, _, _, _, (hW.ok k7), rfl, rfl, rfl, rfl⟩ rfl (kR rfl) (by decide) (kR rfl) rfl dL_setWorkLimit_4 ?_
  refine r_i2l C (v := v.toInt64) rfl dL_setWorkLimit_7 ?_
  refine r_last C hW.x hO dL_setWorkLimit_8 ?_
  refine r_goto C (tgt := 15) rfl dL_setWorkLimit_9 ?_
  refine r_iconst C (v := 0) rfl dL_setWorkLimit_15 ?_
  exact r_hreturn C dL_setWorkLimit_16
theorem xL_setWorkLimit_2 {w : WP} (hW : gW w) (hS : gS w) (hZ : gZ w) {Ω : OM} {S : Nat → Nat → HV} (e : Ω.1 = S) (a1 : Int32) {S' : Nat → Nat → HV} (hF : F_X10_setWorkLimit a1 S = some (.inr (2, S'))) : gMh w 7 yL_setWorkLimit cL_setWorkLimit 4 (some .int) [(0, 9, 12, 19)] [.ref (wAd w (7, 11, 6, 0)), .int a1, .ref (wAd w (14, 13, 0, 0))] (cA w Ω) (some (.int 1)) (cA w (S', Ω.2)) 1 6 := by
  refine gMh_of "HedgeMessagesLaw" rfl (by decide) (kR rfl) fun X C hT9 => ?_
  show gU w X _ _ 0 [(0, .ref (wAd w (7, 11, 6, 0))), (1, .int a1), (2, .ref (wAd w (14, 13, 0, 0)))] []
  refine r_aload_n C (k := 2) rfl rfl dL_setWorkLimit_0 ?_
  refine r_iconst C (v := 0) rfl dL_setWorkLimit_1 ?_
  refine r_aload_n C (k := 0) rfl rfl dL_setWorkLimit_2 ?_
  refine r_iload_n C (k := 1) rfl rfl dL_setWorkLimit_3 ?_
  refine r_callC C hT9 (d' := 6) (E := xN 2) [.int a1] (x_X10_setWorkLimit hW hS hZ e a1 hF rfl) myX10_setWorkLimit wm6_137 ⟨_, _, _, _, (hW.ok k7), rfl, rfl, rfl, rfl⟩ rfl (kR rfl) (by decide) (kR rfl) rfl dL_setWorkLimit_4 [] [] ⟨0, 9, 12, 19⟩ rfl (gXt (fun _ h => nomatch h)) (by decide) (by decide) wm3_234 rfl wm4_1 fun q => ?_
  refine r_astore_n C (lo' := [(3, .ref q), (0, .ref (wAd w (7, 11, 6, 0))), (1, .int a1), (2, .ref (wAd w (14, 13, 0, 0)))]) rfl (by decide) rfl dL_setWorkLimit_12 ?_
  refine r_iconst C (v := 1) rfl dL_setWorkLimit_13 ?_
  exact r_hreturn C dL_setWorkLimit_14
theorem dL_endDays_0 : decode cL_endDays 0 = .ok (.aload_n 2, 1) := by decide +kernel
theorem dL_endDays_1 : decode cL_endDays 1 = .ok (.iconst 0, 1) := by decide +kernel
theorem dL_endDays_2 : decode cL_endDays 2 = .ok (.aload_n 0, 1) := by decide +kernel
theorem dL_endDays_3 : decode cL_endDays 3 = .ok (.iload_n 1, 1) := by decide +kernel
theorem dL_endDays_4 : decode cL_endDays 4 = .ok (.invokevirtual 129, 3) := by decide +kernel
theorem dL_endDays_7 : decode cL_endDays 7 = .ok (.i2l, 1) := by decide +kernel
theorem dL_endDays_8 : decode cL_endDays 8 = .ok (.lastore, 1) := by decide +kernel
theorem dL_endDays_9 : decode cL_endDays 9 = .ok (.goto 6, 3) := by decide +kernel
theorem dL_endDays_12 : decode cL_endDays 12 = .ok (.astore_n 3, 1) := by decide +kernel
theorem dL_endDays_13 : decode cL_endDays 13 = .ok (.iconst 1, 1) := by decide +kernel
theorem dL_endDays_14 : decode cL_endDays 14 = .ok (.ireturn, 1) := by decide +kernel
theorem dL_endDays_15 : decode cL_endDays 15 = .ok (.iconst 0, 1) := by decide +kernel
theorem dL_endDays_16 : decode cL_endDays 16 = .ok (.ireturn, 1) := by decide +kernel
theorem cwL_endDays : Cond.codeWith yL_endDays method_39_code 4 (Option.some Jvm.ClassFile.FieldType.int) [(0, 9, 12, 19)] ∈ lw_tbl := in_t6 (List.mem_of_getElem? (i := 144) rfl)
theorem kL_endDays {w : WP} (hW : gW w) (hS : gS w) (hO : wFr w (14, 13, 0, 0)) {Ω : OM} {S : Nat → Nat → HV} (e : Ω.1 = S) (N : Nat) (a1 : Int32) {v : Int32} {S' : Nat → Nat → HV} (hF : F_X10_endDays N a1 S = some (.inl (v, S'))) : gMh w 8 yL_endDays cL_endDays 4 (some .int) [(0, 9, 12, 19)] [.ref (wAd w (7, 11, 6, 0)), .int a1, .ref (wAd w (14, 13, 0, 0))] (cA w Ω) (some (.int 0)) (cA w (oAns (S', Ω.2) v.toInt64)) 0 0 := by
  refine gMh_of "HedgeMessagesLaw" rfl (by decide) (kR rfl) fun X C hT9 => ?_
  show gU w X _ _ 0 [(0, .ref (wAd w (7, 11, 6, 0))), (1, .int a1), (2, .ref (wAd w (14, 13, 0, 0)))] []
  refine r_aload_n C (k := 2) rfl rfl dL_endDays_0 ?_
  refine r_iconst C (v := 0) rfl dL_endDays_1 ?_
  refine r_aload_n C (k := 0) rfl rfl dL_endDays_2 ?_
  refine r_iload_n C (k := 1) rfl rfl dL_endDays_3 ?_
  refine r_callV C (d' := 7) [.int a1] (c_X10_endDays hW hS e N a1 hF rfl) myX10_endDays wm6_145 ⟨_, _, _, _, (hW.ok k7), rfl, rfl, rfl, rfl⟩ rfl (kR rfl) (by decide) (kR rfl) rfl dL_endDays_4 ?_
  refine r_i2l C (v := v.toInt64) rfl dL_endDays_7 ?_
  refine r_last C hW.x hO dL_endDays_8 ?_
  refine r_goto C (tgt := 15) rfl dL_endDays_9 ?_
  refine r_iconst C (v := 0) rfl dL_endDays_15 ?_
  exact r_hreturn C dL_endDays_16
theorem xL_endDays_2 {w : WP} (hW : gW w) (hS : gS w) (hZ : gZ w) {Ω : OM} {S : Nat → Nat → HV} (e : Ω.1 = S) (N : Nat) (a1 : Int32) {S' : Nat → Nat → HV} (hF : F_X10_endDays N a1 S = some (.inr (2, S'))) : gMh w 8 yL_endDays cL_endDays 4 (some .int) [(0, 9, 12, 19)] [.ref (wAd w (7, 11, 6, 0)), .int a1, .ref (wAd w (14, 13, 0, 0))] (cA w Ω) (some (.int 1)) (cA w (S', Ω.2)) 1 6 := by
  refine gMh_of "HedgeMessagesLaw" rfl (by decide) (kR rfl) fun X C hT9 => ?_
  show gU w X _ _ 0 [(0, .ref (wAd w (7, 11, 6, 0))), (1, .int a1), (2, .ref (wAd w (14, 13, 0, 0)))] []
  refine r_aload_n C (k := 2) rfl rfl dL_endDays_0 ?_
  refine r_iconst C (v := 0) rfl dL_endDays_1 ?_
  refine r_aload_n C (k := 0) rfl rfl dL_endDays_2 ?_
  refine r_iload_n C (k := 1) rfl rfl dL_endDays_3 ?_
  refine r_callC C hT9 (d' := 7) (E := xN 2) [.int a1] (x_X10_endDays hW hS hZ e N a1 hF rfl) myX10_endDays wm6_145 ⟨_, _, _, _, (hW.ok k7), rfl, rfl, rfl, rfl⟩ rfl (kR rfl) (by decide) (kR rfl) rfl dL_endDays_4 [] [] ⟨0, 9, 12, 19⟩ rfl (gXt (fun _ h => nomatch h)) (by decide) (by decide) wm3_234 rfl wm4_1 fun q => ?_
  refine r_astore_n C (lo' := [(3, .ref q), (0, .ref (wAd w (7, 11, 6, 0))), (1, .int a1), (2, .ref (wAd w (14, 13, 0, 0)))]) rfl (by decide) rfl dL_endDays_12 ?_
  refine r_iconst C (v := 1) rfl dL_endDays_13 ?_
  exact r_hreturn C dL_endDays_14
theorem dL_undo_0 : decode cL_undo 0 = .ok (.aload_n 1, 1) := by decide +kernel
theorem dL_undo_1 : decode cL_undo 1 = .ok (.iconst 0, 1) := by decide +kernel
theorem dL_undo_2 : decode cL_undo 2 = .ok (.aload_n 0, 1) := by decide +kernel
theorem dL_undo_3 : decode cL_undo 3 = .ok (.invokevirtual 132, 3) := by decide +kernel
theorem dL_undo_6 : decode cL_undo 6 = .ok (.i2l, 1) := by decide +kernel
theorem dL_undo_7 : decode cL_undo 7 = .ok (.lastore, 1) := by decide +kernel
theorem dL_undo_8 : decode cL_undo 8 = .ok (.goto 6, 3) := by decide +kernel
theorem dL_undo_11 : decode cL_undo 11 = .ok (.astore_n 2, 1) := by decide +kernel
theorem dL_undo_12 : decode cL_undo 12 = .ok (.iconst 1, 1) := by decide +kernel
theorem dL_undo_13 : decode cL_undo 13 = .ok (.ireturn, 1) := by decide +kernel
theorem dL_undo_14 : decode cL_undo 14 = .ok (.iconst 0, 1) := by decide +kernel
theorem dL_undo_15 : decode cL_undo 15 = .ok (.ireturn, 1) := by decide +kernel
theorem cwL_undo : Cond.codeWith yL_undo method_40_code 3 (Option.some Jvm.ClassFile.FieldType.int) [(0, 8, 11, 13)] ∈ lw_tbl := in_t6 (List.mem_of_getElem? (i := 151) rfl)
theorem kL_undo {w : WP} (hW : gW w) (hS : gS w) (hO : wFr w (14, 13, 0, 0)) {Ω : OM} {S : Nat → Nat → HV} (e : Ω.1 = S)  {v : Int32} {S' : Nat → Nat → HV} (hF : F_X10_undo S = some (.inl (v, S'))) : gMh w 7 yL_undo cL_undo 3 (some .int) [(0, 8, 11, 13)] [.ref (wAd w (7, 11, 6, 0)), .ref (wAd w (14, 13, 0, 0))] (cA w Ω) (some (.int 0)) (cA w (oAns (S', Ω.2) v.toInt64)) 0 0 := by
  refine gMh_of "HedgeMessagesLaw" rfl (by decide) (kR rfl) fun X C hT9 => ?_
  show gU w X _ _ 0 [(0, .ref (wAd w (7, 11, 6, 0))), (1, .ref (wAd w (14, 13, 0, 0)))] []
  refine r_aload_n C (k := 1) rfl rfl dL_undo_0 ?_
  refine r_iconst C (v := 0) rfl dL_undo_1 ?_
  refine r_aload_n C (k := 0) rfl rfl dL_undo_2 ?_
  refine r_callV C (d' := 6) [] (c_X10_undo hW hS e  hF rfl) myX10_undo wm6_152 ⟨_, _, _, _, (hW.ok k7), rfl, rfl, rfl, rfl⟩ rfl (kR rfl) (by decide) (kR rfl) rfl dL_undo_3 ?_
  refine r_i2l C (v := v.toInt64) rfl dL_undo_6 ?_
  refine r_last C hW.x hO dL_undo_7 ?_
  refine r_goto C (tgt := 14) rfl dL_undo_8 ?_
  refine r_iconst C (v := 0) rfl dL_undo_14 ?_
  exact r_hreturn C dL_undo_15
theorem xL_undo_1 {w : WP} (hW : gW w) (hS : gS w) (hZ : gZ w) {Ω : OM} {S : Nat → Nat → HV} (e : Ω.1 = S)  {S' : Nat → Nat → HV} (hF : F_X10_undo S = some (.inr (1, S'))) : gMh w 7 yL_undo cL_undo 3 (some .int) [(0, 8, 11, 13)] [.ref (wAd w (7, 11, 6, 0)), .ref (wAd w (14, 13, 0, 0))] (cA w Ω) (some (.int 1)) (cA w (S', Ω.2)) 1 6 := by
  refine gMh_of "HedgeMessagesLaw" rfl (by decide) (kR rfl) fun X C hT9 => ?_
  show gU w X _ _ 0 [(0, .ref (wAd w (7, 11, 6, 0))), (1, .ref (wAd w (14, 13, 0, 0)))] []
  refine r_aload_n C (k := 1) rfl rfl dL_undo_0 ?_
  refine r_iconst C (v := 0) rfl dL_undo_1 ?_
  refine r_aload_n C (k := 0) rfl rfl dL_undo_2 ?_
  refine r_callC C hT9 (d' := 6) (E := xN 1) [] (x_X10_undo hW hS hZ e  hF rfl) myX10_undo wm6_152 ⟨_, _, _, _, (hW.ok k7), rfl, rfl, rfl, rfl⟩ rfl (kR rfl) (by decide) (kR rfl) rfl dL_undo_3 [] [] ⟨0, 8, 11, 13⟩ rfl (gXt (fun _ h => nomatch h)) (by decide) (by decide) wm3_154 rfl wm3_161 fun q => ?_
  refine r_astore_n C (lo' := [(2, .ref q), (0, .ref (wAd w (7, 11, 6, 0))), (1, .ref (wAd w (14, 13, 0, 0)))]) rfl (by decide) rfl dL_undo_11 ?_
  refine r_iconst C (v := 1) rfl dL_undo_12 ?_
  exact r_hreturn C dL_undo_13
theorem dL_restore_0 : decode cL_restore 0 = .ok (.aload_n 1, 1) := by decide +kernel
theorem dL_restore_1 : decode cL_restore 1 = .ok (.iconst 0, 1) := by decide +kernel
theorem dL_restore_2 : decode cL_restore 2 = .ok (.aload_n 0, 1) := by decide +kernel
theorem dL_restore_3 : decode cL_restore 3 = .ok (.invokevirtual 135, 3) := by decide +kernel
theorem dL_restore_6 : decode cL_restore 6 = .ok (.i2l, 1) := by decide +kernel
theorem dL_restore_7 : decode cL_restore 7 = .ok (.lastore, 1) := by decide +kernel
theorem dL_restore_8 : decode cL_restore 8 = .ok (.goto 6, 3) := by decide +kernel
theorem dL_restore_11 : decode cL_restore 11 = .ok (.astore_n 2, 1) := by decide +kernel
theorem dL_restore_12 : decode cL_restore 12 = .ok (.iconst 1, 1) := by decide +kernel
theorem dL_restore_13 : decode cL_restore 13 = .ok (.ireturn, 1) := by decide +kernel
theorem dL_restore_14 : decode cL_restore 14 = .ok (.iconst 0, 1) := by decide +kernel
theorem dL_restore_15 : decode cL_restore 15 = .ok (.ireturn, 1) := by decide +kernel
theorem cwL_restore : Cond.codeWith yL_restore method_41_code 3 (Option.some Jvm.ClassFile.FieldType.int) [(0, 8, 11, 13)] ∈ lw_tbl := in_t6 (List.mem_of_getElem? (i := 163) rfl)
theorem kL_restore {w : WP} (hW : gW w) (hS : gS w) (hO : wFr w (14, 13, 0, 0)) {Ω : OM} {S : Nat → Nat → HV} (e : Ω.1 = S)  {v : Int32} {S' : Nat → Nat → HV} (hF : F_X10_restore S = some (.inl (v, S'))) : gMh w 7 yL_restore cL_restore 3 (some .int) [(0, 8, 11, 13)] [.ref (wAd w (7, 11, 6, 0)), .ref (wAd w (14, 13, 0, 0))] (cA w Ω) (some (.int 0)) (cA w (oAns (S', Ω.2) v.toInt64)) 0 0 := by
  refine gMh_of "HedgeMessagesLaw" rfl (by decide) (kR rfl) fun X C hT9 => ?_
  show gU w X _ _ 0 [(0, .ref (wAd w (7, 11, 6, 0))), (1, .ref (wAd w (14, 13, 0, 0)))] []
  refine r_aload_n C (k := 1) rfl rfl dL_restore_0 ?_
  refine r_iconst C (v := 0) rfl dL_restore_1 ?_
  refine r_aload_n C (k := 0) rfl rfl dL_restore_2 ?_
  refine r_callV C (d' := 6) [] (c_X10_restore hW hS e  hF rfl) myX10_restore wm6_164 ⟨_, _, _, _, (hW.ok k7), rfl, rfl, rfl, rfl⟩ rfl (kR rfl) (by decide) (kR rfl) rfl dL_restore_3 ?_
  refine r_i2l C (v := v.toInt64) rfl dL_restore_6 ?_
  refine r_last C hW.x hO dL_restore_7 ?_
  refine r_goto C (tgt := 14) rfl dL_restore_8 ?_
  refine r_iconst C (v := 0) rfl dL_restore_14 ?_
  exact r_hreturn C dL_restore_15
theorem xL_restore_1 {w : WP} (hW : gW w) (hS : gS w) (hZ : gZ w) {Ω : OM} {S : Nat → Nat → HV} (e : Ω.1 = S)  {S' : Nat → Nat → HV} (hF : F_X10_restore S = some (.inr (1, S'))) : gMh w 7 yL_restore cL_restore 3 (some .int) [(0, 8, 11, 13)] [.ref (wAd w (7, 11, 6, 0)), .ref (wAd w (14, 13, 0, 0))] (cA w Ω) (some (.int 1)) (cA w (S', Ω.2)) 1 6 := by
  refine gMh_of "HedgeMessagesLaw" rfl (by decide) (kR rfl) fun X C hT9 => ?_
  show gU w X _ _ 0 [(0, .ref (wAd w (7, 11, 6, 0))), (1, .ref (wAd w (14, 13, 0, 0)))] []
  refine r_aload_n C (k := 1) rfl rfl dL_restore_0 ?_
  refine r_iconst C (v := 0) rfl dL_restore_1 ?_
  refine r_aload_n C (k := 0) rfl rfl dL_restore_2 ?_
  refine r_callC C hT9 (d' := 6) (E := xN 1) [] (x_X10_restore hW hS hZ e  hF rfl) myX10_restore wm6_164 ⟨_, _, _, _, (hW.ok k7), rfl, rfl, rfl, rfl⟩ rfl (kR rfl) (by decide) (kR rfl) rfl dL_restore_3 [] [] ⟨0, 8, 11, 13⟩ rfl (gXt (fun _ h => nomatch h)) (by decide) (by decide) wm3_154 rfl wm3_161 fun q => ?_
  refine r_astore_n C (lo' := [(2, .ref q), (0, .ref (wAd w (7, 11, 6, 0))), (1, .ref (wAd w (14, 13, 0, 0)))]) rfl (by decide) rfl dL_restore_11 ?_
  refine r_iconst C (v := 1) rfl dL_restore_12 ?_
  exact r_hreturn C dL_restore_13
