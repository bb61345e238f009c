/-! ===== acts: an act of the law, the days that end ===== -/
theorem dL_ends_0 : decode cL_ends 0 = .ok (.aload_n 0, 1) := by decide +kernel
theorem dL_ends_1 : decode cL_ends 1 = .ok (.iload_n 2, 1) := by decide +kernel
theorem dL_ends_2 : decode cL_ends 2 = .ok (.invokevirtual 229, 3) := by decide +kernel
theorem dL_ends_5 : decode cL_ends 5 = .ok (.istore_n 3, 1) := by decide +kernel
theorem dL_ends_6 : decode cL_ends 6 = .ok (.aload_n 0, 1) := by decide +kernel
theorem dL_ends_7 : decode cL_ends 7 = .ok (.iconst 0, 1) := by decide +kernel
theorem dL_ends_8 : decode cL_ends 8 = .ok (.iload_n 1, 1) := by decide +kernel
theorem dL_ends_9 : decode cL_ends 9 = .ok (.invokevirtual 232, 3) := by decide +kernel
theorem dL_ends_12 : decode cL_ends 12 = .ok (.istore 4, 2) := by decide +kernel
theorem dL_ends_14 : decode cL_ends 14 = .ok (.aload_n 0, 1) := by decide +kernel
theorem dL_ends_15 : decode cL_ends 15 = .ok (.iconst 1, 1) := by decide +kernel
theorem dL_ends_16 : decode cL_ends 16 = .ok (.iload_n 1, 1) := by decide +kernel
theorem dL_ends_17 : decode cL_ends 17 = .ok (.invokevirtual 232, 3) := by decide +kernel
theorem dL_ends_20 : decode cL_ends 20 = .ok (.istore 5, 2) := by decide +kernel
theorem dL_ends_22 : decode cL_ends 22 = .ok (.aload_n 0, 1) := by decide +kernel
theorem dL_ends_23 : decode cL_ends 23 = .ok (.iconst 0, 1) := by decide +kernel
theorem dL_ends_24 : decode cL_ends 24 = .ok (.iload_n 1, 1) := by decide +kernel
theorem dL_ends_25 : decode cL_ends 25 = .ok (.invokevirtual 235, 3) := by decide +kernel
theorem dL_ends_28 : decode cL_ends 28 = .ok (.istore 6, 2) := by decide +kernel
theorem dL_ends_30 : decode cL_ends 30 = .ok (.aload_n 0, 1) := by decide +kernel
theorem dL_ends_31 : decode cL_ends 31 = .ok (.iconst 0, 1) := by decide +kernel
theorem dL_ends_32 : decode cL_ends 32 = .ok (.invokevirtual 150, 3) := by decide +kernel
theorem dL_ends_35 : decode cL_ends 35 = .ok (.istore 7, 2) := by decide +kernel
theorem dL_ends_37 : decode cL_ends 37 = .ok (.aload_n 0, 1) := by decide +kernel
theorem dL_ends_38 : decode cL_ends 38 = .ok (.invokevirtual 88, 3) := by decide +kernel
theorem dL_ends_41 : decode cL_ends 41 = .ok (.istore 8, 2) := by decide +kernel
theorem dL_ends_43 : decode cL_ends 43 = .ok (.aload_n 0, 1) := by decide +kernel
theorem dL_ends_44 : decode cL_ends 44 = .ok (.invokevirtual 238, 3) := by decide +kernel
theorem dL_ends_47 : decode cL_ends 47 = .ok (.istore 9, 2) := by decide +kernel
theorem dL_ends_49 : decode cL_ends 49 = .ok (.aload_n 0, 1) := by decide +kernel
theorem dL_ends_50 : decode cL_ends 50 = .ok (.invokevirtual 104, 3) := by decide +kernel
theorem dL_ends_53 : decode cL_ends 53 = .ok (.istore 10, 2) := by decide +kernel
theorem dL_ends_55 : decode cL_ends 55 = .ok (.aload_n 0, 1) := by decide +kernel
theorem dL_ends_56 : decode cL_ends 56 = .ok (.iload_n 2, 1) := by decide +kernel
theorem dL_ends_57 : decode cL_ends 57 = .ok (.invokevirtual 115, 3) := by decide +kernel
theorem dL_ends_60 : decode cL_ends 60 = .ok (.ifCond .lt 7, 3) := by decide +kernel
theorem dL_ends_63 : decode cL_ends 63 = .ok (.iconst 1, 1) := by decide +kernel
theorem dL_ends_64 : decode cL_ends 64 = .ok (.goto 4, 3) := by decide +kernel
theorem dL_ends_67 : decode cL_ends 67 = .ok (.iconst 0, 1) := by decide +kernel
theorem dL_ends_68 : decode cL_ends 68 = .ok (.istore 11, 2) := by decide +kernel
theorem dL_ends_70 : decode cL_ends 70 = .ok (.aload_n 0, 1) := by decide +kernel
theorem dL_ends_71 : decode cL_ends 71 = .ok (.bipush 7, 2) := by decide +kernel
theorem dL_ends_73 : decode cL_ends 73 = .ok (.iload_n 1, 1) := by decide +kernel
theorem dL_ends_74 : decode cL_ends 74 = .ok (.iconst 0, 1) := by decide +kernel
theorem dL_ends_75 : decode cL_ends 75 = .ok (.invokestatic 241, 3) := by decide +kernel
theorem dL_ends_78 : decode cL_ends 78 = .ok (.istore 12, 2) := by decide +kernel
theorem dL_ends_80 : decode cL_ends 80 = .ok (.iload 12, 2) := by decide +kernel
theorem dL_ends_82 : decode cL_ends 82 = .ok (.iload 4, 2) := by decide +kernel
theorem dL_ends_84 : decode cL_ends 84 = .ok (.iload 5, 2) := by decide +kernel
theorem dL_ends_86 : decode cL_ends 86 = .ok (.iadd, 1) := by decide +kernel
theorem dL_ends_87 : decode cL_ends 87 = .ok (.if_icmp .ne 37, 3) := by decide +kernel
theorem dL_ends_90 : decode cL_ends 90 = .ok (.aload_n 0, 1) := by decide +kernel
theorem dL_ends_91 : decode cL_ends 91 = .ok (.iconst 0, 1) := by decide +kernel
theorem dL_ends_92 : decode cL_ends 92 = .ok (.invokevirtual 150, 3) := by decide +kernel
theorem dL_ends_95 : decode cL_ends 95 = .ok (.iload 7, 2) := by decide +kernel
theorem dL_ends_97 : decode cL_ends 97 = .ok (.iload 4, 2) := by decide +kernel
theorem dL_ends_99 : decode cL_ends 99 = .ok (.iadd, 1) := by decide +kernel
theorem dL_ends_100 : decode cL_ends 100 = .ok (.if_icmp .ne 24, 3) := by decide +kernel
theorem dL_ends_103 : decode cL_ends 103 = .ok (.aload_n 0, 1) := by decide +kernel
theorem dL_ends_104 : decode cL_ends 104 = .ok (.iconst 0, 1) := by decide +kernel
theorem dL_ends_105 : decode cL_ends 105 = .ok (.invokevirtual 135, 3) := by decide +kernel
theorem dL_ends_108 : decode cL_ends 108 = .ok (.iload 6, 2) := by decide +kernel
theorem dL_ends_110 : decode cL_ends 110 = .ok (.if_icmp .ne 14, 3) := by decide +kernel
theorem dL_ends_113 : decode cL_ends 113 = .ok (.aload_n 0, 1) := by decide +kernel
theorem dL_ends_114 : decode cL_ends 114 = .ok (.invokevirtual 88, 3) := by decide +kernel
theorem dL_ends_117 : decode cL_ends 117 = .ok (.iload 8, 2) := by decide +kernel
theorem dL_ends_119 : decode cL_ends 119 = .ok (.iload_n 1, 1) := by decide +kernel
theorem dL_ends_120 : decode cL_ends 120 = .ok (.iadd, 1) := by decide +kernel
theorem dL_ends_121 : decode cL_ends 121 = .ok (.if_icmp .eq 5, 3) := by decide +kernel
theorem dL_ends_124 : decode cL_ends 124 = .ok (.iconst 0, 1) := by decide +kernel
theorem dL_ends_125 : decode cL_ends 125 = .ok (.ireturn, 1) := by decide +kernel
theorem dL_ends_126 : decode cL_ends 126 = .ok (.iload 9, 2) := by decide +kernel
theorem dL_ends_128 : decode cL_ends 128 = .ok (.iload_n 1, 1) := by decide +kernel
theorem dL_ends_129 : decode cL_ends 129 = .ok (.if_icmp .le 12, 3) := by decide +kernel
theorem dL_ends_132 : decode cL_ends 132 = .ok (.aload_n 0, 1) := by decide +kernel
theorem dL_ends_133 : decode cL_ends 133 = .ok (.invokevirtual 104, 3) := by decide +kernel
theorem dL_ends_136 : decode cL_ends 136 = .ok (.iload 10, 2) := by decide +kernel
theorem dL_ends_138 : decode cL_ends 138 = .ok (.if_icmp .ne 35, 3) := by decide +kernel
theorem dL_ends_141 : decode cL_ends 141 = .ok (.iload 11, 2) := by decide +kernel
theorem dL_ends_143 : decode cL_ends 143 = .ok (.iload_n 3, 1) := by decide +kernel
theorem dL_ends_144 : decode cL_ends 144 = .ok (.ifCond .eq 7, 3) := by decide +kernel
theorem dL_ends_147 : decode cL_ends 147 = .ok (.iconst 1, 1) := by decide +kernel
theorem dL_ends_148 : decode cL_ends 148 = .ok (.goto 4, 3) := by decide +kernel
theorem dL_ends_151 : decode cL_ends 151 = .ok (.iconst 0, 1) := by decide +kernel
theorem dL_ends_152 : decode cL_ends 152 = .ok (.if_icmp .ne 21, 3) := by decide +kernel
theorem dL_ends_155 : decode cL_ends 155 = .ok (.iload_n 3, 1) := by decide +kernel
theorem dL_ends_156 : decode cL_ends 156 = .ok (.iload_n 1, 1) := by decide +kernel
theorem dL_ends_157 : decode cL_ends 157 = .ok (.if_icmp .ne 12, 3) := by decide +kernel
theorem dL_ends_160 : decode cL_ends 160 = .ok (.aload_n 0, 1) := by decide +kernel
theorem dL_ends_161 : decode cL_ends 161 = .ok (.iload_n 2, 1) := by decide +kernel
theorem dL_ends_162 : decode cL_ends 162 = .ok (.invokevirtual 115, 3) := by decide +kernel
theorem dL_ends_165 : decode cL_ends 165 = .ok (.iconst (-1), 1) := by decide +kernel
theorem dL_ends_166 : decode cL_ends 166 = .ok (.if_icmp .ne 7, 3) := by decide +kernel
theorem dL_ends_169 : decode cL_ends 169 = .ok (.iconst 1, 1) := by decide +kernel
theorem dL_ends_170 : decode cL_ends 170 = .ok (.goto 4, 3) := by decide +kernel
theorem dL_ends_173 : decode cL_ends 173 = .ok (.iconst 0, 1) := by decide +kernel
theorem dL_ends_174 : decode cL_ends 174 = .ok (.ireturn, 1) := by decide +kernel
def F_L_ends (N : Nat) (a1 : Int32) (a2 : Int32) (S : SS) : Option (Bool × SS) := (ob1 (okI (F_X10_daysUntilPruned N a2 S)) fun r1 => (ob1 (okI (F_X10_deliveredAfter N 0 a1 r1.2)) fun r2 => (ob1 (okI (F_X10_deliveredAfter N 1 a1 r2.2)) fun r3 => (ob1 (okI (F_X10_pendingAfter N 0 a1 r3.2)) fun r4 => (ob1 (okI (F_X10_messagesDelivered 0 r4.2)) fun v5 => (ob1 (F_X10_daysUntilInspection r4.2) fun v6 => (ob1 (okI (F_X10_letterAt a2 r4.2)) fun v7 => (ob1 ((if v7 < 0 then some 0 else some 1) : Option Int32) fun v9 => (ob1 (fdR (F_X10_endDays N a1 r4.2)) fun r10 => (if r10.1 = (r2.1 + r3.1) then (ob1 (okI (F_X10_messagesDelivered 0 r10.2)) fun v11 => (if v11 = (v5 + r2.1) then (ob1 (okI (F_X10_pendingCount 0 r10.2)) fun v12 => (if v12 = r4.1 then (if (F_X10_day r10.2) = ((F_X10_day r4.2) + a1) then (om (if v6 ≤ a1 then some (.inl ()) else (if (F_X10_twigsPruned r10.2) = (F_X10_twigsPruned r4.2) then some (.inl ()) else some (.inr false))) (fun r => some (r, r10.2)) (fun _ => (ob1 ((if r1.1 = 0 then some 0 else some 1) : Option Int32) fun v15 => (if v9 = v15 then (om (if r1.1 = a1 then (ob1 (okI (F_X10_letterAt a2 r10.2)) fun v17 => (if v17 = (-1) then some (.inl ()) else some (.inr false))) else some (.inl ())) (fun r => some (r, r10.2)) (fun _ => some (true, r10.2))) else some (false, r10.2))))) else some (false, r10.2)) else some (false, r10.2))) else some (false, r10.2))) else some (false, r10.2)))))))))))
theorem c_L_ends {w : WP} (hW : gW w) (hS : gS w) (hZ : gZ w) {S : SS} {o : HV × CT} (N : Nat) (a1 : Int32) (a2 : Int32) {v : Bool} {S' : SS} (hF : F_L_ends N a1 a2 S = some (v, S')) : gMg w 9 yL_ends cL_ends 13 (some .boolean) [.ref (wAd w (7, 11, 6, 0)), .int a1, .int a2] (cA w (S, o)) (some (.int (b2i v))) (cA w (S', o)) 1 6 := by
  refine gMg_of "HedgeMessagesLaw" rfl (by decide) (kR rfl) fun X C hT => ?_
  unfold F_L_ends at hF
  show gU w X _ _ 0 [(0, .ref (wAd w (7, 11, 6, 0))), (1, .int a1), (2, .int a2)] []
  refine r_aload_n C (k := 0) rfl rfl dL_ends_0 ?_
  refine r_iload_n C (k := 2) rfl rfl dL_ends_1 ?_
  obtain ⟨r1, hr1, hF⟩ := ob1_e hF
  refine r_callV C (d' := 7) [.int a2] (c_X10_daysUntilPruned (Ω := (S, o)) hW hS rfl N a2 (v := r1.1) (S' := r1.2) (okI_e hr1) rfl) myX10_daysUntilPruned wm5_197 ⟨_, _, _, _, (hW.ok k7), rfl, rfl, rfl, rfl⟩ rfl (kR rfl) (by decide) (kR rfl) rfl dL_ends_2 ?_ (hT.q (Nat.zero_le _) (Nat.zero_le _))
  refine r_istore_n C (lo' := [(3, .int r1.1), (0, .ref (wAd w (7, 11, 6, 0))), (1, .int a1), (2, .int a2)]) rfl (by decide) rfl dL_ends_5 ?_
  refine r_aload_n C (k := 1) rfl rfl dL_ends_6 ?_
  refine r_iconst C (v := 0) rfl dL_ends_7 ?_
  refine r_iload_n C (k := 2) rfl rfl dL_ends_8 ?_
  obtain ⟨r2, hr2, hF⟩ := ob1_e hF
  refine r_callV C (d' := 7) [.int 0, .int a1] (c_X10_deliveredAfter (Ω := (r1.2, o)) hW hS rfl N 0 a1 (v := r2.1) (S' := r2.2) (okI_e hr2) rfl) myX10_deliveredAfter wm5_201 ⟨_, _, _, _, (hW.ok k7), rfl, rfl, rfl, rfl⟩ rfl (kR rfl) (by decide) (kR rfl) rfl dL_ends_9 ?_ (hT.q (Nat.zero_le _) (Nat.zero_le _))
  refine r_istore C (lo' := [(4, .int r2.1), (3, .int r1.1), (0, .ref (wAd w (7, 11, 6, 0))), (1, .int a1), (2, .int a2)]) (by decide) rfl dL_ends_12 ?_
  refine r_aload_n C (k := 2) rfl rfl dL_ends_14 ?_
  refine r_iconst C (v := 1) rfl dL_ends_15 ?_
  refine r_iload_n C (k := 3) rfl rfl dL_ends_16 ?_
  obtain ⟨r3, hr3, hF⟩ := ob1_e hF
  refine r_callV C (d' := 7) [.int 1, .int a1] (c_X10_deliveredAfter (Ω := (r2.2, o)) hW hS rfl N 1 a1 (v := r3.1) (S' := r3.2) (okI_e hr3) rfl) myX10_deliveredAfter wm5_201 ⟨_, _, _, _, (hW.ok k7), rfl, rfl, rfl, rfl⟩ rfl (kR rfl) (by decide) (kR rfl) rfl dL_ends_17 ?_ (hT.q (Nat.zero_le _) (Nat.zero_le _))
  refine r_istore C (lo' := [(5, .int r3.1), (4, .int r2.1), (3, .int r1.1), (0, .ref (wAd w (7, 11, 6, 0))), (1, .int a1), (2, .int a2)]) (by decide) rfl dL_ends_20 ?_
  refine r_aload_n C (k := 3) rfl rfl dL_ends_22 ?_
  refine r_iconst C (v := 0) rfl dL_ends_23 ?_
  refine r_iload_n C (k := 4) rfl rfl dL_ends_24 ?_
  obtain ⟨r4, hr4, hF⟩ := ob1_e hF
  refine r_callV C (d' := 7) [.int 0, .int a1] (c_X10_pendingAfter (Ω := (r3.2, o)) hW hS rfl N 0 a1 (v := r4.1) (S' := r4.2) (okI_e hr4) rfl) myX10_pendingAfter wm5_209 ⟨_, _, _, _, (hW.ok k7), rfl, rfl, rfl, rfl⟩ rfl (kR rfl) (by decide) (kR rfl) rfl dL_ends_25 ?_ (hT.q (Nat.zero_le _) (Nat.zero_le _))
  refine r_istore C (lo' := [(6, .int r4.1), (5, .int r3.1), (4, .int r2.1), (3, .int r1.1), (0, .ref (wAd w (7, 11, 6, 0))), (1, .int a1), (2, .int a2)]) (by decide) rfl dL_ends_28 ?_
  refine r_aload_n C (k := 4) rfl rfl dL_ends_30 ?_
  refine r_iconst C (v := 0) rfl dL_ends_31 ?_
  obtain ⟨v5, hv5, hF⟩ := ob1_e hF
  refine r_callV C (d' := 7) [.int 0] (c_X10_messagesDelivered (Ω := (r4.2, o)) hW hS rfl 0 (okI_e hv5)) myX10_messagesDelivered wm5_61 ⟨_, _, _, _, (hW.ok k7), rfl, rfl, rfl, rfl⟩ rfl (kR rfl) (by decide) (kR rfl) rfl dL_ends_32 ?_ (hT.q (Nat.zero_le _) (Nat.zero_le _))
  refine r_istore C (lo' := [(7, .int v5), (6, .int r4.1), (5, .int r3.1), (4, .int r2.1), (3, .int r1.1), (0, .ref (wAd w (7, 11, 6, 0))), (1, .int a1), (2, .int a2)]) (by decide) rfl dL_ends_35 ?_
  refine r_aload_n C (k := 5) rfl rfl dL_ends_37 ?_
  refine r_callV C (d' := 0) [] (c_X10_day (Ω := (r4.2, o)) hW rfl rfl) myX10_day wm2_187 ⟨_, _, _, _, (hW.ok k7), rfl, rfl, rfl, rfl⟩ rfl (kR rfl) (by decide) (kR rfl) rfl dL_ends_38 ?_ (hT.q (Nat.zero_le _) (Nat.zero_le _))
  refine r_istore C (lo' := [(8, .int (F_X10_day r4.2)), (7, .int v5), (6, .int r4.1), (5, .int r3.1), (4, .int r2.1), (3, .int r1.1), (0, .ref (wAd w (7, 11, 6, 0))), (1, .int a1), (2, .int a2)]) (by decide) rfl dL_ends_41 ?_
  refine r_aload_n C (k := 6) rfl rfl dL_ends_43 ?_
  obtain ⟨v6, hv6, hF⟩ := ob1_e hF
  refine r_callV C (d' := 1) [] (c_X10_daysUntilInspection (Ω := (r4.2, o)) hW rfl hv6) myX10_daysUntilInspection wm5_213 ⟨_, _, _, _, (hW.ok k7), rfl, rfl, rfl, rfl⟩ rfl (kR rfl) (by decide) (kR rfl) rfl dL_ends_44 ?_ (hT.q (Nat.zero_le _) (Nat.zero_le _))
  refine r_istore C (lo' := [(9, .int v6), (8, .int (F_X10_day r4.2)), (7, .int v5), (6, .int r4.1), (5, .int r3.1), (4, .int r2.1), (3, .int r1.1), (0, .ref (wAd w (7, 11, 6, 0))), (1, .int a1), (2, .int a2)]) (by decide) rfl dL_ends_47 ?_
  refine r_aload_n C (k := 7) rfl rfl dL_ends_49 ?_
  refine r_callV C (d' := 0) [] (c_X10_twigsPruned (Ω := (r4.2, o)) hW rfl rfl) myX10_twigsPruned wm4_239 ⟨_, _, _, _, (hW.ok k7), rfl, rfl, rfl, rfl⟩ rfl (kR rfl) (by decide) (kR rfl) rfl dL_ends_50 ?_ (hT.q (Nat.zero_le _) (Nat.zero_le _))
  refine r_istore C (lo' := [(10, .int (F_X10_twigsPruned r4.2)), (9, .int v6), (8, .int (F_X10_day r4.2)), (7, .int v5), (6, .int r4.1), (5, .int r3.1), (4, .int r2.1), (3, .int r1.1), (0, .ref (wAd w (7, 11, 6, 0))), (1, .int a1), (2, .int a2)]) (by decide) rfl dL_ends_53 ?_
  refine r_aload_n C (k := 8) rfl rfl dL_ends_55 ?_
  refine r_iload_n C (k := 10) rfl rfl dL_ends_56 ?_
  obtain ⟨v7, hv7, hF⟩ := ob1_e hF
  refine r_callV C (d' := 7) [.int a2] (c_X10_letterAt (Ω := (r4.2, o)) hW hS rfl a2 (okI_e hv7)) myX10_letterAt wm5_12 ⟨_, _, _, _, (hW.ok k7), rfl, rfl, rfl, rfl⟩ rfl (kR rfl) (by decide) (kR rfl) rfl dL_ends_57 ?_ (hT.q (Nat.zero_le _) (Nat.zero_le _))
  obtain ⟨v9, hq8, hF⟩ := ob1_e hF
  have kq8 : ∀ a, v9 = a → gU w X (qH1 w X (some (.int (b2i v)), cA w (S', o)) 1 6, 0, 0) (cA w (r4.2, o)) 68 [(0, .ref (wAd w (7, 11, 6, 0))), (1, .int a1), (2, .int a2), (3, .int r1.1), (4, .int r2.1), (5, .int r3.1), (6, .int r4.1), (7, .int v5), (8, .int (F_X10_day r4.2)), (9, .int v6), (10, .int (F_X10_twigsPruned r4.2))] (.int a :: []) := by
    intro a ha
    subst ha
    refine r_istore C (lo' := [(11, .int v9), (0, .ref (wAd w (7, 11, 6, 0))), (1, .int a1), (2, .int a2), (3, .int r1.1), (4, .int r2.1), (5, .int r3.1), (6, .int r4.1), (7, .int v5), (8, .int (F_X10_day r4.2)), (9, .int v6), (10, .int (F_X10_twigsPruned r4.2))]) (by decide) rfl dL_ends_68 ?_
    refine r_aload_n C (k := 1) rfl rfl dL_ends_70 ?_
    refine r_bipush C (v := 7) rfl dL_ends_71 ?_
    refine r_iload_n C (k := 2) rfl rfl dL_ends_73 ?_
    refine r_iconst C (v := 0) rfl dL_ends_74 ?_
    obtain ⟨r10, hr10, hF⟩ := ob1_e hF
    refine r_callH C (d' := 8) [.ref (wAd w (7, 11, 6, 0)), .int 7, .int a1, .int 0] (ny := 4) (c_does_7 (S' := r10.2) (v := r10.1) hW hS hZ N a1 0 hr10) cwL_does rfl wm1_0 wm3_194 ⟨by decide, by decide, by decide +kernel⟩ wm3_193 rfl (by decide) (kR rfl) (kR rfl) rfl dL_ends_75 (hT.q (Nat.le_refl _) (Nat.le_refl _)) ?_
    refine r_istore C (lo' := [(12, .int r10.1), (11, .int v9), (0, .ref (wAd w (7, 11, 6, 0))), (1, .int a1), (2, .int a2), (3, .int r1.1), (4, .int r2.1), (5, .int r3.1), (6, .int r4.1), (7, .int v5), (8, .int (F_X10_day r4.2)), (9, .int v6), (10, .int (F_X10_twigsPruned r4.2))]) (by decide) rfl dL_ends_78 ?_
    refine r_iload C (k := 0) rfl dL_ends_80 ?_
    refine r_iload C (k := 6) rfl dL_ends_82 ?_
    refine r_iload C (k := 7) rfl dL_ends_84 ?_
    refine r_iadd C dL_ends_86 ?_
    refine r_icmp_ne C (tgt := 124) rfl dL_ends_87 (fun hc => ?_) (fun hc => ?_)
    · rw [if_neg hc] at hF
      refine r_iconst C (v := 0) rfl dL_ends_124 ?_
      cases hF
      refine r_wid (c' := 1) (s' := 6) (Nat.le_refl _) (Nat.le_refl _) ?_
      exact r_hzreturn C false rfl dL_ends_125
    · rw [if_pos hc] at hF
      refine r_aload_n C (k := 2) rfl rfl dL_ends_90 ?_
      refine r_iconst C (v := 0) rfl dL_ends_91 ?_
      obtain ⟨v11, hv11, hF⟩ := ob1_e hF
      refine r_callV C (d' := 7) [.int 0] (c_X10_messagesDelivered (Ω := (r10.2, o)) hW hS rfl 0 (okI_e hv11)) myX10_messagesDelivered wm5_61 ⟨_, _, _, _, (hW.ok k7), rfl, rfl, rfl, rfl⟩ rfl (kR rfl) (by decide) (kR rfl) rfl dL_ends_92 ?_ (hT.q (Nat.le_refl _) (Nat.le_refl _))
      refine r_iload C (k := 9) rfl dL_ends_95 ?_
      refine r_iload C (k := 6) rfl dL_ends_97 ?_
      refine r_iadd C dL_ends_99 ?_
      refine r_icmp_ne C (tgt := 124) rfl dL_ends_100 (fun hc => ?_) (fun hc => ?_)
      · rw [if_neg hc] at hF
        refine r_iconst C (v := 0) rfl dL_ends_124 ?_
        cases hF
        refine r_wid (c' := 1) (s' := 6) (Nat.le_refl _) (Nat.le_refl _) ?_
        exact r_hzreturn C false rfl dL_ends_125
      · rw [if_pos hc] at hF
        refine r_aload_n C (k := 2) rfl rfl dL_ends_103 ?_
        refine r_iconst C (v := 0) rfl dL_ends_104 ?_
        obtain ⟨v12, hv12, hF⟩ := ob1_e hF
        refine r_callV C (d' := 7) [.int 0] (c_X10_pendingCount (Ω := (r10.2, o)) hW hS rfl 0 (okI_e hv12)) myX10_pendingCount wm5_36 ⟨_, _, _, _, (hW.ok k7), rfl, rfl, rfl, rfl⟩ rfl (kR rfl) (by decide) (kR rfl) rfl dL_ends_105 ?_ (hT.q (Nat.le_refl _) (Nat.le_refl _))
        refine r_iload C (k := 8) rfl dL_ends_108 ?_
        refine r_icmp_ne C (tgt := 124) rfl dL_ends_110 (fun hc => ?_) (fun hc => ?_)
        · rw [if_neg hc] at hF
          refine r_iconst C (v := 0) rfl dL_ends_124 ?_
          cases hF
          refine r_wid (c' := 1) (s' := 6) (Nat.le_refl _) (Nat.le_refl _) ?_
          exact r_hzreturn C false rfl dL_ends_125
        · rw [if_pos hc] at hF
          refine r_aload_n C (k := 2) rfl rfl dL_ends_113 ?_
          refine r_callV C (d' := 0) [] (c_X10_day (Ω := (r10.2, o)) hW rfl rfl) myX10_day wm2_187 ⟨_, _, _, _, (hW.ok k7), rfl, rfl, rfl, rfl⟩ rfl (kR rfl) (by decide) (kR rfl) rfl dL_ends_114 ?_ (hT.q (Nat.le_refl _) (Nat.le_refl _))
          refine r_iload C (k := 10) rfl dL_ends_117 ?_
          refine r_iload_n C (k := 3) rfl rfl dL_ends_119 ?_
          refine r_iadd C dL_ends_120 ?_
          refine r_icmp_eq C (tgt := 126) rfl dL_ends_121 (fun hc => ?_) (fun hc => ?_)
          · rw [if_pos hc] at hF
            refine r_iload C (k := 11) rfl dL_ends_126 ?_
            refine r_iload_n C (k := 3) rfl rfl dL_ends_128 ?_
            obtain ⟨q13, hq13, hF⟩ := om_e hF
            have kq13 : ∀ a : Unit, q13 = .inl a → gU w X (qH1 w X (some (.int (b2i v)), cA w (S', o)) 1 6, 1, 6) (cA w (r10.2, o)) 141 [(0, .ref (wAd w (7, 11, 6, 0))), (1, .int a1), (2, .int a2), (3, .int r1.1), (11, .int v9)] [] := by
              rintro ⟨⟩ ha
              subst ha
              dsimp only [Sum.elim_inl] at hF
              refine r_iload C (k := 4) rfl dL_ends_141 ?_
              refine r_iload_n C (k := 3) rfl rfl dL_ends_143 ?_
              obtain ⟨v15, hq14, hF⟩ := ob1_e hF
              have kq14 : ∀ a, v15 = a → gU w X (qH1 w X (some (.int (b2i v)), cA w (S', o)) 1 6, 1, 6) (cA w (r10.2, o)) 152 [(0, .ref (wAd w (7, 11, 6, 0))), (1, .int a1), (2, .int a2), (3, .int r1.1)] (.int a :: [.int v9]) := by
                intro a ha
                subst ha
                refine r_icmp_ne C (tgt := 173) rfl dL_ends_152 (fun hc => ?_) (fun hc => ?_)
                · rw [if_neg hc] at hF
                  refine r_iconst C (v := 0) rfl dL_ends_173 ?_
                  cases hF
                  refine r_wid (c' := 1) (s' := 6) (Nat.le_refl _) (Nat.le_refl _) ?_
                  exact r_hzreturn C false rfl dL_ends_174
                · rw [if_pos hc] at hF
                  refine r_iload_n C (k := 3) rfl rfl dL_ends_155 ?_
                  refine r_iload_n C (k := 1) rfl rfl dL_ends_156 ?_
                  obtain ⟨q16, hq16, hF⟩ := om_e hF
                  have kq16 : ∀ a : Unit, q16 = .inl a → gU w X (qH1 w X (some (.int (b2i v)), cA w (S', o)) 1 6, 1, 6) (cA w (r10.2, o)) 169 [] [] := by
                    rintro ⟨⟩ ha
                    subst ha
                    dsimp only [Sum.elim_inl] at hF
                    refine r_iconst C (v := 1) rfl dL_ends_169 ?_
                    refine r_goto C (tgt := 174) rfl dL_ends_170 ?_
                    cases hF
                    refine r_wid (c' := 1) (s' := 6) (Nat.le_refl _) (Nat.le_refl _) ?_
                    exact r_hzreturn C true rfl dL_ends_174
                  refine r_icmp_ne C (tgt := 169) rfl dL_ends_157 (fun hc => ?_) (fun hc => ?_)
                  · rw [if_neg hc] at hq16
                    cases hq16
                    refine r_lo [] (lo' := []) rfl ?_
                    exact kq16 _ rfl
                  · rw [if_pos hc] at hq16
                    refine r_aload_n C (k := 0) rfl rfl dL_ends_160 ?_
                    refine r_iload_n C (k := 2) rfl rfl dL_ends_161 ?_
                    obtain ⟨v17, hv17, hq16⟩ := ob1_e hq16
                    refine r_callV C (d' := 7) [.int a2] (c_X10_letterAt (Ω := (r10.2, o)) hW hS rfl a2 (okI_e hv17)) myX10_letterAt wm5_12 ⟨_, _, _, _, (hW.ok k7), rfl, rfl, rfl, rfl⟩ rfl (kR rfl) (by decide) (kR rfl) rfl dL_ends_162 ?_ (hT.q (Nat.le_refl _) (Nat.le_refl _))
                    refine r_iconst C (v := (-1)) (by decide) dL_ends_165 ?_
                    refine r_icmp_ne C (tgt := 173) rfl dL_ends_166 (fun hc => ?_) (fun hc => ?_)
                    · rw [if_neg hc] at hq16
                      refine r_iconst C (v := 0) rfl dL_ends_173 ?_
                      cases hq16
                      change some _ = some _ at hF
                      cases hF
                      refine r_wid (c' := 1) (s' := 6) (Nat.le_refl _) (Nat.le_refl _) ?_
                      exact r_hzreturn C false rfl dL_ends_174
                    · rw [if_pos hc] at hq16
                      cases hq16
                      refine r_lo [] (lo' := []) rfl ?_
                      exact kq16 _ rfl
              refine r_if_eq C (tgt := 151) rfl dL_ends_144 (fun hc => ?_) (fun hc => ?_)
              · rw [if_pos hc] at hq14
                refine r_iconst C (v := 0) rfl dL_ends_151 ?_
                cases hq14
                refine r_lo [0, 1, 2, 3] (lo' := [(0, .ref (wAd w (7, 11, 6, 0))), (1, .int a1), (2, .int a2), (3, .int r1.1)]) rfl ?_
                exact kq14 _ rfl
              · rw [if_neg hc] at hq14
                refine r_iconst C (v := 1) rfl dL_ends_147 ?_
                refine r_goto C (tgt := 152) rfl dL_ends_148 ?_
                cases hq14
                refine r_lo [0, 1, 2, 3] (lo' := [(0, .ref (wAd w (7, 11, 6, 0))), (1, .int a1), (2, .int a2), (3, .int r1.1)]) rfl ?_
                exact kq14 _ rfl
            refine r_icmp_le C (tgt := 141) rfl dL_ends_129 (fun hc => ?_) (fun hc => ?_)
            · rw [if_pos hc] at hq13
              cases hq13
              refine r_lo [2, 3, 4, 5, 1] (lo' := [(0, .ref (wAd w (7, 11, 6, 0))), (1, .int a1), (2, .int a2), (3, .int r1.1), (11, .int v9)]) rfl ?_
              exact kq13 _ rfl
            · rw [if_neg hc] at hq13
              refine r_aload_n C (k := 2) rfl rfl dL_ends_132 ?_
              refine r_callV C (d' := 0) [] (c_X10_twigsPruned (Ω := (r10.2, o)) hW rfl rfl) myX10_twigsPruned wm4_239 ⟨_, _, _, _, (hW.ok k7), rfl, rfl, rfl, rfl⟩ rfl (kR rfl) (by decide) (kR rfl) rfl dL_ends_133 ?_ (hT.q (Nat.le_refl _) (Nat.le_refl _))
              refine r_iload C (k := 12) rfl dL_ends_136 ?_
              refine r_icmp_ne C (tgt := 173) rfl dL_ends_138 (fun hc => ?_) (fun hc => ?_)
              · rw [if_neg hc] at hq13
                refine r_iconst C (v := 0) rfl dL_ends_173 ?_
                cases hq13
                change some _ = some _ at hF
                cases hF
                refine r_wid (c' := 1) (s' := 6) (Nat.le_refl _) (Nat.le_refl _) ?_
                exact r_hzreturn C false rfl dL_ends_174
              · rw [if_pos hc] at hq13
                cases hq13
                refine r_lo [2, 3, 4, 5, 1] (lo' := [(0, .ref (wAd w (7, 11, 6, 0))), (1, .int a1), (2, .int a2), (3, .int r1.1), (11, .int v9)]) rfl ?_
                exact kq13 _ rfl
          · rw [if_neg hc] at hF
            refine r_iconst C (v := 0) rfl dL_ends_124 ?_
            cases hF
            refine r_wid (c' := 1) (s' := 6) (Nat.le_refl _) (Nat.le_refl _) ?_
            exact r_hzreturn C false rfl dL_ends_125
  refine r_if_lt C (tgt := 67) rfl dL_ends_60 (fun hc => ?_) (fun hc => ?_)
  · rw [if_pos hc] at hq8
    refine r_iconst C (v := 0) rfl dL_ends_67 ?_
    cases hq8
    refine r_lo [8, 9, 10, 7, 6, 5, 4, 3, 2, 1, 0] (lo' := [(0, .ref (wAd w (7, 11, 6, 0))), (1, .int a1), (2, .int a2), (3, .int r1.1), (4, .int r2.1), (5, .int r3.1), (6, .int r4.1), (7, .int v5), (8, .int (F_X10_day r4.2)), (9, .int v6), (10, .int (F_X10_twigsPruned r4.2))]) rfl ?_
    exact kq8 _ rfl
  · rw [if_neg hc] at hq8
    refine r_iconst C (v := 1) rfl dL_ends_63 ?_
    refine r_goto C (tgt := 68) rfl dL_ends_64 ?_
    cases hq8
    refine r_lo [8, 9, 10, 7, 6, 5, 4, 3, 2, 1, 0] (lo' := [(0, .ref (wAd w (7, 11, 6, 0))), (1, .int a1), (2, .int a2), (3, .int r1.1), (4, .int r2.1), (5, .int r3.1), (6, .int r4.1), (7, .int v5), (8, .int (F_X10_day r4.2)), (9, .int v6), (10, .int (F_X10_twigsPruned r4.2))]) rfl ?_
    exact kq8 _ rfl
theorem dL_acts_0 : decode cL_acts 0 = .ok (.iload_n 2, 1) := by decide +kernel
theorem dL_acts_1 : decode cL_acts 1 = .ok (.aload_n 0, 1) := by decide +kernel
theorem dL_acts_2 : decode cL_acts 2 = .ok (.invokevirtual 112, 3) := by decide +kernel
theorem dL_acts_5 : decode cL_acts 5 = .ok (.irem, 1) := by decide +kernel
theorem dL_acts_6 : decode cL_acts 6 = .ok (.istore 5, 2) := by decide +kernel
theorem dL_acts_8 : decode cL_acts 8 = .ok (.aload_n 0, 1) := by decide +kernel
theorem dL_acts_9 : decode cL_acts 9 = .ok (.invokevirtual 206, 3) := by decide +kernel
theorem dL_acts_12 : decode cL_acts 12 = .ok (.istore 6, 2) := by decide +kernel
theorem dL_acts_14 : decode cL_acts 14 = .ok (.aload_n 0, 1) := by decide +kernel
theorem dL_acts_15 : decode cL_acts 15 = .ok (.invokevirtual 91, 3) := by decide +kernel
theorem dL_acts_18 : decode cL_acts 18 = .ok (.istore 7, 2) := by decide +kernel
theorem dL_acts_20 : decode cL_acts 20 = .ok (.iload_n 1, 1) := by decide +kernel
theorem dL_acts_21 : decode cL_acts 21 = .ok (.tableswitch 714 0 8 #[51, 51, 63, 159, 250, 347, 463, 463, 622], 51) := by decide +kernel
theorem dL_acts_72 : decode cL_acts 72 = .ok (.aload_n 0, 1) := by decide +kernel
theorem dL_acts_73 : decode cL_acts 73 = .ok (.iconst 1, 1) := by decide +kernel
theorem dL_acts_74 : decode cL_acts 74 = .ok (.iload_n 3, 1) := by decide +kernel
theorem dL_acts_75 : decode cL_acts 75 = .ok (.iconst 3, 1) := by decide +kernel
theorem dL_acts_76 : decode cL_acts 76 = .ok (.irem, 1) := by decide +kernel
theorem dL_acts_77 : decode cL_acts 77 = .ok (.iadd, 1) := by decide +kernel
theorem dL_acts_78 : decode cL_acts 78 = .ok (.iload 5, 2) := by decide +kernel
theorem dL_acts_80 : decode cL_acts 80 = .ok (.invokestatic 245, 3) := by decide +kernel
theorem dL_acts_83 : decode cL_acts 83 = .ok (.ireturn, 1) := by decide +kernel
theorem dL_acts_84 : decode cL_acts 84 = .ok (.aload_n 0, 1) := by decide +kernel
theorem dL_acts_85 : decode cL_acts 85 = .ok (.iload 5, 2) := by decide +kernel
theorem dL_acts_87 : decode cL_acts 87 = .ok (.invokevirtual 181, 3) := by decide +kernel
theorem dL_acts_90 : decode cL_acts 90 = .ok (.istore 8, 2) := by decide +kernel
theorem dL_acts_92 : decode cL_acts 92 = .ok (.aload_n 0, 1) := by decide +kernel
theorem dL_acts_93 : decode cL_acts 93 = .ok (.iconst 0, 1) := by decide +kernel
theorem dL_acts_94 : decode cL_acts 94 = .ok (.iload 5, 2) := by decide +kernel
theorem dL_acts_96 : decode cL_acts 96 = .ok (.bipush 97, 2) := by decide +kernel
theorem dL_acts_98 : decode cL_acts 98 = .ok (.iload_n 3, 1) := by decide +kernel
theorem dL_acts_99 : decode cL_acts 99 = .ok (.bipush 26, 2) := by decide +kernel
theorem dL_acts_101 : decode cL_acts 101 = .ok (.irem, 1) := by decide +kernel
theorem dL_acts_102 : decode cL_acts 102 = .ok (.iadd, 1) := by decide +kernel
theorem dL_acts_103 : decode cL_acts 103 = .ok (.invokestatic 241, 3) := by decide +kernel
theorem dL_acts_106 : decode cL_acts 106 = .ok (.istore 9, 2) := by decide +kernel
theorem dL_acts_108 : decode cL_acts 108 = .ok (.iload 8, 2) := by decide +kernel
theorem dL_acts_110 : decode cL_acts 110 = .ok (.ifCond .le 18, 3) := by decide +kernel
theorem dL_acts_113 : decode cL_acts 113 = .ok (.iload 9, 2) := by decide +kernel
theorem dL_acts_115 : decode cL_acts 115 = .ok (.bipush (-3), 2) := by decide +kernel
theorem dL_acts_117 : decode cL_acts 117 = .ok (.if_icmp .ne 7, 3) := by decide +kernel
theorem dL_acts_120 : decode cL_acts 120 = .ok (.iconst 1, 1) := by decide +kernel
theorem dL_acts_121 : decode cL_acts 121 = .ok (.goto 58, 3) := by decide +kernel
theorem dL_acts_124 : decode cL_acts 124 = .ok (.iconst 0, 1) := by decide +kernel
theorem dL_acts_125 : decode cL_acts 125 = .ok (.goto 54, 3) := by decide +kernel
theorem dL_acts_128 : decode cL_acts 128 = .ok (.iload 9, 2) := by decide +kernel
theorem dL_acts_130 : decode cL_acts 130 = .ok (.iload 6, 2) := by decide +kernel
theorem dL_acts_132 : decode cL_acts 132 = .ok (.iconst 1, 1) := by decide +kernel
theorem dL_acts_133 : decode cL_acts 133 = .ok (.iadd, 1) := by decide +kernel
theorem dL_acts_134 : decode cL_acts 134 = .ok (.if_icmp .ne 44, 3) := by decide +kernel
theorem dL_acts_137 : decode cL_acts 137 = .ok (.aload_n 0, 1) := by decide +kernel
theorem dL_acts_138 : decode cL_acts 138 = .ok (.iload 5, 2) := by decide +kernel
theorem dL_acts_140 : decode cL_acts 140 = .ok (.invokevirtual 115, 3) := by decide +kernel
theorem dL_acts_143 : decode cL_acts 143 = .ok (.bipush 97, 2) := by decide +kernel
theorem dL_acts_145 : decode cL_acts 145 = .ok (.iload_n 3, 1) := by decide +kernel
theorem dL_acts_146 : decode cL_acts 146 = .ok (.bipush 26, 2) := by decide +kernel
theorem dL_acts_148 : decode cL_acts 148 = .ok (.irem, 1) := by decide +kernel
theorem dL_acts_149 : decode cL_acts 149 = .ok (.iadd, 1) := by decide +kernel
theorem dL_acts_150 : decode cL_acts 150 = .ok (.if_icmp .ne 28, 3) := by decide +kernel
theorem dL_acts_153 : decode cL_acts 153 = .ok (.aload_n 0, 1) := by decide +kernel
theorem dL_acts_154 : decode cL_acts 154 = .ok (.iload 5, 2) := by decide +kernel
theorem dL_acts_156 : decode cL_acts 156 = .ok (.invokevirtual 125, 3) := by decide +kernel
theorem dL_acts_159 : decode cL_acts 159 = .ok (.iconst 1, 1) := by decide +kernel
theorem dL_acts_160 : decode cL_acts 160 = .ok (.if_icmp .ne 18, 3) := by decide +kernel
theorem dL_acts_163 : decode cL_acts 163 = .ok (.aload_n 0, 1) := by decide +kernel
theorem dL_acts_164 : decode cL_acts 164 = .ok (.invokevirtual 91, 3) := by decide +kernel
theorem dL_acts_167 : decode cL_acts 167 = .ok (.iload 7, 2) := by decide +kernel
theorem dL_acts_169 : decode cL_acts 169 = .ok (.iconst 1, 1) := by decide +kernel
theorem dL_acts_170 : decode cL_acts 170 = .ok (.isub, 1) := by decide +kernel
theorem dL_acts_171 : decode cL_acts 171 = .ok (.if_icmp .ne 7, 3) := by decide +kernel
theorem dL_acts_174 : decode cL_acts 174 = .ok (.iconst 1, 1) := by decide +kernel
theorem dL_acts_175 : decode cL_acts 175 = .ok (.goto 4, 3) := by decide +kernel
theorem dL_acts_178 : decode cL_acts 178 = .ok (.iconst 0, 1) := by decide +kernel
theorem dL_acts_179 : decode cL_acts 179 = .ok (.ireturn, 1) := by decide +kernel
theorem dL_acts_180 : decode cL_acts 180 = .ok (.aload_n 0, 1) := by decide +kernel
theorem dL_acts_181 : decode cL_acts 181 = .ok (.iload 5, 2) := by decide +kernel
theorem dL_acts_183 : decode cL_acts 183 = .ok (.invokevirtual 178, 3) := by decide +kernel
theorem dL_acts_186 : decode cL_acts 186 = .ok (.istore 8, 2) := by decide +kernel
theorem dL_acts_188 : decode cL_acts 188 = .ok (.aload_n 0, 1) := by decide +kernel
theorem dL_acts_189 : decode cL_acts 189 = .ok (.iload 5, 2) := by decide +kernel
theorem dL_acts_191 : decode cL_acts 191 = .ok (.invokevirtual 115, 3) := by decide +kernel
theorem dL_acts_194 : decode cL_acts 194 = .ok (.istore 9, 2) := by decide +kernel
theorem dL_acts_196 : decode cL_acts 196 = .ok (.aload_n 0, 1) := by decide +kernel
theorem dL_acts_197 : decode cL_acts 197 = .ok (.iconst 1, 1) := by decide +kernel
theorem dL_acts_198 : decode cL_acts 198 = .ok (.iload 5, 2) := by decide +kernel
theorem dL_acts_200 : decode cL_acts 200 = .ok (.iconst 0, 1) := by decide +kernel
theorem dL_acts_201 : decode cL_acts 201 = .ok (.invokestatic 241, 3) := by decide +kernel
theorem dL_acts_204 : decode cL_acts 204 = .ok (.istore 10, 2) := by decide +kernel
theorem dL_acts_206 : decode cL_acts 206 = .ok (.iload 8, 2) := by decide +kernel
theorem dL_acts_208 : decode cL_acts 208 = .ok (.ifCond .le 18, 3) := by decide +kernel
theorem dL_acts_211 : decode cL_acts 211 = .ok (.iload 10, 2) := by decide +kernel
theorem dL_acts_213 : decode cL_acts 213 = .ok (.bipush (-3), 2) := by decide +kernel
theorem dL_acts_215 : decode cL_acts 215 = .ok (.if_icmp .ne 7, 3) := by decide +kernel
theorem dL_acts_218 : decode cL_acts 218 = .ok (.iconst 1, 1) := by decide +kernel
theorem dL_acts_219 : decode cL_acts 219 = .ok (.goto 51, 3) := by decide +kernel
theorem dL_acts_222 : decode cL_acts 222 = .ok (.iconst 0, 1) := by decide +kernel
theorem dL_acts_223 : decode cL_acts 223 = .ok (.goto 47, 3) := by decide +kernel
theorem dL_acts_226 : decode cL_acts 226 = .ok (.iload 10, 2) := by decide +kernel
theorem dL_acts_228 : decode cL_acts 228 = .ok (.iload 9, 2) := by decide +kernel
theorem dL_acts_230 : decode cL_acts 230 = .ok (.if_icmp .ne 39, 3) := by decide +kernel
theorem dL_acts_233 : decode cL_acts 233 = .ok (.aload_n 0, 1) := by decide +kernel
theorem dL_acts_234 : decode cL_acts 234 = .ok (.iload 5, 2) := by decide +kernel
theorem dL_acts_236 : decode cL_acts 236 = .ok (.invokevirtual 115, 3) := by decide +kernel
theorem dL_acts_239 : decode cL_acts 239 = .ok (.iconst (-1), 1) := by decide +kernel
theorem dL_acts_240 : decode cL_acts 240 = .ok (.if_icmp .ne 29, 3) := by decide +kernel
theorem dL_acts_243 : decode cL_acts 243 = .ok (.aload_n 0, 1) := by decide +kernel
theorem dL_acts_244 : decode cL_acts 244 = .ok (.invokevirtual 206, 3) := by decide +kernel
theorem dL_acts_247 : decode cL_acts 247 = .ok (.iload 6, 2) := by decide +kernel
theorem dL_acts_249 : decode cL_acts 249 = .ok (.iconst 1, 1) := by decide +kernel
theorem dL_acts_250 : decode cL_acts 250 = .ok (.isub, 1) := by decide +kernel
theorem dL_acts_251 : decode cL_acts 251 = .ok (.if_icmp .ne 18, 3) := by decide +kernel
theorem dL_acts_254 : decode cL_acts 254 = .ok (.aload_n 0, 1) := by decide +kernel
theorem dL_acts_255 : decode cL_acts 255 = .ok (.invokevirtual 91, 3) := by decide +kernel
theorem dL_acts_258 : decode cL_acts 258 = .ok (.iload 7, 2) := by decide +kernel
theorem dL_acts_260 : decode cL_acts 260 = .ok (.iconst 1, 1) := by decide +kernel
theorem dL_acts_261 : decode cL_acts 261 = .ok (.isub, 1) := by decide +kernel
theorem dL_acts_262 : decode cL_acts 262 = .ok (.if_icmp .ne 7, 3) := by decide +kernel
theorem dL_acts_265 : decode cL_acts 265 = .ok (.iconst 1, 1) := by decide +kernel
theorem dL_acts_266 : decode cL_acts 266 = .ok (.goto 4, 3) := by decide +kernel
theorem dL_acts_269 : decode cL_acts 269 = .ok (.iconst 0, 1) := by decide +kernel
theorem dL_acts_270 : decode cL_acts 270 = .ok (.ireturn, 1) := by decide +kernel
theorem dL_acts_271 : decode cL_acts 271 = .ok (.aload_n 0, 1) := by decide +kernel
theorem dL_acts_272 : decode cL_acts 272 = .ok (.iload 5, 2) := by decide +kernel
theorem dL_acts_274 : decode cL_acts 274 = .ok (.invokevirtual 184, 3) := by decide +kernel
theorem dL_acts_277 : decode cL_acts 277 = .ok (.istore 8, 2) := by decide +kernel
theorem dL_acts_279 : decode cL_acts 279 = .ok (.aload_n 0, 1) := by decide +kernel
theorem dL_acts_280 : decode cL_acts 280 = .ok (.iload 5, 2) := by decide +kernel
theorem dL_acts_282 : decode cL_acts 282 = .ok (.invokevirtual 125, 3) := by decide +kernel
theorem dL_acts_285 : decode cL_acts 285 = .ok (.istore 9, 2) := by decide +kernel
theorem dL_acts_287 : decode cL_acts 287 = .ok (.aload_n 0, 1) := by decide +kernel
theorem dL_acts_288 : decode cL_acts 288 = .ok (.iconst 2, 1) := by decide +kernel
theorem dL_acts_289 : decode cL_acts 289 = .ok (.iload 5, 2) := by decide +kernel
theorem dL_acts_291 : decode cL_acts 291 = .ok (.iconst 1, 1) := by decide +kernel
theorem dL_acts_292 : decode cL_acts 292 = .ok (.iload_n 3, 1) := by decide +kernel
theorem dL_acts_293 : decode cL_acts 293 = .ok (.bipush 9, 2) := by decide +kernel
theorem dL_acts_295 : decode cL_acts 295 = .ok (.irem, 1) := by decide +kernel
theorem dL_acts_296 : decode cL_acts 296 = .ok (.iadd, 1) := by decide +kernel
theorem dL_acts_297 : decode cL_acts 297 = .ok (.invokestatic 241, 3) := by decide +kernel
theorem dL_acts_300 : decode cL_acts 300 = .ok (.istore 10, 2) := by decide +kernel
theorem dL_acts_302 : decode cL_acts 302 = .ok (.iload 8, 2) := by decide +kernel
theorem dL_acts_304 : decode cL_acts 304 = .ok (.ifCond .le 18, 3) := by decide +kernel
theorem dL_acts_307 : decode cL_acts 307 = .ok (.iload 10, 2) := by decide +kernel
theorem dL_acts_309 : decode cL_acts 309 = .ok (.bipush (-3), 2) := by decide +kernel
theorem dL_acts_311 : decode cL_acts 311 = .ok (.if_icmp .ne 7, 3) := by decide +kernel
theorem dL_acts_314 : decode cL_acts 314 = .ok (.iconst 1, 1) := by decide +kernel
theorem dL_acts_315 : decode cL_acts 315 = .ok (.goto 52, 3) := by decide +kernel
theorem dL_acts_318 : decode cL_acts 318 = .ok (.iconst 0, 1) := by decide +kernel
theorem dL_acts_319 : decode cL_acts 319 = .ok (.goto 48, 3) := by decide +kernel
theorem dL_acts_322 : decode cL_acts 322 = .ok (.iload 10, 2) := by decide +kernel
theorem dL_acts_324 : decode cL_acts 324 = .ok (.iconst 1, 1) := by decide +kernel
theorem dL_acts_325 : decode cL_acts 325 = .ok (.iload 9, 2) := by decide +kernel
theorem dL_acts_327 : decode cL_acts 327 = .ok (.iconst 1, 1) := by decide +kernel
theorem dL_acts_328 : decode cL_acts 328 = .ok (.isub, 1) := by decide +kernel
theorem dL_acts_329 : decode cL_acts 329 = .ok (.iload_n 3, 1) := by decide +kernel
theorem dL_acts_330 : decode cL_acts 330 = .ok (.bipush 9, 2) := by decide +kernel
theorem dL_acts_332 : decode cL_acts 332 = .ok (.irem, 1) := by decide +kernel
theorem dL_acts_333 : decode cL_acts 333 = .ok (.isub, 1) := by decide +kernel
theorem dL_acts_334 : decode cL_acts 334 = .ok (.invokestatic 163, 3) := by decide +kernel
theorem dL_acts_337 : decode cL_acts 337 = .ok (.if_icmp .ne 29, 3) := by decide +kernel
theorem dL_acts_340 : decode cL_acts 340 = .ok (.aload_n 0, 1) := by decide +kernel
theorem dL_acts_341 : decode cL_acts 341 = .ok (.iload 5, 2) := by decide +kernel
theorem dL_acts_343 : decode cL_acts 343 = .ok (.invokevirtual 125, 3) := by decide +kernel
theorem dL_acts_346 : decode cL_acts 346 = .ok (.iload 10, 2) := by decide +kernel
theorem dL_acts_348 : decode cL_acts 348 = .ok (.if_icmp .ne 18, 3) := by decide +kernel
theorem dL_acts_351 : decode cL_acts 351 = .ok (.aload_n 0, 1) := by decide +kernel
theorem dL_acts_352 : decode cL_acts 352 = .ok (.invokevirtual 91, 3) := by decide +kernel
theorem dL_acts_355 : decode cL_acts 355 = .ok (.iload 7, 2) := by decide +kernel
theorem dL_acts_357 : decode cL_acts 357 = .ok (.iconst 1, 1) := by decide +kernel
theorem dL_acts_358 : decode cL_acts 358 = .ok (.isub, 1) := by decide +kernel
theorem dL_acts_359 : decode cL_acts 359 = .ok (.if_icmp .ne 7, 3) := by decide +kernel
theorem dL_acts_362 : decode cL_acts 362 = .ok (.iconst 1, 1) := by decide +kernel
theorem dL_acts_363 : decode cL_acts 363 = .ok (.goto 4, 3) := by decide +kernel
theorem dL_acts_366 : decode cL_acts 366 = .ok (.iconst 0, 1) := by decide +kernel
theorem dL_acts_367 : decode cL_acts 367 = .ok (.ireturn, 1) := by decide +kernel
theorem dL_acts_368 : decode cL_acts 368 = .ok (.aload_n 0, 1) := by decide +kernel
theorem dL_acts_369 : decode cL_acts 369 = .ok (.invokevirtual 209, 3) := by decide +kernel
theorem dL_acts_372 : decode cL_acts 372 = .ok (.istore 8, 2) := by decide +kernel
theorem dL_acts_374 : decode cL_acts 374 = .ok (.aload_n 0, 1) := by decide +kernel
theorem dL_acts_375 : decode cL_acts 375 = .ok (.invokevirtual 249, 3) := by decide +kernel
theorem dL_acts_378 : decode cL_acts 378 = .ok (.istore 9, 2) := by decide +kernel
theorem dL_acts_380 : decode cL_acts 380 = .ok (.iload 8, 2) := by decide +kernel
theorem dL_acts_382 : decode cL_acts 382 = .ok (.bipush 6, 2) := by decide +kernel
theorem dL_acts_384 : decode cL_acts 384 = .ok (.if_icmp .ge 16, 3) := by decide +kernel
theorem dL_acts_387 : decode cL_acts 387 = .ok (.aload_n 0, 1) := by decide +kernel
theorem dL_acts_388 : decode cL_acts 388 = .ok (.iload 5, 2) := by decide +kernel
theorem dL_acts_390 : decode cL_acts 390 = .ok (.invokevirtual 128, 3) := by decide +kernel
theorem dL_acts_393 : decode cL_acts 393 = .ok (.ifCond .ne 7, 3) := by decide +kernel
theorem dL_acts_396 : decode cL_acts 396 = .ok (.iconst 1, 1) := by decide +kernel
theorem dL_acts_397 : decode cL_acts 397 = .ok (.goto 4, 3) := by decide +kernel
theorem dL_acts_400 : decode cL_acts 400 = .ok (.iconst 0, 1) := by decide +kernel
theorem dL_acts_401 : decode cL_acts 401 = .ok (.istore 10, 2) := by decide +kernel
theorem dL_acts_403 : decode cL_acts 403 = .ok (.aload_n 0, 1) := by decide +kernel
theorem dL_acts_404 : decode cL_acts 404 = .ok (.iconst 3, 1) := by decide +kernel
theorem dL_acts_405 : decode cL_acts 405 = .ok (.iload 5, 2) := by decide +kernel
theorem dL_acts_407 : decode cL_acts 407 = .ok (.iconst 1, 1) := by decide +kernel
theorem dL_acts_408 : decode cL_acts 408 = .ok (.iload_n 3, 1) := by decide +kernel
theorem dL_acts_409 : decode cL_acts 409 = .ok (.bipush 8, 2) := by decide +kernel
theorem dL_acts_411 : decode cL_acts 411 = .ok (.irem, 1) := by decide +kernel
theorem dL_acts_412 : decode cL_acts 412 = .ok (.iadd, 1) := by decide +kernel
theorem dL_acts_413 : decode cL_acts 413 = .ok (.invokestatic 241, 3) := by decide +kernel
theorem dL_acts_416 : decode cL_acts 416 = .ok (.istore 11, 2) := by decide +kernel
theorem dL_acts_418 : decode cL_acts 418 = .ok (.iload 9, 2) := by decide +kernel
theorem dL_acts_420 : decode cL_acts 420 = .ok (.ifCond .ge 19, 3) := by decide +kernel
theorem dL_acts_423 : decode cL_acts 423 = .ok (.iload 8, 2) := by decide +kernel
theorem dL_acts_425 : decode cL_acts 425 = .ok (.bipush 6, 2) := by decide +kernel
theorem dL_acts_427 : decode cL_acts 427 = .ok (.if_icmp .eq 12, 3) := by decide +kernel
theorem dL_acts_430 : decode cL_acts 430 = .ok (.iload 8, 2) := by decide +kernel
theorem dL_acts_432 : decode cL_acts 432 = .ok (.aload_n 0, 1) := by decide +kernel
theorem dL_acts_433 : decode cL_acts 433 = .ok (.invokevirtual 112, 3) := by decide +kernel
theorem dL_acts_436 : decode cL_acts 436 = .ok (.if_icmp .ne 46, 3) := by decide +kernel
theorem dL_acts_439 : decode cL_acts 439 = .ok (.iload 10, 2) := by decide +kernel
theorem dL_acts_441 : decode cL_acts 441 = .ok (.ifCond .eq 30, 3) := by decide +kernel
theorem dL_acts_444 : decode cL_acts 444 = .ok (.iload 11, 2) := by decide +kernel
theorem dL_acts_446 : decode cL_acts 446 = .ok (.iload 8, 2) := by decide +kernel
theorem dL_acts_448 : decode cL_acts 448 = .ok (.iconst 1, 1) := by decide +kernel
theorem dL_acts_449 : decode cL_acts 449 = .ok (.iadd, 1) := by decide +kernel
theorem dL_acts_450 : decode cL_acts 450 = .ok (.if_icmp .ne 32, 3) := by decide +kernel
theorem dL_acts_453 : decode cL_acts 453 = .ok (.aload_n 0, 1) := by decide +kernel
theorem dL_acts_454 : decode cL_acts 454 = .ok (.iload 5, 2) := by decide +kernel
theorem dL_acts_456 : decode cL_acts 456 = .ok (.invokevirtual 128, 3) := by decide +kernel
theorem dL_acts_459 : decode cL_acts 459 = .ok (.iconst 1, 1) := by decide +kernel
theorem dL_acts_460 : decode cL_acts 460 = .ok (.iload_n 3, 1) := by decide +kernel
theorem dL_acts_461 : decode cL_acts 461 = .ok (.bipush 8, 2) := by decide +kernel
theorem dL_acts_463 : decode cL_acts 463 = .ok (.irem, 1) := by decide +kernel
theorem dL_acts_464 : decode cL_acts 464 = .ok (.iadd, 1) := by decide +kernel
theorem dL_acts_465 : decode cL_acts 465 = .ok (.if_icmp .ne 17, 3) := by decide +kernel
theorem dL_acts_468 : decode cL_acts 468 = .ok (.goto 10, 3) := by decide +kernel
theorem dL_acts_471 : decode cL_acts 471 = .ok (.iload 11, 2) := by decide +kernel
theorem dL_acts_473 : decode cL_acts 473 = .ok (.bipush (-3), 2) := by decide +kernel
theorem dL_acts_475 : decode cL_acts 475 = .ok (.if_icmp .ne 7, 3) := by decide +kernel
theorem dL_acts_478 : decode cL_acts 478 = .ok (.iconst 1, 1) := by decide +kernel
theorem dL_acts_479 : decode cL_acts 479 = .ok (.goto 4, 3) := by decide +kernel
theorem dL_acts_482 : decode cL_acts 482 = .ok (.iconst 0, 1) := by decide +kernel
theorem dL_acts_483 : decode cL_acts 483 = .ok (.ireturn, 1) := by decide +kernel
theorem dL_acts_484 : decode cL_acts 484 = .ok (.iload_n 2, 1) := by decide +kernel
theorem dL_acts_485 : decode cL_acts 485 = .ok (.iconst 2, 1) := by decide +kernel
theorem dL_acts_486 : decode cL_acts 486 = .ok (.irem, 1) := by decide +kernel
theorem dL_acts_487 : decode cL_acts 487 = .ok (.istore 8, 2) := by decide +kernel
theorem dL_acts_489 : decode cL_acts 489 = .ok (.aload_n 0, 1) := by decide +kernel
theorem dL_acts_490 : decode cL_acts 490 = .ok (.iload 8, 2) := by decide +kernel
theorem dL_acts_492 : decode cL_acts 492 = .ok (.invokevirtual 135, 3) := by decide +kernel
theorem dL_acts_495 : decode cL_acts 495 = .ok (.istore 9, 2) := by decide +kernel
theorem dL_acts_497 : decode cL_acts 497 = .ok (.new 252, 3) := by decide +kernel
theorem dL_acts_500 : decode cL_acts 500 = .ok (.dup, 1) := by decide +kernel
theorem dL_acts_501 : decode cL_acts 501 = .ok (.invokespecial 254, 3) := by decide +kernel
theorem dL_acts_504 : decode cL_acts 504 = .ok (.astore 10, 2) := by decide +kernel
theorem dL_acts_506 : decode cL_acts 506 = .ok (.iconst 0, 1) := by decide +kernel
theorem dL_acts_507 : decode cL_acts 507 = .ok (.istore 11, 2) := by decide +kernel
theorem dL_acts_509 : decode cL_acts 509 = .ok (.iload 11, 2) := by decide +kernel
theorem dL_acts_511 : decode cL_acts 511 = .ok (.iload_n 3, 1) := by decide +kernel
theorem dL_acts_512 : decode cL_acts 512 = .ok (.iconst 5, 1) := by decide +kernel
theorem dL_acts_513 : decode cL_acts 513 = .ok (.irem, 1) := by decide +kernel
theorem dL_acts_514 : decode cL_acts 514 = .ok (.if_icmp .gt 31, 3) := by decide +kernel
theorem dL_acts_517 : decode cL_acts 517 = .ok (.aload 10, 2) := by decide +kernel
theorem dL_acts_519 : decode cL_acts 519 = .ok (.bipush 97, 2) := by decide +kernel
theorem dL_acts_521 : decode cL_acts 521 = .ok (.iload_n 3, 1) := by decide +kernel
theorem dL_acts_522 : decode cL_acts 522 = .ok (.iconst 5, 1) := by decide +kernel
theorem dL_acts_523 : decode cL_acts 523 = .ok (.idiv, 1) := by decide +kernel
theorem dL_acts_524 : decode cL_acts 524 = .ok (.bipush 7, 2) := by decide +kernel
theorem dL_acts_526 : decode cL_acts 526 = .ok (.iload 11, 2) := by decide +kernel
theorem dL_acts_528 : decode cL_acts 528 = .ok (.imul, 1) := by decide +kernel
theorem dL_acts_529 : decode cL_acts 529 = .ok (.iadd, 1) := by decide +kernel
theorem dL_acts_530 : decode cL_acts 530 = .ok (.bipush 26, 2) := by decide +kernel
theorem dL_acts_532 : decode cL_acts 532 = .ok (.irem, 1) := by decide +kernel
theorem dL_acts_533 : decode cL_acts 533 = .ok (.iadd, 1) := by decide +kernel
theorem dL_acts_534 : decode cL_acts 534 = .ok (.i2c, 1) := by decide +kernel
theorem dL_acts_535 : decode cL_acts 535 = .ok (.invokevirtual 255, 3) := by decide +kernel
theorem dL_acts_538 : decode cL_acts 538 = .ok (.pop, 1) := by decide +kernel
theorem dL_acts_539 : decode cL_acts 539 = .ok (.iinc 11 1, 3) := by decide +kernel
theorem dL_acts_542 : decode cL_acts 542 = .ok (.goto (-33), 3) := by decide +kernel
theorem dL_acts_545 : decode cL_acts 545 = .ok (.aload_n 0, 1) := by decide +kernel
theorem dL_acts_546 : decode cL_acts 546 = .ok (.aload 10, 2) := by decide +kernel
theorem dL_acts_548 : decode cL_acts 548 = .ok (.invokevirtual 258, 3) := by decide +kernel
theorem dL_acts_551 : decode cL_acts 551 = .ok (.invokestatic 41, 3) := by decide +kernel
theorem dL_acts_554 : decode cL_acts 554 = .ok (.aload_n 0, 1) := by decide +kernel
theorem dL_acts_555 : decode cL_acts 555 = .ok (.iconst 4, 1) := by decide +kernel
theorem dL_acts_556 : decode cL_acts 556 = .ok (.iload 8, 2) := by decide +kernel
theorem dL_acts_558 : decode cL_acts 558 = .ok (.iconst 0, 1) := by decide +kernel
theorem dL_acts_559 : decode cL_acts 559 = .ok (.invokestatic 241, 3) := by decide +kernel
theorem dL_acts_562 : decode cL_acts 562 = .ok (.istore 11, 2) := by decide +kernel
theorem dL_acts_564 : decode cL_acts 564 = .ok (.aload_n 0, 1) := by decide +kernel
theorem dL_acts_565 : decode cL_acts 565 = .ok (.iconst 0, 1) := by decide +kernel
theorem dL_acts_566 : decode cL_acts 566 = .ok (.invokevirtual 38, 3) := by decide +kernel
theorem dL_acts_569 : decode cL_acts 569 = .ok (.ifCond .ne 72, 3) := by decide +kernel
theorem dL_acts_572 : decode cL_acts 572 = .ok (.iload 9, 2) := by decide +kernel
theorem dL_acts_574 : decode cL_acts 574 = .ok (.bipush 8, 2) := by decide +kernel
theorem dL_acts_576 : decode cL_acts 576 = .ok (.if_icmp .ne 13, 3) := by decide +kernel
theorem dL_acts_579 : decode cL_acts 579 = .ok (.iload 11, 2) := by decide +kernel
theorem dL_acts_581 : decode cL_acts 581 = .ok (.bipush (-3), 2) := by decide +kernel
theorem dL_acts_583 : decode cL_acts 583 = .ok (.if_icmp .ne 58, 3) := by decide +kernel
theorem dL_acts_586 : decode cL_acts 586 = .ok (.goto 51, 3) := by decide +kernel
theorem dL_acts_589 : decode cL_acts 589 = .ok (.iload 11, 2) := by decide +kernel
theorem dL_acts_591 : decode cL_acts 591 = .ok (.iload 9, 2) := by decide +kernel
theorem dL_acts_593 : decode cL_acts 593 = .ok (.iconst 1, 1) := by decide +kernel
theorem dL_acts_594 : decode cL_acts 594 = .ok (.iadd, 1) := by decide +kernel
theorem dL_acts_595 : decode cL_acts 595 = .ok (.if_icmp .ne 46, 3) := by decide +kernel
theorem dL_acts_598 : decode cL_acts 598 = .ok (.aload_n 0, 1) := by decide +kernel
theorem dL_acts_599 : decode cL_acts 599 = .ok (.iload 8, 2) := by decide +kernel
theorem dL_acts_601 : decode cL_acts 601 = .ok (.iload 9, 2) := by decide +kernel
theorem dL_acts_603 : decode cL_acts 603 = .ok (.iload_n 3, 1) := by decide +kernel
theorem dL_acts_604 : decode cL_acts 604 = .ok (.iconst 5, 1) := by decide +kernel
theorem dL_acts_605 : decode cL_acts 605 = .ok (.irem, 1) := by decide +kernel
theorem dL_acts_606 : decode cL_acts 606 = .ok (.invokevirtual 159, 3) := by decide +kernel
theorem dL_acts_609 : decode cL_acts 609 = .ok (.aload 10, 2) := by decide +kernel
theorem dL_acts_611 : decode cL_acts 611 = .ok (.iload_n 3, 1) := by decide +kernel
theorem dL_acts_612 : decode cL_acts 612 = .ok (.iconst 5, 1) := by decide +kernel
theorem dL_acts_613 : decode cL_acts 613 = .ok (.irem, 1) := by decide +kernel
theorem dL_acts_614 : decode cL_acts 614 = .ok (.invokevirtual 262, 3) := by decide +kernel
theorem dL_acts_617 : decode cL_acts 617 = .ok (.if_icmp .ne 24, 3) := by decide +kernel
theorem dL_acts_620 : decode cL_acts 620 = .ok (.aload_n 0, 1) := by decide +kernel
theorem dL_acts_621 : decode cL_acts 621 = .ok (.iload 8, 2) := by decide +kernel
theorem dL_acts_623 : decode cL_acts 623 = .ok (.iload 9, 2) := by decide +kernel
theorem dL_acts_625 : decode cL_acts 625 = .ok (.iload_n 3, 1) := by decide +kernel
theorem dL_acts_626 : decode cL_acts 626 = .ok (.iconst 5, 1) := by decide +kernel
theorem dL_acts_627 : decode cL_acts 627 = .ok (.irem, 1) := by decide +kernel
theorem dL_acts_628 : decode cL_acts 628 = .ok (.iconst 1, 1) := by decide +kernel
theorem dL_acts_629 : decode cL_acts 629 = .ok (.iadd, 1) := by decide +kernel
theorem dL_acts_630 : decode cL_acts 630 = .ok (.invokevirtual 159, 3) := by decide +kernel
theorem dL_acts_633 : decode cL_acts 633 = .ok (.iconst (-1), 1) := by decide +kernel
theorem dL_acts_634 : decode cL_acts 634 = .ok (.if_icmp .ne 7, 3) := by decide +kernel
theorem dL_acts_637 : decode cL_acts 637 = .ok (.iconst 1, 1) := by decide +kernel
theorem dL_acts_638 : decode cL_acts 638 = .ok (.goto 4, 3) := by decide +kernel
theorem dL_acts_641 : decode cL_acts 641 = .ok (.iconst 0, 1) := by decide +kernel
theorem dL_acts_642 : decode cL_acts 642 = .ok (.ireturn, 1) := by decide +kernel
theorem dL_acts_643 : decode cL_acts 643 = .ok (.iload_n 2, 1) := by decide +kernel
theorem dL_acts_644 : decode cL_acts 644 = .ok (.iconst 2, 1) := by decide +kernel
theorem dL_acts_645 : decode cL_acts 645 = .ok (.irem, 1) := by decide +kernel
theorem dL_acts_646 : decode cL_acts 646 = .ok (.istore 8, 2) := by decide +kernel
theorem dL_acts_648 : decode cL_acts 648 = .ok (.aload_n 0, 1) := by decide +kernel
theorem dL_acts_649 : decode cL_acts 649 = .ok (.iload 8, 2) := by decide +kernel
theorem dL_acts_651 : decode cL_acts 651 = .ok (.invokevirtual 135, 3) := by decide +kernel
theorem dL_acts_654 : decode cL_acts 654 = .ok (.istore 9, 2) := by decide +kernel
theorem dL_acts_656 : decode cL_acts 656 = .ok (.aload_n 0, 1) := by decide +kernel
theorem dL_acts_657 : decode cL_acts 657 = .ok (.iload 8, 2) := by decide +kernel
theorem dL_acts_659 : decode cL_acts 659 = .ok (.invokevirtual 156, 3) := by decide +kernel
theorem dL_acts_662 : decode cL_acts 662 = .ok (.istore 10, 2) := by decide +kernel
theorem dL_acts_664 : decode cL_acts 664 = .ok (.aload_n 0, 1) := by decide +kernel
theorem dL_acts_665 : decode cL_acts 665 = .ok (.iconst 5, 1) := by decide +kernel
theorem dL_acts_666 : decode cL_acts 666 = .ok (.iload 8, 2) := by decide +kernel
theorem dL_acts_668 : decode cL_acts 668 = .ok (.iload_n 3, 1) := by decide +kernel
theorem dL_acts_669 : decode cL_acts 669 = .ok (.iconst 4, 1) := by decide +kernel
theorem dL_acts_670 : decode cL_acts 670 = .ok (.irem, 1) := by decide +kernel
theorem dL_acts_671 : decode cL_acts 671 = .ok (.invokestatic 241, 3) := by decide +kernel
theorem dL_acts_674 : decode cL_acts 674 = .ok (.istore 11, 2) := by decide +kernel
theorem dL_acts_676 : decode cL_acts 676 = .ok (.iload_n 3, 1) := by decide +kernel
theorem dL_acts_677 : decode cL_acts 677 = .ok (.iconst 4, 1) := by decide +kernel
theorem dL_acts_678 : decode cL_acts 678 = .ok (.irem, 1) := by decide +kernel
theorem dL_acts_679 : decode cL_acts 679 = .ok (.iload 9, 2) := by decide +kernel
theorem dL_acts_681 : decode cL_acts 681 = .ok (.if_icmp .lt 17, 3) := by decide +kernel
theorem dL_acts_684 : decode cL_acts 684 = .ok (.iload 11, 2) := by decide +kernel
theorem dL_acts_686 : decode cL_acts 686 = .ok (.iconst (-1), 1) := by decide +kernel
theorem dL_acts_687 : decode cL_acts 687 = .ok (.if_icmp .ne 7, 3) := by decide +kernel
theorem dL_acts_690 : decode cL_acts 690 = .ok (.iconst 1, 1) := by decide +kernel
theorem dL_acts_691 : decode cL_acts 691 = .ok (.goto 43, 3) := by decide +kernel
theorem dL_acts_694 : decode cL_acts 694 = .ok (.iconst 0, 1) := by decide +kernel
theorem dL_acts_695 : decode cL_acts 695 = .ok (.goto 39, 3) := by decide +kernel
theorem dL_acts_698 : decode cL_acts 698 = .ok (.iload 11, 2) := by decide +kernel
theorem dL_acts_700 : decode cL_acts 700 = .ok (.ifCond .le 33, 3) := by decide +kernel
theorem dL_acts_703 : decode cL_acts 703 = .ok (.aload_n 0, 1) := by decide +kernel
theorem dL_acts_704 : decode cL_acts 704 = .ok (.iload 8, 2) := by decide +kernel
theorem dL_acts_706 : decode cL_acts 706 = .ok (.invokevirtual 135, 3) := by decide +kernel
theorem dL_acts_709 : decode cL_acts 709 = .ok (.iload 9, 2) := by decide +kernel
theorem dL_acts_711 : decode cL_acts 711 = .ok (.iconst 1, 1) := by decide +kernel
theorem dL_acts_712 : decode cL_acts 712 = .ok (.isub, 1) := by decide +kernel
theorem dL_acts_713 : decode cL_acts 713 = .ok (.if_icmp .ne 20, 3) := by decide +kernel
theorem dL_acts_716 : decode cL_acts 716 = .ok (.aload_n 0, 1) := by decide +kernel
theorem dL_acts_717 : decode cL_acts 717 = .ok (.iload 8, 2) := by decide +kernel
theorem dL_acts_719 : decode cL_acts 719 = .ok (.invokevirtual 156, 3) := by decide +kernel
theorem dL_acts_722 : decode cL_acts 722 = .ok (.iload 10, 2) := by decide +kernel
theorem dL_acts_724 : decode cL_acts 724 = .ok (.iconst 1, 1) := by decide +kernel
theorem dL_acts_725 : decode cL_acts 725 = .ok (.iadd, 1) := by decide +kernel
theorem dL_acts_726 : decode cL_acts 726 = .ok (.if_icmp .ne 7, 3) := by decide +kernel
theorem dL_acts_729 : decode cL_acts 729 = .ok (.iconst 1, 1) := by decide +kernel
theorem dL_acts_730 : decode cL_acts 730 = .ok (.goto 4, 3) := by decide +kernel
theorem dL_acts_733 : decode cL_acts 733 = .ok (.iconst 0, 1) := by decide +kernel
theorem dL_acts_734 : decode cL_acts 734 = .ok (.ireturn, 1) := by decide +kernel
theorem dL_acts_735 : decode cL_acts 735 = .ok (.aload_n 0, 1) := by decide +kernel
theorem dL_acts_736 : decode cL_acts 736 = .ok (.invokevirtual 94, 3) := by decide +kernel
theorem dL_acts_739 : decode cL_acts 739 = .ok (.istore 8, 2) := by decide +kernel
theorem dL_acts_741 : decode cL_acts 741 = .ok (.aload_n 0, 1) := by decide +kernel
theorem dL_acts_742 : decode cL_acts 742 = .ok (.iload_n 2, 1) := by decide +kernel
theorem dL_acts_743 : decode cL_acts 743 = .ok (.iconst 2, 1) := by decide +kernel
theorem dL_acts_744 : decode cL_acts 744 = .ok (.irem, 1) := by decide +kernel
theorem dL_acts_745 : decode cL_acts 745 = .ok (.iconst 1, 1) := by decide +kernel
theorem dL_acts_746 : decode cL_acts 746 = .ok (.iload 4, 2) := by decide +kernel
theorem dL_acts_748 : decode cL_acts 748 = .ok (.bipush 6, 2) := by decide +kernel
theorem dL_acts_750 : decode cL_acts 750 = .ok (.irem, 1) := by decide +kernel
theorem dL_acts_751 : decode cL_acts 751 = .ok (.iadd, 1) := by decide +kernel
theorem dL_acts_752 : decode cL_acts 752 = .ok (.invokevirtual 263, 3) := by decide +kernel
theorem dL_acts_755 : decode cL_acts 755 = .ok (.istore 9, 2) := by decide +kernel
theorem dL_acts_757 : decode cL_acts 757 = .ok (.iload 9, 2) := by decide +kernel
theorem dL_acts_759 : decode cL_acts 759 = .ok (.iconst (-1), 1) := by decide +kernel
theorem dL_acts_760 : decode cL_acts 760 = .ok (.if_icmp .lt 54, 3) := by decide +kernel
theorem dL_acts_763 : decode cL_acts 763 = .ok (.iload 9, 2) := by decide +kernel
theorem dL_acts_765 : decode cL_acts 765 = .ok (.bipush 12, 2) := by decide +kernel
theorem dL_acts_767 : decode cL_acts 767 = .ok (.if_icmp .gt 47, 3) := by decide +kernel
theorem dL_acts_770 : decode cL_acts 770 = .ok (.aload_n 0, 1) := by decide +kernel
theorem dL_acts_771 : decode cL_acts 771 = .ok (.bipush 6, 2) := by decide +kernel
theorem dL_acts_773 : decode cL_acts 773 = .ok (.iconst 1, 1) := by decide +kernel
theorem dL_acts_774 : decode cL_acts 774 = .ok (.iload_n 3, 1) := by decide +kernel
theorem dL_acts_775 : decode cL_acts 775 = .ok (.bipush 12, 2) := by decide +kernel
theorem dL_acts_777 : decode cL_acts 777 = .ok (.irem, 1) := by decide +kernel
theorem dL_acts_778 : decode cL_acts 778 = .ok (.iadd, 1) := by decide +kernel
theorem dL_acts_779 : decode cL_acts 779 = .ok (.iconst 0, 1) := by decide +kernel
theorem dL_acts_780 : decode cL_acts 780 = .ok (.invokestatic 241, 3) := by decide +kernel
theorem dL_acts_783 : decode cL_acts 783 = .ok (.iload 8, 2) := by decide +kernel
theorem dL_acts_785 : decode cL_acts 785 = .ok (.if_icmp .ne 29, 3) := by decide +kernel
theorem dL_acts_788 : decode cL_acts 788 = .ok (.aload_n 0, 1) := by decide +kernel
theorem dL_acts_789 : decode cL_acts 789 = .ok (.invokevirtual 94, 3) := by decide +kernel
theorem dL_acts_792 : decode cL_acts 792 = .ok (.iconst 1, 1) := by decide +kernel
theorem dL_acts_793 : decode cL_acts 793 = .ok (.iload_n 3, 1) := by decide +kernel
theorem dL_acts_794 : decode cL_acts 794 = .ok (.bipush 12, 2) := by decide +kernel
theorem dL_acts_796 : decode cL_acts 796 = .ok (.irem, 1) := by decide +kernel
theorem dL_acts_797 : decode cL_acts 797 = .ok (.iadd, 1) := by decide +kernel
theorem dL_acts_798 : decode cL_acts 798 = .ok (.if_icmp .ne 16, 3) := by decide +kernel
theorem dL_acts_801 : decode cL_acts 801 = .ok (.aload_n 0, 1) := by decide +kernel
theorem dL_acts_802 : decode cL_acts 802 = .ok (.invokevirtual 91, 3) := by decide +kernel
theorem dL_acts_805 : decode cL_acts 805 = .ok (.iload 7, 2) := by decide +kernel
theorem dL_acts_807 : decode cL_acts 807 = .ok (.if_icmp .ne 7, 3) := by decide +kernel
theorem dL_acts_810 : decode cL_acts 810 = .ok (.iconst 1, 1) := by decide +kernel
theorem dL_acts_811 : decode cL_acts 811 = .ok (.goto 4, 3) := by decide +kernel
theorem dL_acts_814 : decode cL_acts 814 = .ok (.iconst 0, 1) := by decide +kernel
theorem dL_acts_815 : decode cL_acts 815 = .ok (.ireturn, 1) := by decide +kernel
def F_acts_0 (N : Nat) (a2 : Int32) (a3 : Int32) (a4 : Int32) (S : SS) : Option (Bool × SS) := (if (F_X10_slotCount S) = 0 then none else (ob1 (F_X10_twigCount N S) fun v2 => (ob1 (F_L_ends N (1 + (a3 - a3 / 3 * 3)) (a2 - a2 / (F_X10_slotCount S) * (F_X10_slotCount S)) S) fun r3 => some (r3.1, r3.2))))
theorem c_acts_0 {w : WP} (hW : gW w) (hS : gS w) (hZ : gZ w) {S : SS} {o : HV × CT} (N : Nat) (a2 : Int32) (a3 : Int32) (a4 : Int32) {v : Bool} {S' : SS} (hF : F_acts_0 N a2 a3 a4 S = some (v, S')) : gMg w 10 yL_acts cL_acts 12 (some .boolean) [.ref (wAd w (7, 11, 6, 0)), .int 0, .int a2, .int a3, .int a4] (cA w (S, o)) (some (.int (b2i v))) (cA w (S', o)) 20 8000 := by
  refine gMg_of "HedgeMessagesLaw" rfl (by decide) (kR rfl) fun X C hT => ?_
  unfold F_acts_0 at hF
  show gU w X _ _ 0 [(0, .ref (wAd w (7, 11, 6, 0))), (1, .int 0), (2, .int a2), (3, .int a3), (4, .int a4)] []
  refine r_iload_n C (k := 2) rfl rfl dL_acts_0 ?_
  refine r_aload_n C (k := 0) rfl rfl dL_acts_1 ?_
  refine r_callV C (d' := 0) [] (c_X10_slotCount (Ω := (S, o)) hW rfl rfl) myX10_slotCount wm5_8 ⟨_, _, _, _, (hW.ok k7), rfl, rfl, rfl, rfl⟩ rfl (kR rfl) (by decide) (kR rfl) rfl dL_acts_2 ?_ (hT.q (Nat.zero_le _) (Nat.zero_le _))
  obtain ⟨z1, hF⟩ := dz_e hF
  refine r_irem C z1 dL_acts_5 ?_
  refine r_istore C (lo' := [(5, .int (a2 - a2 / (F_X10_slotCount S) * (F_X10_slotCount S))), (0, .ref (wAd w (7, 11, 6, 0))), (1, .int 0), (2, .int a2), (3, .int a3), (4, .int a4)]) (by decide) rfl dL_acts_6 ?_
  refine r_aload_n C (k := 1) rfl rfl dL_acts_8 ?_
  obtain ⟨v2, hv2, hF⟩ := ob1_e hF
  refine r_callV C (d' := 2) [] (c_X10_twigCount (Ω := (S, o)) hW rfl N hv2) myX10_twigCount wm5_146 ⟨_, _, _, _, (hW.ok k7), rfl, rfl, rfl, rfl⟩ rfl (kR rfl) (by decide) (kR rfl) rfl dL_acts_9 ?_ (hT.q (Nat.zero_le _) (Nat.zero_le _))
  refine r_istore C (lo' := [(6, .int v2), (5, .int (a2 - a2 / (F_X10_slotCount S) * (F_X10_slotCount S))), (0, .ref (wAd w (7, 11, 6, 0))), (1, .int 0), (2, .int a2), (3, .int a3), (4, .int a4)]) (by decide) rfl dL_acts_12 ?_
  refine r_aload_n C (k := 2) rfl rfl dL_acts_14 ?_
  refine r_callV C (d' := 0) [] (c_X10_actionsLeft (Ω := (S, o)) hW rfl rfl) myX10_actionsLeft wm4_225 ⟨_, _, _, _, (hW.ok k7), rfl, rfl, rfl, rfl⟩ rfl (kR rfl) (by decide) (kR rfl) rfl dL_acts_15 ?_ (hT.q (Nat.zero_le _) (Nat.zero_le _))
  refine r_istore C (lo' := [(7, .int (F_X10_actionsLeft S)), (6, .int v2), (5, .int (a2 - a2 / (F_X10_slotCount S) * (F_X10_slotCount S))), (0, .ref (wAd w (7, 11, 6, 0))), (1, .int 0), (2, .int a2), (3, .int a3), (4, .int a4)]) (by decide) rfl dL_acts_18 ?_
  refine r_iload_n C (k := 4) rfl rfl dL_acts_20 ?_
  refine r_tabIn C (v := 0) (tgt := 72) (off := 51) rfl dL_acts_21 (by decide) (by decide) (by decide) (by decide) ?_
  refine r_aload_n C (k := 3) rfl rfl dL_acts_72 ?_
  refine r_iconst C (v := 1) rfl dL_acts_73 ?_
  refine r_iload_n C (k := 6) rfl rfl dL_acts_74 ?_
  refine r_iconst C (v := 3) rfl dL_acts_75 ?_
  refine r_irem C (by decide) dL_acts_76 ?_
  refine r_iadd C dL_acts_77 ?_
  refine r_iload C (k := 2) rfl dL_acts_78 ?_
  obtain ⟨r3, hr3, hF⟩ := ob1_e hF
  refine r_ggS C (d' := 9) [.ref (wAd w (7, 11, 6, 0)), .int (1 + (a3 - a3 / 3 * 3)), .int (a2 - a2 / (F_X10_slotCount S) * (F_X10_slotCount S))] (c_L_ends (v := r3.1) (S' := r3.2) hW hS hZ N (1 + (a3 - a3 / 3 * 3)) (a2 - a2 / (F_X10_slotCount S) * (F_X10_slotCount S)) hr3) myL_ends wm5_194 rfl (kR rfl) (by decide) (kR rfl) rfl dL_acts_80 (hT.q (show 0 + 1 ≤ 20 by decide) (show 0 + 6 ≤ 8000 by decide)) ?_
  cases hF
  refine r_wid (c' := 20) (s' := 8000) (show 0 + 1 ≤ 20 by decide) (show 0 + 6 ≤ 8000 by decide) ?_
  exact r_hzreturn C _ rfl dL_acts_83
def F_acts_1 (N : Nat) (a2 : Int32) (a3 : Int32) (a4 : Int32) (S : SS) : Option (Bool × SS) := (if (F_X10_slotCount S) = 0 then none else (ob1 (F_X10_twigCount N S) fun v2 => (ob1 (F_L_ends N (1 + (a3 - a3 / 3 * 3)) (a2 - a2 / (F_X10_slotCount S) * (F_X10_slotCount S)) S) fun r3 => some (r3.1, r3.2))))
theorem c_acts_1 {w : WP} (hW : gW w) (hS : gS w) (hZ : gZ w) {S : SS} {o : HV × CT} (N : Nat) (a2 : Int32) (a3 : Int32) (a4 : Int32) {v : Bool} {S' : SS} (hF : F_acts_1 N a2 a3 a4 S = some (v, S')) : gMg w 10 yL_acts cL_acts 12 (some .boolean) [.ref (wAd w (7, 11, 6, 0)), .int 1, .int a2, .int a3, .int a4] (cA w (S, o)) (some (.int (b2i v))) (cA w (S', o)) 20 8000 := by
  refine gMg_of "HedgeMessagesLaw" rfl (by decide) (kR rfl) fun X C hT => ?_
  unfold F_acts_1 at hF
  show gU w X _ _ 0 [(0, .ref (wAd w (7, 11, 6, 0))), (1, .int 1), (2, .int a2), (3, .int a3), (4, .int a4)] []
  refine r_iload_n C (k := 2) rfl rfl dL_acts_0 ?_
  refine r_aload_n C (k := 0) rfl rfl dL_acts_1 ?_
  refine r_callV C (d' := 0) [] (c_X10_slotCount (Ω := (S, o)) hW rfl rfl) myX10_slotCount wm5_8 ⟨_, _, _, _, (hW.ok k7), rfl, rfl, rfl, rfl⟩ rfl (kR rfl) (by decide) (kR rfl) rfl dL_acts_2 ?_ (hT.q (Nat.zero_le _) (Nat.zero_le _))
  obtain ⟨z1, hF⟩ := dz_e hF
  refine r_irem C z1 dL_acts_5 ?_
  refine r_istore C (lo' := [(5, .int (a2 - a2 / (F_X10_slotCount S) * (F_X10_slotCount S))), (0, .ref (wAd w (7, 11, 6, 0))), (1, .int 1), (2, .int a2), (3, .int a3), (4, .int a4)]) (by decide) rfl dL_acts_6 ?_
  refine r_aload_n C (k := 1) rfl rfl dL_acts_8 ?_
  obtain ⟨v2, hv2, hF⟩ := ob1_e hF
  refine r_callV C (d' := 2) [] (c_X10_twigCount (Ω := (S, o)) hW rfl N hv2) myX10_twigCount wm5_146 ⟨_, _, _, _, (hW.ok k7), rfl, rfl, rfl, rfl⟩ rfl (kR rfl) (by decide) (kR rfl) rfl dL_acts_9 ?_ (hT.q (Nat.zero_le _) (Nat.zero_le _))
  refine r_istore C (lo' := [(6, .int v2), (5, .int (a2 - a2 / (F_X10_slotCount S) * (F_X10_slotCount S))), (0, .ref (wAd w (7, 11, 6, 0))), (1, .int 1), (2, .int a2), (3, .int a3), (4, .int a4)]) (by decide) rfl dL_acts_12 ?_
  refine r_aload_n C (k := 2) rfl rfl dL_acts_14 ?_
  refine r_callV C (d' := 0) [] (c_X10_actionsLeft (Ω := (S, o)) hW rfl rfl) myX10_actionsLeft wm4_225 ⟨_, _, _, _, (hW.ok k7), rfl, rfl, rfl, rfl⟩ rfl (kR rfl) (by decide) (kR rfl) rfl dL_acts_15 ?_ (hT.q (Nat.zero_le _) (Nat.zero_le _))
  refine r_istore C (lo' := [(7, .int (F_X10_actionsLeft S)), (6, .int v2), (5, .int (a2 - a2 / (F_X10_slotCount S) * (F_X10_slotCount S))), (0, .ref (wAd w (7, 11, 6, 0))), (1, .int 1), (2, .int a2), (3, .int a3), (4, .int a4)]) (by decide) rfl dL_acts_18 ?_
  refine r_iload_n C (k := 4) rfl rfl dL_acts_20 ?_
  refine r_tabIn C (v := 1) (tgt := 72) (off := 51) rfl dL_acts_21 (by decide) (by decide) (by decide) (by decide) ?_
  refine r_aload_n C (k := 3) rfl rfl dL_acts_72 ?_
  refine r_iconst C (v := 1) rfl dL_acts_73 ?_
  refine r_iload_n C (k := 6) rfl rfl dL_acts_74 ?_
  refine r_iconst C (v := 3) rfl dL_acts_75 ?_
  refine r_irem C (by decide) dL_acts_76 ?_
  refine r_iadd C dL_acts_77 ?_
  refine r_iload C (k := 2) rfl dL_acts_78 ?_
  obtain ⟨r3, hr3, hF⟩ := ob1_e hF
  refine r_ggS C (d' := 9) [.ref (wAd w (7, 11, 6, 0)), .int (1 + (a3 - a3 / 3 * 3)), .int (a2 - a2 / (F_X10_slotCount S) * (F_X10_slotCount S))] (c_L_ends (v := r3.1) (S' := r3.2) hW hS hZ N (1 + (a3 - a3 / 3 * 3)) (a2 - a2 / (F_X10_slotCount S) * (F_X10_slotCount S)) hr3) myL_ends wm5_194 rfl (kR rfl) (by decide) (kR rfl) rfl dL_acts_80 (hT.q (show 0 + 1 ≤ 20 by decide) (show 0 + 6 ≤ 8000 by decide)) ?_
  cases hF
  refine r_wid (c' := 20) (s' := 8000) (show 0 + 1 ≤ 20 by decide) (show 0 + 6 ≤ 8000 by decide) ?_
  exact r_hzreturn C _ rfl dL_acts_83
def F_acts_2 (N : Nat) (a2 : Int32) (a3 : Int32) (a4 : Int32) (S : SS) : Option (Bool × SS) := (if (F_X10_slotCount S) = 0 then none else (ob1 (F_X10_twigCount N S) fun v2 => (ob1 (okI (F_X10_plantReason (a2 - a2 / (F_X10_slotCount S) * (F_X10_slotCount S)) S)) fun v3 => (ob1 (fdR (F_X10_plant N (a2 - a2 / (F_X10_slotCount S) * (F_X10_slotCount S)) (97 + (a3 - a3 / 26 * 26)) S)) fun r4 => (if v3 ≤ 0 then (if r4.1 = (v2 + 1) then (ob1 (okI (F_X10_letterAt (a2 - a2 / (F_X10_slotCount S) * (F_X10_slotCount S)) r4.2)) fun v5 => (if v5 = (97 + (a3 - a3 / 26 * 26)) then (ob1 (okI (F_X10_lengthAt (a2 - a2 / (F_X10_slotCount S) * (F_X10_slotCount S)) r4.2)) fun v6 => (if v6 = 1 then (if (F_X10_actionsLeft r4.2) = ((F_X10_actionsLeft S) - 1) then some (true, r4.2) else some (false, r4.2)) else some (false, r4.2))) else some (false, r4.2))) else some (false, r4.2)) else (if r4.1 = (-3) then some (true, r4.2) else some (false, r4.2)))))))
theorem c_acts_2 {w : WP} (hW : gW w) (hS : gS w) (hZ : gZ w) {S : SS} {o : HV × CT} (N : Nat) (a2 : Int32) (a3 : Int32) (a4 : Int32) {v : Bool} {S' : SS} (hF : F_acts_2 N a2 a3 a4 S = some (v, S')) : gMg w 10 yL_acts cL_acts 12 (some .boolean) [.ref (wAd w (7, 11, 6, 0)), .int 2, .int a2, .int a3, .int a4] (cA w (S, o)) (some (.int (b2i v))) (cA w (S', o)) 20 8000 := by
  refine gMg_of "HedgeMessagesLaw" rfl (by decide) (kR rfl) fun X C hT => ?_
  unfold F_acts_2 at hF
  show gU w X _ _ 0 [(0, .ref (wAd w (7, 11, 6, 0))), (1, .int 2), (2, .int a2), (3, .int a3), (4, .int a4)] []
  refine r_iload_n C (k := 2) rfl rfl dL_acts_0 ?_
  refine r_aload_n C (k := 0) rfl rfl dL_acts_1 ?_
  refine r_callV C (d' := 0) [] (c_X10_slotCount (Ω := (S, o)) hW rfl rfl) myX10_slotCount wm5_8 ⟨_, _, _, _, (hW.ok k7), rfl, rfl, rfl, rfl⟩ rfl (kR rfl) (by decide) (kR rfl) rfl dL_acts_2 ?_ (hT.q (Nat.zero_le _) (Nat.zero_le _))
  obtain ⟨z1, hF⟩ := dz_e hF
  refine r_irem C z1 dL_acts_5 ?_
  refine r_istore C (lo' := [(5, .int (a2 - a2 / (F_X10_slotCount S) * (F_X10_slotCount S))), (0, .ref (wAd w (7, 11, 6, 0))), (1, .int 2), (2, .int a2), (3, .int a3), (4, .int a4)]) (by decide) rfl dL_acts_6 ?_
  refine r_aload_n C (k := 1) rfl rfl dL_acts_8 ?_
  obtain ⟨v2, hv2, hF⟩ := ob1_e hF
  refine r_callV C (d' := 2) [] (c_X10_twigCount (Ω := (S, o)) hW rfl N hv2) myX10_twigCount wm5_146 ⟨_, _, _, _, (hW.ok k7), rfl, rfl, rfl, rfl⟩ rfl (kR rfl) (by decide) (kR rfl) rfl dL_acts_9 ?_ (hT.q (Nat.zero_le _) (Nat.zero_le _))
  refine r_istore C (lo' := [(6, .int v2), (5, .int (a2 - a2 / (F_X10_slotCount S) * (F_X10_slotCount S))), (0, .ref (wAd w (7, 11, 6, 0))), (1, .int 2), (2, .int a2), (3, .int a3), (4, .int a4)]) (by decide) rfl dL_acts_12 ?_
  refine r_aload_n C (k := 2) rfl rfl dL_acts_14 ?_
  refine r_callV C (d' := 0) [] (c_X10_actionsLeft (Ω := (S, o)) hW rfl rfl) myX10_actionsLeft wm4_225 ⟨_, _, _, _, (hW.ok k7), rfl, rfl, rfl, rfl⟩ rfl (kR rfl) (by decide) (kR rfl) rfl dL_acts_15 ?_ (hT.q (Nat.zero_le _) (Nat.zero_le _))
  refine r_istore C (lo' := [(7, .int (F_X10_actionsLeft S)), (6, .int v2), (5, .int (a2 - a2 / (F_X10_slotCount S) * (F_X10_slotCount S))), (0, .ref (wAd w (7, 11, 6, 0))), (1, .int 2), (2, .int a2), (3, .int a3), (4, .int a4)]) (by decide) rfl dL_acts_18 ?_
  refine r_iload_n C (k := 4) rfl rfl dL_acts_20 ?_
  refine r_tabIn C (v := 2) (tgt := 84) (off := 63) rfl dL_acts_21 (by decide) (by decide) (by decide) (by decide) ?_
  refine r_aload_n C (k := 3) rfl rfl dL_acts_84 ?_
  refine r_iload C (k := 2) rfl dL_acts_85 ?_
  obtain ⟨v3, hv3, hF⟩ := ob1_e hF
  refine r_callV C (d' := 7) [.int (a2 - a2 / (F_X10_slotCount S) * (F_X10_slotCount S))] (c_X10_plantReason (Ω := (S, o)) hW hS rfl (a2 - a2 / (F_X10_slotCount S) * (F_X10_slotCount S)) (okI_e hv3)) myX10_plantReason wm5_112 ⟨_, _, _, _, (hW.ok k7), rfl, rfl, rfl, rfl⟩ rfl (kR rfl) (by decide) (kR rfl) rfl dL_acts_87 ?_ (hT.q (Nat.zero_le _) (Nat.zero_le _))
  refine r_istore C (lo' := [(8, .int v3), (7, .int (F_X10_actionsLeft S)), (6, .int v2), (5, .int (a2 - a2 / (F_X10_slotCount S) * (F_X10_slotCount S))), (0, .ref (wAd w (7, 11, 6, 0))), (1, .int 2), (2, .int a2), (3, .int a3), (4, .int a4)]) (by decide) rfl dL_acts_90 ?_
  refine r_aload_n C (k := 4) rfl rfl dL_acts_92 ?_
  refine r_iconst C (v := 0) rfl dL_acts_93 ?_
  refine r_iload C (k := 3) rfl dL_acts_94 ?_
  refine r_bipush C (v := 97) rfl dL_acts_96 ?_
  refine r_iload_n C (k := 7) rfl rfl dL_acts_98 ?_
  refine r_bipush C (v := 26) rfl dL_acts_99 ?_
  refine r_irem C (by decide) dL_acts_101 ?_
  refine r_iadd C dL_acts_102 ?_
  obtain ⟨r4, hr4, hF⟩ := ob1_e hF
  refine r_callH C (d' := 8) [.ref (wAd w (7, 11, 6, 0)), .int 0, .int (a2 - a2 / (F_X10_slotCount S) * (F_X10_slotCount S)), .int (97 + (a3 - a3 / 26 * 26))] (ny := 4) (c_does_0 (S' := r4.2) (v := r4.1) hW hS hZ N (a2 - a2 / (F_X10_slotCount S) * (F_X10_slotCount S)) (97 + (a3 - a3 / 26 * 26)) hr4) cwL_does rfl wm1_0 wm3_194 ⟨by decide, by decide, by decide +kernel⟩ wm3_193 rfl (by decide) (kR rfl) (kR rfl) rfl dL_acts_103 (hT.q (show 0 + 1 ≤ 20 by decide) (show 0 + 6 ≤ 8000 by decide)) ?_
  refine r_istore C (lo' := [(9, .int r4.1), (8, .int v3), (7, .int (F_X10_actionsLeft S)), (6, .int v2), (5, .int (a2 - a2 / (F_X10_slotCount S) * (F_X10_slotCount S))), (0, .ref (wAd w (7, 11, 6, 0))), (1, .int 2), (2, .int a2), (3, .int a3), (4, .int a4)]) (by decide) rfl dL_acts_106 ?_
  refine r_iload C (k := 1) rfl dL_acts_108 ?_
  refine r_if_le C (tgt := 128) rfl dL_acts_110 (fun hc => ?_) (fun hc => ?_)
  · rw [if_pos hc] at hF
    refine r_iload C (k := 0) rfl dL_acts_128 ?_
    refine r_iload C (k := 3) rfl dL_acts_130 ?_
    refine r_iconst C (v := 1) rfl dL_acts_132 ?_
    refine r_iadd C dL_acts_133 ?_
    refine r_icmp_ne C (tgt := 178) rfl dL_acts_134 (fun hc => ?_) (fun hc => ?_)
    · rw [if_neg hc] at hF
      refine r_iconst C (v := 0) rfl dL_acts_178 ?_
      cases hF
      refine r_wid (c' := 20) (s' := 8000) (show 0 + 1 ≤ 20 by decide) (show 0 + 6 ≤ 8000 by decide) ?_
      exact r_hzreturn C false rfl dL_acts_179
    · rw [if_pos hc] at hF
      refine r_aload_n C (k := 5) rfl rfl dL_acts_137 ?_
      refine r_iload C (k := 4) rfl dL_acts_138 ?_
      obtain ⟨v5, hv5, hF⟩ := ob1_e hF
      refine r_callV C (d' := 7) [.int (a2 - a2 / (F_X10_slotCount S) * (F_X10_slotCount S))] (c_X10_letterAt (Ω := (r4.2, o)) hW hS rfl (a2 - a2 / (F_X10_slotCount S) * (F_X10_slotCount S)) (okI_e hv5)) myX10_letterAt wm5_12 ⟨_, _, _, _, (hW.ok k7), rfl, rfl, rfl, rfl⟩ rfl (kR rfl) (by decide) (kR rfl) rfl dL_acts_140 ?_ (hT.q (show 0 + 1 ≤ 20 by decide) (show 0 + 6 ≤ 8000 by decide))
      refine r_bipush C (v := 97) rfl dL_acts_143 ?_
      refine r_iload_n C (k := 8) rfl rfl dL_acts_145 ?_
      refine r_bipush C (v := 26) rfl dL_acts_146 ?_
      refine r_irem C (by decide) dL_acts_148 ?_
      refine r_iadd C dL_acts_149 ?_
      refine r_icmp_ne C (tgt := 178) rfl dL_acts_150 (fun hc => ?_) (fun hc => ?_)
      · rw [if_neg hc] at hF
        refine r_iconst C (v := 0) rfl dL_acts_178 ?_
        cases hF
        refine r_wid (c' := 20) (s' := 8000) (show 0 + 1 ≤ 20 by decide) (show 0 + 6 ≤ 8000 by decide) ?_
        exact r_hzreturn C false rfl dL_acts_179
      · rw [if_pos hc] at hF
        refine r_aload_n C (k := 5) rfl rfl dL_acts_153 ?_
        refine r_iload C (k := 4) rfl dL_acts_154 ?_
        obtain ⟨v6, hv6, hF⟩ := ob1_e hF
        refine r_callV C (d' := 7) [.int (a2 - a2 / (F_X10_slotCount S) * (F_X10_slotCount S))] (c_X10_lengthAt (Ω := (r4.2, o)) hW hS rfl (a2 - a2 / (F_X10_slotCount S) * (F_X10_slotCount S)) (okI_e hv6)) myX10_lengthAt wm5_23 ⟨_, _, _, _, (hW.ok k7), rfl, rfl, rfl, rfl⟩ rfl (kR rfl) (by decide) (kR rfl) rfl dL_acts_156 ?_ (hT.q (show 0 + 1 ≤ 20 by decide) (show 0 + 6 ≤ 8000 by decide))
        refine r_iconst C (v := 1) rfl dL_acts_159 ?_
        refine r_icmp_ne C (tgt := 178) rfl dL_acts_160 (fun hc => ?_) (fun hc => ?_)
        · rw [if_neg hc] at hF
          refine r_iconst C (v := 0) rfl dL_acts_178 ?_
          cases hF
          refine r_wid (c' := 20) (s' := 8000) (show 0 + 1 ≤ 20 by decide) (show 0 + 6 ≤ 8000 by decide) ?_
          exact r_hzreturn C false rfl dL_acts_179
        · rw [if_pos hc] at hF
          refine r_aload_n C (k := 5) rfl rfl dL_acts_163 ?_
          refine r_callV C (d' := 0) [] (c_X10_actionsLeft (Ω := (r4.2, o)) hW rfl rfl) myX10_actionsLeft wm4_225 ⟨_, _, _, _, (hW.ok k7), rfl, rfl, rfl, rfl⟩ rfl (kR rfl) (by decide) (kR rfl) rfl dL_acts_164 ?_ (hT.q (show 0 + 1 ≤ 20 by decide) (show 0 + 6 ≤ 8000 by decide))
          refine r_iload C (k := 2) rfl dL_acts_167 ?_
          refine r_iconst C (v := 1) rfl dL_acts_169 ?_
          refine r_isub C dL_acts_170 ?_
          refine r_icmp_ne C (tgt := 178) rfl dL_acts_171 (fun hc => ?_) (fun hc => ?_)
          · rw [if_neg hc] at hF
            refine r_iconst C (v := 0) rfl dL_acts_178 ?_
            cases hF
            refine r_wid (c' := 20) (s' := 8000) (show 0 + 1 ≤ 20 by decide) (show 0 + 6 ≤ 8000 by decide) ?_
            exact r_hzreturn C false rfl dL_acts_179
          · rw [if_pos hc] at hF
            refine r_iconst C (v := 1) rfl dL_acts_174 ?_
            refine r_goto C (tgt := 179) rfl dL_acts_175 ?_
            cases hF
            refine r_wid (c' := 20) (s' := 8000) (show 0 + 1 ≤ 20 by decide) (show 0 + 6 ≤ 8000 by decide) ?_
            exact r_hzreturn C true rfl dL_acts_179
  · rw [if_neg hc] at hF
    refine r_iload C (k := 0) rfl dL_acts_113 ?_
    refine r_bipush C (v := (-3)) (by decide) dL_acts_115 ?_
    refine r_icmp_ne C (tgt := 124) rfl dL_acts_117 (fun hc => ?_) (fun hc => ?_)
    · rw [if_neg hc] at hF
      refine r_iconst C (v := 0) rfl dL_acts_124 ?_
      refine r_goto C (tgt := 179) rfl dL_acts_125 ?_
      cases hF
      refine r_wid (c' := 20) (s' := 8000) (show 0 + 1 ≤ 20 by decide) (show 0 + 6 ≤ 8000 by decide) ?_
      exact r_hzreturn C false rfl dL_acts_179
    · rw [if_pos hc] at hF
      refine r_iconst C (v := 1) rfl dL_acts_120 ?_
      refine r_goto C (tgt := 179) rfl dL_acts_121 ?_
      cases hF
      refine r_wid (c' := 20) (s' := 8000) (show 0 + 1 ≤ 20 by decide) (show 0 + 6 ≤ 8000 by decide) ?_
      exact r_hzreturn C true rfl dL_acts_179
def F_acts_3 (N : Nat) (a2 : Int32) (a3 : Int32) (a4 : Int32) (S : SS) : Option (Bool × SS) := (if (F_X10_slotCount S) = 0 then none else (ob1 (F_X10_twigCount N S) fun v2 => (ob1 (okI (F_X10_removeReason (a2 - a2 / (F_X10_slotCount S) * (F_X10_slotCount S)) S)) fun v3 => (ob1 (okI (F_X10_letterAt (a2 - a2 / (F_X10_slotCount S) * (F_X10_slotCount S)) S)) fun v4 => (ob1 (fdR (F_X10_remove (a2 - a2 / (F_X10_slotCount S) * (F_X10_slotCount S)) S)) fun r5 => (if v3 ≤ 0 then (if r5.1 = v4 then (ob1 (okI (F_X10_letterAt (a2 - a2 / (F_X10_slotCount S) * (F_X10_slotCount S)) r5.2)) fun v6 => (if v6 = (-1) then (ob1 (F_X10_twigCount N r5.2) fun v7 => (if v7 = (v2 - 1) then (if (F_X10_actionsLeft r5.2) = ((F_X10_actionsLeft S) - 1) then some (true, r5.2) else some (false, r5.2)) else some (false, r5.2))) else some (false, r5.2))) else some (false, r5.2)) else (if r5.1 = (-3) then some (true, r5.2) else some (false, r5.2))))))))
theorem c_acts_3 {w : WP} (hW : gW w) (hS : gS w) (hZ : gZ w) {S : SS} {o : HV × CT} (N : Nat) (a2 : Int32) (a3 : Int32) (a4 : Int32) {v : Bool} {S' : SS} (hF : F_acts_3 N a2 a3 a4 S = some (v, S')) : gMg w 10 yL_acts cL_acts 12 (some .boolean) [.ref (wAd w (7, 11, 6, 0)), .int 3, .int a2, .int a3, .int a4] (cA w (S, o)) (some (.int (b2i v))) (cA w (S', o)) 20 8000 := by
  refine gMg_of "HedgeMessagesLaw" rfl (by decide) (kR rfl) fun X C hT => ?_
  unfold F_acts_3 at hF
  show gU w X _ _ 0 [(0, .ref (wAd w (7, 11, 6, 0))), (1, .int 3), (2, .int a2), (3, .int a3), (4, .int a4)] []
  refine r_iload_n C (k := 2) rfl rfl dL_acts_0 ?_
  refine r_aload_n C (k := 0) rfl rfl dL_acts_1 ?_
  refine r_callV C (d' := 0) [] (c_X10_slotCount (Ω := (S, o)) hW rfl rfl) myX10_slotCount wm5_8 ⟨_, _, _, _, (hW.ok k7), rfl, rfl, rfl, rfl⟩ rfl (kR rfl) (by decide) (kR rfl) rfl dL_acts_2 ?_ (hT.q (Nat.zero_le _) (Nat.zero_le _))
  obtain ⟨z1, hF⟩ := dz_e hF
  refine r_irem C z1 dL_acts_5 ?_
  refine r_istore C (lo' := [(5, .int (a2 - a2 / (F_X10_slotCount S) * (F_X10_slotCount S))), (0, .ref (wAd w (7, 11, 6, 0))), (1, .int 3), (2, .int a2), (3, .int a3), (4, .int a4)]) (by decide) rfl dL_acts_6 ?_
  refine r_aload_n C (k := 1) rfl rfl dL_acts_8 ?_
  obtain ⟨v2, hv2, hF⟩ := ob1_e hF
  refine r_callV C (d' := 2) [] (c_X10_twigCount (Ω := (S, o)) hW rfl N hv2) myX10_twigCount wm5_146 ⟨_, _, _, _, (hW.ok k7), rfl, rfl, rfl, rfl⟩ rfl (kR rfl) (by decide) (kR rfl) rfl dL_acts_9 ?_ (hT.q (Nat.zero_le _) (Nat.zero_le _))
  refine r_istore C (lo' := [(6, .int v2), (5, .int (a2 - a2 / (F_X10_slotCount S) * (F_X10_slotCount S))), (0, .ref (wAd w (7, 11, 6, 0))), (1, .int 3), (2, .int a2), (3, .int a3), (4, .int a4)]) (by decide) rfl dL_acts_12 ?_
  refine r_aload_n C (k := 2) rfl rfl dL_acts_14 ?_
  refine r_callV C (d' := 0) [] (c_X10_actionsLeft (Ω := (S, o)) hW rfl rfl) myX10_actionsLeft wm4_225 ⟨_, _, _, _, (hW.ok k7), rfl, rfl, rfl, rfl⟩ rfl (kR rfl) (by decide) (kR rfl) rfl dL_acts_15 ?_ (hT.q (Nat.zero_le _) (Nat.zero_le _))
  refine r_istore C (lo' := [(7, .int (F_X10_actionsLeft S)), (6, .int v2), (5, .int (a2 - a2 / (F_X10_slotCount S) * (F_X10_slotCount S))), (0, .ref (wAd w (7, 11, 6, 0))), (1, .int 3), (2, .int a2), (3, .int a3), (4, .int a4)]) (by decide) rfl dL_acts_18 ?_
  refine r_iload_n C (k := 4) rfl rfl dL_acts_20 ?_
  refine r_tabIn C (v := 3) (tgt := 180) (off := 159) rfl dL_acts_21 (by decide) (by decide) (by decide) (by decide) ?_
  refine r_aload_n C (k := 3) rfl rfl dL_acts_180 ?_
  refine r_iload C (k := 2) rfl dL_acts_181 ?_
  obtain ⟨v3, hv3, hF⟩ := ob1_e hF
  refine r_callV C (d' := 7) [.int (a2 - a2 / (F_X10_slotCount S) * (F_X10_slotCount S))] (c_X10_removeReason (Ω := (S, o)) hW hS rfl (a2 - a2 / (F_X10_slotCount S) * (F_X10_slotCount S)) (okI_e hv3)) myX10_removeReason wm5_107 ⟨_, _, _, _, (hW.ok k7), rfl, rfl, rfl, rfl⟩ rfl (kR rfl) (by decide) (kR rfl) rfl dL_acts_183 ?_ (hT.q (Nat.zero_le _) (Nat.zero_le _))
  refine r_istore C (lo' := [(8, .int v3), (7, .int (F_X10_actionsLeft S)), (6, .int v2), (5, .int (a2 - a2 / (F_X10_slotCount S) * (F_X10_slotCount S))), (0, .ref (wAd w (7, 11, 6, 0))), (1, .int 3), (2, .int a2), (3, .int a3), (4, .int a4)]) (by decide) rfl dL_acts_186 ?_
  refine r_aload_n C (k := 4) rfl rfl dL_acts_188 ?_
  refine r_iload C (k := 3) rfl dL_acts_189 ?_
  obtain ⟨v4, hv4, hF⟩ := ob1_e hF
  refine r_callV C (d' := 7) [.int (a2 - a2 / (F_X10_slotCount S) * (F_X10_slotCount S))] (c_X10_letterAt (Ω := (S, o)) hW hS rfl (a2 - a2 / (F_X10_slotCount S) * (F_X10_slotCount S)) (okI_e hv4)) myX10_letterAt wm5_12 ⟨_, _, _, _, (hW.ok k7), rfl, rfl, rfl, rfl⟩ rfl (kR rfl) (by decide) (kR rfl) rfl dL_acts_191 ?_ (hT.q (Nat.zero_le _) (Nat.zero_le _))
  refine r_istore C (lo' := [(9, .int v4), (8, .int v3), (7, .int (F_X10_actionsLeft S)), (6, .int v2), (5, .int (a2 - a2 / (F_X10_slotCount S) * (F_X10_slotCount S))), (0, .ref (wAd w (7, 11, 6, 0))), (1, .int 3), (2, .int a2), (3, .int a3), (4, .int a4)]) (by decide) rfl dL_acts_194 ?_
  refine r_aload_n C (k := 5) rfl rfl dL_acts_196 ?_
  refine r_iconst C (v := 1) rfl dL_acts_197 ?_
  refine r_iload C (k := 4) rfl dL_acts_198 ?_
  refine r_iconst C (v := 0) rfl dL_acts_200 ?_
  obtain ⟨r5, hr5, hF⟩ := ob1_e hF
  refine r_callH C (d' := 8) [.ref (wAd w (7, 11, 6, 0)), .int 1, .int (a2 - a2 / (F_X10_slotCount S) * (F_X10_slotCount S)), .int 0] (ny := 4) (c_does_1 (S' := r5.2) (v := r5.1) hW hS hZ (a2 - a2 / (F_X10_slotCount S) * (F_X10_slotCount S)) 0 hr5) cwL_does rfl wm1_0 wm3_194 ⟨by decide, by decide, by decide +kernel⟩ wm3_193 rfl (by decide) (kR rfl) (kR rfl) rfl dL_acts_201 (hT.q (show 0 + 1 ≤ 20 by decide) (show 0 + 6 ≤ 8000 by decide)) ?_
  refine r_istore C (lo' := [(10, .int r5.1), (9, .int v4), (8, .int v3), (7, .int (F_X10_actionsLeft S)), (6, .int v2), (5, .int (a2 - a2 / (F_X10_slotCount S) * (F_X10_slotCount S))), (0, .ref (wAd w (7, 11, 6, 0))), (1, .int 3), (2, .int a2), (3, .int a3), (4, .int a4)]) (by decide) rfl dL_acts_204 ?_
  refine r_iload C (k := 2) rfl dL_acts_206 ?_
  refine r_if_le C (tgt := 226) rfl dL_acts_208 (fun hc => ?_) (fun hc => ?_)
  · rw [if_pos hc] at hF
    refine r_iload C (k := 0) rfl dL_acts_226 ?_
    refine r_iload C (k := 1) rfl dL_acts_228 ?_
    refine r_icmp_ne C (tgt := 269) rfl dL_acts_230 (fun hc => ?_) (fun hc => ?_)
    · rw [if_neg hc] at hF
      refine r_iconst C (v := 0) rfl dL_acts_269 ?_
      cases hF
      refine r_wid (c' := 20) (s' := 8000) (show 0 + 1 ≤ 20 by decide) (show 0 + 6 ≤ 8000 by decide) ?_
      exact r_hzreturn C false rfl dL_acts_270
    · rw [if_pos hc] at hF
      refine r_aload_n C (k := 6) rfl rfl dL_acts_233 ?_
      refine r_iload C (k := 5) rfl dL_acts_234 ?_
      obtain ⟨v6, hv6, hF⟩ := ob1_e hF
      refine r_callV C (d' := 7) [.int (a2 - a2 / (F_X10_slotCount S) * (F_X10_slotCount S))] (c_X10_letterAt (Ω := (r5.2, o)) hW hS rfl (a2 - a2 / (F_X10_slotCount S) * (F_X10_slotCount S)) (okI_e hv6)) myX10_letterAt wm5_12 ⟨_, _, _, _, (hW.ok k7), rfl, rfl, rfl, rfl⟩ rfl (kR rfl) (by decide) (kR rfl) rfl dL_acts_236 ?_ (hT.q (show 0 + 1 ≤ 20 by decide) (show 0 + 6 ≤ 8000 by decide))
      refine r_iconst C (v := (-1)) (by decide) dL_acts_239 ?_
      refine r_icmp_ne C (tgt := 269) rfl dL_acts_240 (fun hc => ?_) (fun hc => ?_)
      · rw [if_neg hc] at hF
        refine r_iconst C (v := 0) rfl dL_acts_269 ?_
        cases hF
        refine r_wid (c' := 20) (s' := 8000) (show 0 + 1 ≤ 20 by decide) (show 0 + 6 ≤ 8000 by decide) ?_
        exact r_hzreturn C false rfl dL_acts_270
      · rw [if_pos hc] at hF
        refine r_aload_n C (k := 6) rfl rfl dL_acts_243 ?_
        obtain ⟨v7, hv7, hF⟩ := ob1_e hF
        refine r_callV C (d' := 2) [] (c_X10_twigCount (Ω := (r5.2, o)) hW rfl N hv7) myX10_twigCount wm5_146 ⟨_, _, _, _, (hW.ok k7), rfl, rfl, rfl, rfl⟩ rfl (kR rfl) (by decide) (kR rfl) rfl dL_acts_244 ?_ (hT.q (show 0 + 1 ≤ 20 by decide) (show 0 + 6 ≤ 8000 by decide))
        refine r_iload C (k := 4) rfl dL_acts_247 ?_
        refine r_iconst C (v := 1) rfl dL_acts_249 ?_
        refine r_isub C dL_acts_250 ?_
        refine r_icmp_ne C (tgt := 269) rfl dL_acts_251 (fun hc => ?_) (fun hc => ?_)
        · rw [if_neg hc] at hF
          refine r_iconst C (v := 0) rfl dL_acts_269 ?_
          cases hF
          refine r_wid (c' := 20) (s' := 8000) (show 0 + 1 ≤ 20 by decide) (show 0 + 6 ≤ 8000 by decide) ?_
          exact r_hzreturn C false rfl dL_acts_270
        · rw [if_pos hc] at hF
          refine r_aload_n C (k := 6) rfl rfl dL_acts_254 ?_
          refine r_callV C (d' := 0) [] (c_X10_actionsLeft (Ω := (r5.2, o)) hW rfl rfl) myX10_actionsLeft wm4_225 ⟨_, _, _, _, (hW.ok k7), rfl, rfl, rfl, rfl⟩ rfl (kR rfl) (by decide) (kR rfl) rfl dL_acts_255 ?_ (hT.q (show 0 + 1 ≤ 20 by decide) (show 0 + 6 ≤ 8000 by decide))
          refine r_iload C (k := 3) rfl dL_acts_258 ?_
          refine r_iconst C (v := 1) rfl dL_acts_260 ?_
          refine r_isub C dL_acts_261 ?_
          refine r_icmp_ne C (tgt := 269) rfl dL_acts_262 (fun hc => ?_) (fun hc => ?_)
          · rw [if_neg hc] at hF
            refine r_iconst C (v := 0) rfl dL_acts_269 ?_
            cases hF
            refine r_wid (c' := 20) (s' := 8000) (show 0 + 1 ≤ 20 by decide) (show 0 + 6 ≤ 8000 by decide) ?_
            exact r_hzreturn C false rfl dL_acts_270
          · rw [if_pos hc] at hF
            refine r_iconst C (v := 1) rfl dL_acts_265 ?_
            refine r_goto C (tgt := 270) rfl dL_acts_266 ?_
            cases hF
            refine r_wid (c' := 20) (s' := 8000) (show 0 + 1 ≤ 20 by decide) (show 0 + 6 ≤ 8000 by decide) ?_
            exact r_hzreturn C true rfl dL_acts_270
  · rw [if_neg hc] at hF
    refine r_iload C (k := 0) rfl dL_acts_211 ?_
    refine r_bipush C (v := (-3)) (by decide) dL_acts_213 ?_
    refine r_icmp_ne C (tgt := 222) rfl dL_acts_215 (fun hc => ?_) (fun hc => ?_)
    · rw [if_neg hc] at hF
      refine r_iconst C (v := 0) rfl dL_acts_222 ?_
      refine r_goto C (tgt := 270) rfl dL_acts_223 ?_
      cases hF
      refine r_wid (c' := 20) (s' := 8000) (show 0 + 1 ≤ 20 by decide) (show 0 + 6 ≤ 8000 by decide) ?_
      exact r_hzreturn C false rfl dL_acts_270
    · rw [if_pos hc] at hF
      refine r_iconst C (v := 1) rfl dL_acts_218 ?_
      refine r_goto C (tgt := 270) rfl dL_acts_219 ?_
      cases hF
      refine r_wid (c' := 20) (s' := 8000) (show 0 + 1 ≤ 20 by decide) (show 0 + 6 ≤ 8000 by decide) ?_
      exact r_hzreturn C true rfl dL_acts_270
def F_acts_4 (N : Nat) (a2 : Int32) (a3 : Int32) (a4 : Int32) (S : SS) : Option (Bool × SS) := (if (F_X10_slotCount S) = 0 then none else (ob1 (F_X10_twigCount N S) fun v2 => (ob1 (okI (F_X10_trimReason (a2 - a2 / (F_X10_slotCount S) * (F_X10_slotCount S)) S)) fun v3 => (ob1 (okI (F_X10_lengthAt (a2 - a2 / (F_X10_slotCount S) * (F_X10_slotCount S)) S)) fun v4 => (ob1 (fdR (F_X10_trim (a2 - a2 / (F_X10_slotCount S) * (F_X10_slotCount S)) (1 + (a3 - a3 / 9 * 9)) S)) fun r5 => (if v3 ≤ 0 then (if r5.1 = (if 1 < ((v4 - 1) - (a3 - a3 / 9 * 9)) then ((v4 - 1) - (a3 - a3 / 9 * 9)) else 1) then (ob1 (okI (F_X10_lengthAt (a2 - a2 / (F_X10_slotCount S) * (F_X10_slotCount S)) r5.2)) fun v6 => (if v6 = r5.1 then (if (F_X10_actionsLeft r5.2) = ((F_X10_actionsLeft S) - 1) then some (true, r5.2) else some (false, r5.2)) else some (false, r5.2))) else some (false, r5.2)) else (if r5.1 = (-3) then some (true, r5.2) else some (false, r5.2))))))))
theorem c_acts_4 {w : WP} (hW : gW w) (hS : gS w) (hZ : gZ w) {S : SS} {o : HV × CT} (N : Nat) (a2 : Int32) (a3 : Int32) (a4 : Int32) {v : Bool} {S' : SS} (hF : F_acts_4 N a2 a3 a4 S = some (v, S')) : gMg w 10 yL_acts cL_acts 12 (some .boolean) [.ref (wAd w (7, 11, 6, 0)), .int 4, .int a2, .int a3, .int a4] (cA w (S, o)) (some (.int (b2i v))) (cA w (S', o)) 20 8000 := by
  refine gMg_of "HedgeMessagesLaw" rfl (by decide) (kR rfl) fun X C hT => ?_
  unfold F_acts_4 at hF
  show gU w X _ _ 0 [(0, .ref (wAd w (7, 11, 6, 0))), (1, .int 4), (2, .int a2), (3, .int a3), (4, .int a4)] []
  refine r_iload_n C (k := 2) rfl rfl dL_acts_0 ?_
  refine r_aload_n C (k := 0) rfl rfl dL_acts_1 ?_
  refine r_callV C (d' := 0) [] (c_X10_slotCount (Ω := (S, o)) hW rfl rfl) myX10_slotCount wm5_8 ⟨_, _, _, _, (hW.ok k7), rfl, rfl, rfl, rfl⟩ rfl (kR rfl) (by decide) (kR rfl) rfl dL_acts_2 ?_ (hT.q (Nat.zero_le _) (Nat.zero_le _))
  obtain ⟨z1, hF⟩ := dz_e hF
  refine r_irem C z1 dL_acts_5 ?_
  refine r_istore C (lo' := [(5, .int (a2 - a2 / (F_X10_slotCount S) * (F_X10_slotCount S))), (0, .ref (wAd w (7, 11, 6, 0))), (1, .int 4), (2, .int a2), (3, .int a3), (4, .int a4)]) (by decide) rfl dL_acts_6 ?_
  refine r_aload_n C (k := 1) rfl rfl dL_acts_8 ?_
  obtain ⟨v2, hv2, hF⟩ := ob1_e hF
  refine r_callV C (d' := 2) [] (c_X10_twigCount (Ω := (S, o)) hW rfl N hv2) myX10_twigCount wm5_146 ⟨_, _, _, _, (hW.ok k7), rfl, rfl, rfl, rfl⟩ rfl (kR rfl) (by decide) (kR rfl) rfl dL_acts_9 ?_ (hT.q (Nat.zero_le _) (Nat.zero_le _))
  refine r_istore C (lo' := [(6, .int v2), (5, .int (a2 - a2 / (F_X10_slotCount S) * (F_X10_slotCount S))), (0, .ref (wAd w (7, 11, 6, 0))), (1, .int 4), (2, .int a2), (3, .int a3), (4, .int a4)]) (by decide) rfl dL_acts_12 ?_
  refine r_aload_n C (k := 2) rfl rfl dL_acts_14 ?_
  refine r_callV C (d' := 0) [] (c_X10_actionsLeft (Ω := (S, o)) hW rfl rfl) myX10_actionsLeft wm4_225 ⟨_, _, _, _, (hW.ok k7), rfl, rfl, rfl, rfl⟩ rfl (kR rfl) (by decide) (kR rfl) rfl dL_acts_15 ?_ (hT.q (Nat.zero_le _) (Nat.zero_le _))
  refine r_istore C (lo' := [(7, .int (F_X10_actionsLeft S)), (6, .int v2), (5, .int (a2 - a2 / (F_X10_slotCount S) * (F_X10_slotCount S))), (0, .ref (wAd w (7, 11, 6, 0))), (1, .int 4), (2, .int a2), (3, .int a3), (4, .int a4)]) (by decide) rfl dL_acts_18 ?_
  refine r_iload_n C (k := 4) rfl rfl dL_acts_20 ?_
  refine r_tabIn C (v := 4) (tgt := 271) (off := 250) rfl dL_acts_21 (by decide) (by decide) (by decide) (by decide) ?_
  refine r_aload_n C (k := 3) rfl rfl dL_acts_271 ?_
  refine r_iload C (k := 2) rfl dL_acts_272 ?_
  obtain ⟨v3, hv3, hF⟩ := ob1_e hF
  refine r_callV C (d' := 7) [.int (a2 - a2 / (F_X10_slotCount S) * (F_X10_slotCount S))] (c_X10_trimReason (Ω := (S, o)) hW hS rfl (a2 - a2 / (F_X10_slotCount S) * (F_X10_slotCount S)) (okI_e hv3)) myX10_trimReason wm5_117 ⟨_, _, _, _, (hW.ok k7), rfl, rfl, rfl, rfl⟩ rfl (kR rfl) (by decide) (kR rfl) rfl dL_acts_274 ?_ (hT.q (Nat.zero_le _) (Nat.zero_le _))
  refine r_istore C (lo' := [(8, .int v3), (7, .int (F_X10_actionsLeft S)), (6, .int v2), (5, .int (a2 - a2 / (F_X10_slotCount S) * (F_X10_slotCount S))), (0, .ref (wAd w (7, 11, 6, 0))), (1, .int 4), (2, .int a2), (3, .int a3), (4, .int a4)]) (by decide) rfl dL_acts_277 ?_
  refine r_aload_n C (k := 4) rfl rfl dL_acts_279 ?_
  refine r_iload C (k := 3) rfl dL_acts_280 ?_
  obtain ⟨v4, hv4, hF⟩ := ob1_e hF
  refine r_callV C (d' := 7) [.int (a2 - a2 / (F_X10_slotCount S) * (F_X10_slotCount S))] (c_X10_lengthAt (Ω := (S, o)) hW hS rfl (a2 - a2 / (F_X10_slotCount S) * (F_X10_slotCount S)) (okI_e hv4)) myX10_lengthAt wm5_23 ⟨_, _, _, _, (hW.ok k7), rfl, rfl, rfl, rfl⟩ rfl (kR rfl) (by decide) (kR rfl) rfl dL_acts_282 ?_ (hT.q (Nat.zero_le _) (Nat.zero_le _))
  refine r_istore C (lo' := [(9, .int v4), (8, .int v3), (7, .int (F_X10_actionsLeft S)), (6, .int v2), (5, .int (a2 - a2 / (F_X10_slotCount S) * (F_X10_slotCount S))), (0, .ref (wAd w (7, 11, 6, 0))), (1, .int 4), (2, .int a2), (3, .int a3), (4, .int a4)]) (by decide) rfl dL_acts_285 ?_
  refine r_aload_n C (k := 5) rfl rfl dL_acts_287 ?_
  refine r_iconst C (v := 2) rfl dL_acts_288 ?_
  refine r_iload C (k := 4) rfl dL_acts_289 ?_
  refine r_iconst C (v := 1) rfl dL_acts_291 ?_
  refine r_iload_n C (k := 8) rfl rfl dL_acts_292 ?_
  refine r_bipush C (v := 9) rfl dL_acts_293 ?_
  refine r_irem C (by decide) dL_acts_295 ?_
  refine r_iadd C dL_acts_296 ?_
  obtain ⟨r5, hr5, hF⟩ := ob1_e hF
  refine r_callH C (d' := 8) [.ref (wAd w (7, 11, 6, 0)), .int 2, .int (a2 - a2 / (F_X10_slotCount S) * (F_X10_slotCount S)), .int (1 + (a3 - a3 / 9 * 9))] (ny := 4) (c_does_2 (S' := r5.2) (v := r5.1) hW hS hZ (a2 - a2 / (F_X10_slotCount S) * (F_X10_slotCount S)) (1 + (a3 - a3 / 9 * 9)) hr5) cwL_does rfl wm1_0 wm3_194 ⟨by decide, by decide, by decide +kernel⟩ wm3_193 rfl (by decide) (kR rfl) (kR rfl) rfl dL_acts_297 (hT.q (show 0 + 1 ≤ 20 by decide) (show 0 + 6 ≤ 8000 by decide)) ?_
  refine r_istore C (lo' := [(10, .int r5.1), (9, .int v4), (8, .int v3), (7, .int (F_X10_actionsLeft S)), (6, .int v2), (5, .int (a2 - a2 / (F_X10_slotCount S) * (F_X10_slotCount S))), (0, .ref (wAd w (7, 11, 6, 0))), (1, .int 4), (2, .int a2), (3, .int a3), (4, .int a4)]) (by decide) rfl dL_acts_300 ?_
  refine r_iload C (k := 2) rfl dL_acts_302 ?_
  refine r_if_le C (tgt := 322) rfl dL_acts_304 (fun hc => ?_) (fun hc => ?_)
  · rw [if_pos hc] at hF
    refine r_iload C (k := 0) rfl dL_acts_322 ?_
    refine r_iconst C (v := 1) rfl dL_acts_324 ?_
    refine r_iload C (k := 1) rfl dL_acts_325 ?_
    refine r_iconst C (v := 1) rfl dL_acts_327 ?_
    refine r_isub C dL_acts_328 ?_
    refine r_iload_n C (k := 9) rfl rfl dL_acts_329 ?_
    refine r_bipush C (v := 9) rfl dL_acts_330 ?_
    refine r_irem C (by decide) dL_acts_332 ?_
    refine r_isub C dL_acts_333 ?_
    refine r_mmax C (by decide) wm5_96 (kR rfl) dL_acts_334 ?_ (hq :=  (hT.q (show 0 + 1 ≤ 20 by decide) (show 0 + 6 ≤ 8000 by decide)))
    refine r_icmp_ne C (tgt := 366) rfl dL_acts_337 (fun hc => ?_) (fun hc => ?_)
    · rw [if_neg hc] at hF
      refine r_iconst C (v := 0) rfl dL_acts_366 ?_
      cases hF
      refine r_wid (c' := 20) (s' := 8000) (show 0 + 1 ≤ 20 by decide) (show 0 + 6 ≤ 8000 by decide) ?_
      exact r_hzreturn C false rfl dL_acts_367
    · rw [if_pos hc] at hF
      refine r_aload_n C (k := 6) rfl rfl dL_acts_340 ?_
      refine r_iload C (k := 5) rfl dL_acts_341 ?_
      obtain ⟨v6, hv6, hF⟩ := ob1_e hF
      refine r_callV C (d' := 7) [.int (a2 - a2 / (F_X10_slotCount S) * (F_X10_slotCount S))] (c_X10_lengthAt (Ω := (r5.2, o)) hW hS rfl (a2 - a2 / (F_X10_slotCount S) * (F_X10_slotCount S)) (okI_e hv6)) myX10_lengthAt wm5_23 ⟨_, _, _, _, (hW.ok k7), rfl, rfl, rfl, rfl⟩ rfl (kR rfl) (by decide) (kR rfl) rfl dL_acts_343 ?_ (hT.q (show 0 + 1 ≤ 20 by decide) (show 0 + 6 ≤ 8000 by decide))
      refine r_iload C (k := 0) rfl dL_acts_346 ?_
      refine r_icmp_ne C (tgt := 366) rfl dL_acts_348 (fun hc => ?_) (fun hc => ?_)
      · rw [if_neg hc] at hF
        refine r_iconst C (v := 0) rfl dL_acts_366 ?_
        cases hF
        refine r_wid (c' := 20) (s' := 8000) (show 0 + 1 ≤ 20 by decide) (show 0 + 6 ≤ 8000 by decide) ?_
        exact r_hzreturn C false rfl dL_acts_367
      · rw [if_pos hc] at hF
        refine r_aload_n C (k := 6) rfl rfl dL_acts_351 ?_
        refine r_callV C (d' := 0) [] (c_X10_actionsLeft (Ω := (r5.2, o)) hW rfl rfl) myX10_actionsLeft wm4_225 ⟨_, _, _, _, (hW.ok k7), rfl, rfl, rfl, rfl⟩ rfl (kR rfl) (by decide) (kR rfl) rfl dL_acts_352 ?_ (hT.q (show 0 + 1 ≤ 20 by decide) (show 0 + 6 ≤ 8000 by decide))
        refine r_iload C (k := 3) rfl dL_acts_355 ?_
        refine r_iconst C (v := 1) rfl dL_acts_357 ?_
        refine r_isub C dL_acts_358 ?_
        refine r_icmp_ne C (tgt := 366) rfl dL_acts_359 (fun hc => ?_) (fun hc => ?_)
        · rw [if_neg hc] at hF
          refine r_iconst C (v := 0) rfl dL_acts_366 ?_
          cases hF
          refine r_wid (c' := 20) (s' := 8000) (show 0 + 1 ≤ 20 by decide) (show 0 + 6 ≤ 8000 by decide) ?_
          exact r_hzreturn C false rfl dL_acts_367
        · rw [if_pos hc] at hF
          refine r_iconst C (v := 1) rfl dL_acts_362 ?_
          refine r_goto C (tgt := 367) rfl dL_acts_363 ?_
          cases hF
          refine r_wid (c' := 20) (s' := 8000) (show 0 + 1 ≤ 20 by decide) (show 0 + 6 ≤ 8000 by decide) ?_
          exact r_hzreturn C true rfl dL_acts_367
  · rw [if_neg hc] at hF
    refine r_iload C (k := 0) rfl dL_acts_307 ?_
    refine r_bipush C (v := (-3)) (by decide) dL_acts_309 ?_
    refine r_icmp_ne C (tgt := 318) rfl dL_acts_311 (fun hc => ?_) (fun hc => ?_)
    · rw [if_neg hc] at hF
      refine r_iconst C (v := 0) rfl dL_acts_318 ?_
      refine r_goto C (tgt := 367) rfl dL_acts_319 ?_
      cases hF
      refine r_wid (c' := 20) (s' := 8000) (show 0 + 1 ≤ 20 by decide) (show 0 + 6 ≤ 8000 by decide) ?_
      exact r_hzreturn C false rfl dL_acts_367
    · rw [if_pos hc] at hF
      refine r_iconst C (v := 1) rfl dL_acts_314 ?_
      refine r_goto C (tgt := 367) rfl dL_acts_315 ?_
      cases hF
      refine r_wid (c' := 20) (s' := 8000) (show 0 + 1 ≤ 20 by decide) (show 0 + 6 ≤ 8000 by decide) ?_
      exact r_hzreturn C true rfl dL_acts_367
def F_acts_5 (N : Nat) (a2 : Int32) (a3 : Int32) (a4 : Int32) (S : SS) : Option (Bool × SS) := (if (F_X10_slotCount S) = 0 then none else (ob1 (F_X10_twigCount N S) fun v2 => (ob1 (F_X10_nestCount N S) fun v3 => (ob1 (F_X10_bestNestSlot N S) fun v4 => (ob1 ((if 6 ≤ v3 then some 0 else (ob1 (okI (F_X10_nestDays (a2 - a2 / (F_X10_slotCount S) * (F_X10_slotCount S)) S)) fun v7 => (if v7 = 0 then some 1 else some 0))) : Option Int32) fun v6 => (ob1 (fdR (F_X10_addNest N (a2 - a2 / (F_X10_slotCount S) * (F_X10_slotCount S)) (1 + (a3 - a3 / 8 * 8)) S)) fun r8 => (om (if 0 ≤ v4 then some (.inl ()) else (if v3 = 6 then some (.inl ()) else (if v3 = (F_X10_slotCount r8.2) then some (.inl ()) else some (.inr false)))) (fun r => some (r, r8.2)) (fun _ => (om (if v6 = 0 then (if r8.1 = (-3) then some (.inl ()) else some (.inr false)) else (if r8.1 = (v3 + 1) then (ob1 (okI (F_X10_nestDays (a2 - a2 / (F_X10_slotCount S) * (F_X10_slotCount S)) r8.2)) fun v11 => (if v11 = (1 + (a3 - a3 / 8 * 8)) then some (.inl ()) else some (.inr false))) else some (.inr false))) (fun r => some (r, r8.2)) (fun _ => some (true, r8.2)))))))))))
theorem c_acts_5 {w : WP} (hW : gW w) (hS : gS w) (hZ : gZ w) {S : SS} {o : HV × CT} (N : Nat) (a2 : Int32) (a3 : Int32) (a4 : Int32) {v : Bool} {S' : SS} (hF : F_acts_5 N a2 a3 a4 S = some (v, S')) : gMg w 10 yL_acts cL_acts 12 (some .boolean) [.ref (wAd w (7, 11, 6, 0)), .int 5, .int a2, .int a3, .int a4] (cA w (S, o)) (some (.int (b2i v))) (cA w (S', o)) 20 8000 := by
  refine gMg_of "HedgeMessagesLaw" rfl (by decide) (kR rfl) fun X C hT => ?_
  unfold F_acts_5 at hF
  show gU w X _ _ 0 [(0, .ref (wAd w (7, 11, 6, 0))), (1, .int 5), (2, .int a2), (3, .int a3), (4, .int a4)] []
  refine r_iload_n C (k := 2) rfl rfl dL_acts_0 ?_
  refine r_aload_n C (k := 0) rfl rfl dL_acts_1 ?_
  refine r_callV C (d' := 0) [] (c_X10_slotCount (Ω := (S, o)) hW rfl rfl) myX10_slotCount wm5_8 ⟨_, _, _, _, (hW.ok k7), rfl, rfl, rfl, rfl⟩ rfl (kR rfl) (by decide) (kR rfl) rfl dL_acts_2 ?_ (hT.q (Nat.zero_le _) (Nat.zero_le _))
  obtain ⟨z1, hF⟩ := dz_e hF
  refine r_irem C z1 dL_acts_5 ?_
  refine r_istore C (lo' := [(5, .int (a2 - a2 / (F_X10_slotCount S) * (F_X10_slotCount S))), (0, .ref (wAd w (7, 11, 6, 0))), (1, .int 5), (2, .int a2), (3, .int a3), (4, .int a4)]) (by decide) rfl dL_acts_6 ?_
  refine r_aload_n C (k := 1) rfl rfl dL_acts_8 ?_
  obtain ⟨v2, hv2, hF⟩ := ob1_e hF
  refine r_callV C (d' := 2) [] (c_X10_twigCount (Ω := (S, o)) hW rfl N hv2) myX10_twigCount wm5_146 ⟨_, _, _, _, (hW.ok k7), rfl, rfl, rfl, rfl⟩ rfl (kR rfl) (by decide) (kR rfl) rfl dL_acts_9 ?_ (hT.q (Nat.zero_le _) (Nat.zero_le _))
  refine r_istore C (lo' := [(6, .int v2), (5, .int (a2 - a2 / (F_X10_slotCount S) * (F_X10_slotCount S))), (0, .ref (wAd w (7, 11, 6, 0))), (1, .int 5), (2, .int a2), (3, .int a3), (4, .int a4)]) (by decide) rfl dL_acts_12 ?_
  refine r_aload_n C (k := 2) rfl rfl dL_acts_14 ?_
  refine r_callV C (d' := 0) [] (c_X10_actionsLeft (Ω := (S, o)) hW rfl rfl) myX10_actionsLeft wm4_225 ⟨_, _, _, _, (hW.ok k7), rfl, rfl, rfl, rfl⟩ rfl (kR rfl) (by decide) (kR rfl) rfl dL_acts_15 ?_ (hT.q (Nat.zero_le _) (Nat.zero_le _))
  refine r_istore C (lo' := [(7, .int (F_X10_actionsLeft S)), (6, .int v2), (5, .int (a2 - a2 / (F_X10_slotCount S) * (F_X10_slotCount S))), (0, .ref (wAd w (7, 11, 6, 0))), (1, .int 5), (2, .int a2), (3, .int a3), (4, .int a4)]) (by decide) rfl dL_acts_18 ?_
  refine r_iload_n C (k := 4) rfl rfl dL_acts_20 ?_
  refine r_tabIn C (v := 5) (tgt := 368) (off := 347) rfl dL_acts_21 (by decide) (by decide) (by decide) (by decide) ?_
  refine r_aload_n C (k := 3) rfl rfl dL_acts_368 ?_
  obtain ⟨v3, hv3, hF⟩ := ob1_e hF
  refine r_callV C (d' := 2) [] (c_X10_nestCount (Ω := (S, o)) hW rfl N hv3) myX10_nestCount wm5_150 ⟨_, _, _, _, (hW.ok k7), rfl, rfl, rfl, rfl⟩ rfl (kR rfl) (by decide) (kR rfl) rfl dL_acts_369 ?_ (hT.q (Nat.zero_le _) (Nat.zero_le _))
  refine r_istore C (lo' := [(8, .int v3), (7, .int (F_X10_actionsLeft S)), (6, .int v2), (5, .int (a2 - a2 / (F_X10_slotCount S) * (F_X10_slotCount S))), (0, .ref (wAd w (7, 11, 6, 0))), (1, .int 5), (2, .int a2), (3, .int a3), (4, .int a4)]) (by decide) rfl dL_acts_372 ?_
  refine r_aload_n C (k := 4) rfl rfl dL_acts_374 ?_
  obtain ⟨v4, hv4, hF⟩ := ob1_e hF
  refine r_callV C (d' := 5) [] (c_X10_bestNestSlot (Ω := (S, o)) hW rfl N hv4) myX10_bestNestSlot wm5_221 ⟨_, _, _, _, (hW.ok k7), rfl, rfl, rfl, rfl⟩ rfl (kR rfl) (by decide) (kR rfl) rfl dL_acts_375 ?_ (hT.q (Nat.zero_le _) (Nat.zero_le _))
  refine r_istore C (lo' := [(9, .int v4), (8, .int v3), (7, .int (F_X10_actionsLeft S)), (6, .int v2), (5, .int (a2 - a2 / (F_X10_slotCount S) * (F_X10_slotCount S))), (0, .ref (wAd w (7, 11, 6, 0))), (1, .int 5), (2, .int a2), (3, .int a3), (4, .int a4)]) (by decide) rfl dL_acts_378 ?_
  refine r_iload C (k := 1) rfl dL_acts_380 ?_
  refine r_bipush C (v := 6) rfl dL_acts_382 ?_
  obtain ⟨v6, hq5, hF⟩ := ob1_e hF
  have kq5 : ∀ a, v6 = a → gU w X (qH1 w X (some (.int (b2i v)), cA w (S', o)) 20 8000, 0, 0) (cA w (S, o)) 401 [(0, .ref (wAd w (7, 11, 6, 0))), (3, .int a3), (5, .int (a2 - a2 / (F_X10_slotCount S) * (F_X10_slotCount S))), (8, .int v3), (9, .int v4)] (.int a :: []) := by
    intro a ha
    subst ha
    refine r_istore C (lo' := [(10, .int v6), (0, .ref (wAd w (7, 11, 6, 0))), (3, .int a3), (5, .int (a2 - a2 / (F_X10_slotCount S) * (F_X10_slotCount S))), (8, .int v3), (9, .int v4)]) (by decide) rfl dL_acts_401 ?_
    refine r_aload_n C (k := 1) rfl rfl dL_acts_403 ?_
    refine r_iconst C (v := 3) rfl dL_acts_404 ?_
    refine r_iload C (k := 3) rfl dL_acts_405 ?_
    refine r_iconst C (v := 1) rfl dL_acts_407 ?_
    refine r_iload_n C (k := 2) rfl rfl dL_acts_408 ?_
    refine r_bipush C (v := 8) rfl dL_acts_409 ?_
    refine r_irem C (by decide) dL_acts_411 ?_
    refine r_iadd C dL_acts_412 ?_
    obtain ⟨r8, hr8, hF⟩ := ob1_e hF
    refine r_callH C (d' := 8) [.ref (wAd w (7, 11, 6, 0)), .int 3, .int (a2 - a2 / (F_X10_slotCount S) * (F_X10_slotCount S)), .int (1 + (a3 - a3 / 8 * 8))] (ny := 4) (c_does_3 (S' := r8.2) (v := r8.1) hW hS hZ N (a2 - a2 / (F_X10_slotCount S) * (F_X10_slotCount S)) (1 + (a3 - a3 / 8 * 8)) hr8) cwL_does rfl wm1_0 wm3_194 ⟨by decide, by decide, by decide +kernel⟩ wm3_193 rfl (by decide) (kR rfl) (kR rfl) rfl dL_acts_413 (hT.q (show 0 + 1 ≤ 20 by decide) (show 0 + 6 ≤ 8000 by decide)) ?_
    refine r_istore C (lo' := [(11, .int r8.1), (10, .int v6), (0, .ref (wAd w (7, 11, 6, 0))), (3, .int a3), (5, .int (a2 - a2 / (F_X10_slotCount S) * (F_X10_slotCount S))), (8, .int v3), (9, .int v4)]) (by decide) rfl dL_acts_416 ?_
    refine r_iload C (k := 6) rfl dL_acts_418 ?_
    obtain ⟨q9, hq9, hF⟩ := om_e hF
    have kq9 : ∀ a : Unit, q9 = .inl a → gU w X (qH1 w X (some (.int (b2i v)), cA w (S', o)) 20 8000, 1, 6) (cA w (r8.2, o)) 439 [(0, .ref (wAd w (7, 11, 6, 0))), (3, .int a3), (5, .int (a2 - a2 / (F_X10_slotCount S) * (F_X10_slotCount S))), (8, .int v3), (10, .int v6), (11, .int r8.1)] [] := by
      rintro ⟨⟩ ha
      subst ha
      dsimp only [Sum.elim_inl] at hF
      refine r_iload C (k := 4) rfl dL_acts_439 ?_
      obtain ⟨q10, hq10, hF⟩ := om_e hF
      have kq10 : ∀ a : Unit, q10 = .inl a → gU w X (qH1 w X (some (.int (b2i v)), cA w (S', o)) 20 8000, 1, 6) (cA w (r8.2, o)) 478 [] [] := by
        rintro ⟨⟩ ha
        subst ha
        dsimp only [Sum.elim_inl] at hF
        refine r_iconst C (v := 1) rfl dL_acts_478 ?_
        refine r_goto C (tgt := 483) rfl dL_acts_479 ?_
        cases hF
        refine r_wid (c' := 20) (s' := 8000) (show 0 + 1 ≤ 20 by decide) (show 0 + 6 ≤ 8000 by decide) ?_
        exact r_hzreturn C true rfl dL_acts_483
      refine r_if_eq C (tgt := 471) rfl dL_acts_441 (fun hc => ?_) (fun hc => ?_)
      · rw [if_pos hc] at hq10
        refine r_iload C (k := 5) rfl dL_acts_471 ?_
        refine r_bipush C (v := (-3)) (by decide) dL_acts_473 ?_
        refine r_icmp_ne C (tgt := 482) rfl dL_acts_475 (fun hc => ?_) (fun hc => ?_)
        · rw [if_neg hc] at hq10
          refine r_iconst C (v := 0) rfl dL_acts_482 ?_
          cases hq10
          change some _ = some _ at hF
          cases hF
          refine r_wid (c' := 20) (s' := 8000) (show 0 + 1 ≤ 20 by decide) (show 0 + 6 ≤ 8000 by decide) ?_
          exact r_hzreturn C false rfl dL_acts_483
        · rw [if_pos hc] at hq10
          cases hq10
          refine r_lo [] (lo' := []) rfl ?_
          exact kq10 _ rfl
      · rw [if_neg hc] at hq10
        refine r_iload C (k := 5) rfl dL_acts_444 ?_
        refine r_iload C (k := 3) rfl dL_acts_446 ?_
        refine r_iconst C (v := 1) rfl dL_acts_448 ?_
        refine r_iadd C dL_acts_449 ?_
        refine r_icmp_ne C (tgt := 482) rfl dL_acts_450 (fun hc => ?_) (fun hc => ?_)
        · rw [if_neg hc] at hq10
          refine r_iconst C (v := 0) rfl dL_acts_482 ?_
          cases hq10
          change some _ = some _ at hF
          cases hF
          refine r_wid (c' := 20) (s' := 8000) (show 0 + 1 ≤ 20 by decide) (show 0 + 6 ≤ 8000 by decide) ?_
          exact r_hzreturn C false rfl dL_acts_483
        · rw [if_pos hc] at hq10
          refine r_aload_n C (k := 0) rfl rfl dL_acts_453 ?_
          refine r_iload C (k := 2) rfl dL_acts_454 ?_
          obtain ⟨v11, hv11, hq10⟩ := ob1_e hq10
          refine r_callV C (d' := 7) [.int (a2 - a2 / (F_X10_slotCount S) * (F_X10_slotCount S))] (c_X10_nestDays (Ω := (r8.2, o)) hW hS rfl (a2 - a2 / (F_X10_slotCount S) * (F_X10_slotCount S)) (okI_e hv11)) myX10_nestDays wm5_27 ⟨_, _, _, _, (hW.ok k7), rfl, rfl, rfl, rfl⟩ rfl (kR rfl) (by decide) (kR rfl) rfl dL_acts_456 ?_ (hT.q (show 0 + 1 ≤ 20 by decide) (show 0 + 6 ≤ 8000 by decide))
          refine r_iconst C (v := 1) rfl dL_acts_459 ?_
          refine r_iload_n C (k := 1) rfl rfl dL_acts_460 ?_
          refine r_bipush C (v := 8) rfl dL_acts_461 ?_
          refine r_irem C (by decide) dL_acts_463 ?_
          refine r_iadd C dL_acts_464 ?_
          refine r_icmp_ne C (tgt := 482) rfl dL_acts_465 (fun hc => ?_) (fun hc => ?_)
          · rw [if_neg hc] at hq10
            refine r_iconst C (v := 0) rfl dL_acts_482 ?_
            cases hq10
            change some _ = some _ at hF
            cases hF
            refine r_wid (c' := 20) (s' := 8000) (show 0 + 1 ≤ 20 by decide) (show 0 + 6 ≤ 8000 by decide) ?_
            exact r_hzreturn C false rfl dL_acts_483
          · rw [if_pos hc] at hq10
            refine r_goto C (tgt := 478) rfl dL_acts_468 ?_
            cases hq10
            refine r_lo [] (lo' := []) rfl ?_
            exact kq10 _ rfl
    refine r_if_ge C (tgt := 439) rfl dL_acts_420 (fun hc => ?_) (fun hc => ?_)
    · rw [if_pos hc] at hq9
      cases hq9
      refine r_lo [2, 3, 4, 5, 1, 0] (lo' := [(0, .ref (wAd w (7, 11, 6, 0))), (3, .int a3), (5, .int (a2 - a2 / (F_X10_slotCount S) * (F_X10_slotCount S))), (8, .int v3), (10, .int v6), (11, .int r8.1)]) rfl ?_
      exact kq9 _ rfl
    · rw [if_neg hc] at hq9
      refine r_iload C (k := 5) rfl dL_acts_423 ?_
      refine r_bipush C (v := 6) rfl dL_acts_425 ?_
      refine r_icmp_eq C (tgt := 439) rfl dL_acts_427 (fun hc => ?_) (fun hc => ?_)
      · rw [if_pos hc] at hq9
        cases hq9
        refine r_lo [2, 3, 4, 5, 1, 0] (lo' := [(0, .ref (wAd w (7, 11, 6, 0))), (3, .int a3), (5, .int (a2 - a2 / (F_X10_slotCount S) * (F_X10_slotCount S))), (8, .int v3), (10, .int v6), (11, .int r8.1)]) rfl ?_
        exact kq9 _ rfl
      · rw [if_neg hc] at hq9
        refine r_iload C (k := 5) rfl dL_acts_430 ?_
        refine r_aload_n C (k := 2) rfl rfl dL_acts_432 ?_
        refine r_callV C (d' := 0) [] (c_X10_slotCount (Ω := (r8.2, o)) hW rfl rfl) myX10_slotCount wm5_8 ⟨_, _, _, _, (hW.ok k7), rfl, rfl, rfl, rfl⟩ rfl (kR rfl) (by decide) (kR rfl) rfl dL_acts_433 ?_ (hT.q (show 0 + 1 ≤ 20 by decide) (show 0 + 6 ≤ 8000 by decide))
        refine r_icmp_ne C (tgt := 482) rfl dL_acts_436 (fun hc => ?_) (fun hc => ?_)
        · rw [if_neg hc] at hq9
          refine r_iconst C (v := 0) rfl dL_acts_482 ?_
          cases hq9
          change some _ = some _ at hF
          cases hF
          refine r_wid (c' := 20) (s' := 8000) (show 0 + 1 ≤ 20 by decide) (show 0 + 6 ≤ 8000 by decide) ?_
          exact r_hzreturn C false rfl dL_acts_483
        · rw [if_pos hc] at hq9
          cases hq9
          refine r_lo [2, 3, 4, 5, 1, 0] (lo' := [(0, .ref (wAd w (7, 11, 6, 0))), (3, .int a3), (5, .int (a2 - a2 / (F_X10_slotCount S) * (F_X10_slotCount S))), (8, .int v3), (10, .int v6), (11, .int r8.1)]) rfl ?_
          exact kq9 _ rfl
  refine r_icmp_ge C (tgt := 400) rfl dL_acts_384 (fun hc => ?_) (fun hc => ?_)
  · rw [if_pos hc] at hq5
    refine r_iconst C (v := 0) rfl dL_acts_400 ?_
    cases hq5
    refine r_lo [5, 8, 4, 1, 0] (lo' := [(0, .ref (wAd w (7, 11, 6, 0))), (3, .int a3), (5, .int (a2 - a2 / (F_X10_slotCount S) * (F_X10_slotCount S))), (8, .int v3), (9, .int v4)]) rfl ?_
    exact kq5 _ rfl
  · rw [if_neg hc] at hq5
    refine r_aload_n C (k := 5) rfl rfl dL_acts_387 ?_
    refine r_iload C (k := 4) rfl dL_acts_388 ?_
    obtain ⟨v7, hv7, hq5⟩ := ob1_e hq5
    refine r_callV C (d' := 7) [.int (a2 - a2 / (F_X10_slotCount S) * (F_X10_slotCount S))] (c_X10_nestDays (Ω := (S, o)) hW hS rfl (a2 - a2 / (F_X10_slotCount S) * (F_X10_slotCount S)) (okI_e hv7)) myX10_nestDays wm5_27 ⟨_, _, _, _, (hW.ok k7), rfl, rfl, rfl, rfl⟩ rfl (kR rfl) (by decide) (kR rfl) rfl dL_acts_390 ?_ (hT.q (Nat.zero_le _) (Nat.zero_le _))
    refine r_if_ne C (tgt := 400) rfl dL_acts_393 (fun hc => ?_) (fun hc => ?_)
    · rw [if_neg hc] at hq5
      refine r_iconst C (v := 0) rfl dL_acts_400 ?_
      cases hq5
      refine r_lo [5, 8, 4, 1, 0] (lo' := [(0, .ref (wAd w (7, 11, 6, 0))), (3, .int a3), (5, .int (a2 - a2 / (F_X10_slotCount S) * (F_X10_slotCount S))), (8, .int v3), (9, .int v4)]) rfl ?_
      exact kq5 _ rfl
    · rw [if_pos hc] at hq5
      refine r_iconst C (v := 1) rfl dL_acts_396 ?_
      refine r_goto C (tgt := 401) rfl dL_acts_397 ?_
      cases hq5
      refine r_lo [5, 8, 4, 1, 0] (lo' := [(0, .ref (wAd w (7, 11, 6, 0))), (3, .int a3), (5, .int (a2 - a2 / (F_X10_slotCount S) * (F_X10_slotCount S))), (8, .int v3), (9, .int v4)]) rfl ?_
      exact kq5 _ rfl
def F_acts_8 (N : Nat) (a2 : Int32) (a3 : Int32) (a4 : Int32) (S : SS) : Option (Bool × SS) := (if (F_X10_slotCount S) = 0 then none else (ob1 (F_X10_twigCount N S) fun v2 => (ob1 (okI (F_X10_pendingCount (a2 - a2 / 2 * 2) S)) fun v3 => (ob1 (okI (F_X10_messagesDropped (a2 - a2 / 2 * 2) S)) fun v4 => (ob1 (fdR (F_X10_cancelMessage (a2 - a2 / 2 * 2) (a3 - a3 / 4 * 4) S)) fun r5 => (if (a3 - a3 / 4 * 4) < v3 then (if r5.1 ≤ 0 then some (false, r5.2) else (ob1 (okI (F_X10_pendingCount (a2 - a2 / 2 * 2) r5.2)) fun v6 => (if v6 = (v3 - 1) then (ob1 (okI (F_X10_messagesDropped (a2 - a2 / 2 * 2) r5.2)) fun v7 => (if v7 = (v4 + 1) then some (true, r5.2) else some (false, r5.2))) else some (false, r5.2)))) else (if r5.1 = (-1) then some (true, r5.2) else some (false, r5.2))))))))
theorem c_acts_8 {w : WP} (hW : gW w) (hS : gS w) (hZ : gZ w) {S : SS} {o : HV × CT} (N : Nat) (a2 : Int32) (a3 : Int32) (a4 : Int32) {v : Bool} {S' : SS} (hF : F_acts_8 N a2 a3 a4 S = some (v, S')) : gMg w 10 yL_acts cL_acts 12 (some .boolean) [.ref (wAd w (7, 11, 6, 0)), .int 8, .int a2, .int a3, .int a4] (cA w (S, o)) (some (.int (b2i v))) (cA w (S', o)) 20 8000 := by
  refine gMg_of "HedgeMessagesLaw" rfl (by decide) (kR rfl) fun X C hT => ?_
  unfold F_acts_8 at hF
  show gU w X _ _ 0 [(0, .ref (wAd w (7, 11, 6, 0))), (1, .int 8), (2, .int a2), (3, .int a3), (4, .int a4)] []
  refine r_iload_n C (k := 2) rfl rfl dL_acts_0 ?_
  refine r_aload_n C (k := 0) rfl rfl dL_acts_1 ?_
  refine r_callV C (d' := 0) [] (c_X10_slotCount (Ω := (S, o)) hW rfl rfl) myX10_slotCount wm5_8 ⟨_, _, _, _, (hW.ok k7), rfl, rfl, rfl, rfl⟩ rfl (kR rfl) (by decide) (kR rfl) rfl dL_acts_2 ?_ (hT.q (Nat.zero_le _) (Nat.zero_le _))
  obtain ⟨z1, hF⟩ := dz_e hF
  refine r_irem C z1 dL_acts_5 ?_
  refine r_istore C (lo' := [(5, .int (a2 - a2 / (F_X10_slotCount S) * (F_X10_slotCount S))), (0, .ref (wAd w (7, 11, 6, 0))), (1, .int 8), (2, .int a2), (3, .int a3), (4, .int a4)]) (by decide) rfl dL_acts_6 ?_
  refine r_aload_n C (k := 1) rfl rfl dL_acts_8 ?_
  obtain ⟨v2, hv2, hF⟩ := ob1_e hF
  refine r_callV C (d' := 2) [] (c_X10_twigCount (Ω := (S, o)) hW rfl N hv2) myX10_twigCount wm5_146 ⟨_, _, _, _, (hW.ok k7), rfl, rfl, rfl, rfl⟩ rfl (kR rfl) (by decide) (kR rfl) rfl dL_acts_9 ?_ (hT.q (Nat.zero_le _) (Nat.zero_le _))
  refine r_istore C (lo' := [(6, .int v2), (5, .int (a2 - a2 / (F_X10_slotCount S) * (F_X10_slotCount S))), (0, .ref (wAd w (7, 11, 6, 0))), (1, .int 8), (2, .int a2), (3, .int a3), (4, .int a4)]) (by decide) rfl dL_acts_12 ?_
  refine r_aload_n C (k := 2) rfl rfl dL_acts_14 ?_
  refine r_callV C (d' := 0) [] (c_X10_actionsLeft (Ω := (S, o)) hW rfl rfl) myX10_actionsLeft wm4_225 ⟨_, _, _, _, (hW.ok k7), rfl, rfl, rfl, rfl⟩ rfl (kR rfl) (by decide) (kR rfl) rfl dL_acts_15 ?_ (hT.q (Nat.zero_le _) (Nat.zero_le _))
  refine r_istore C (lo' := [(7, .int (F_X10_actionsLeft S)), (6, .int v2), (5, .int (a2 - a2 / (F_X10_slotCount S) * (F_X10_slotCount S))), (0, .ref (wAd w (7, 11, 6, 0))), (1, .int 8), (2, .int a2), (3, .int a3), (4, .int a4)]) (by decide) rfl dL_acts_18 ?_
  refine r_iload_n C (k := 4) rfl rfl dL_acts_20 ?_
  refine r_tabIn C (v := 8) (tgt := 643) (off := 622) rfl dL_acts_21 (by decide) (by decide) (by decide) (by decide) ?_
  refine r_iload_n C (k := 5) rfl rfl dL_acts_643 ?_
  refine r_iconst C (v := 2) rfl dL_acts_644 ?_
  refine r_irem C (by decide) dL_acts_645 ?_
  refine r_istore C (lo' := [(8, .int (a2 - a2 / 2 * 2)), (7, .int (F_X10_actionsLeft S)), (6, .int v2), (5, .int (a2 - a2 / (F_X10_slotCount S) * (F_X10_slotCount S))), (0, .ref (wAd w (7, 11, 6, 0))), (1, .int 8), (2, .int a2), (3, .int a3), (4, .int a4)]) (by decide) rfl dL_acts_646 ?_
  refine r_aload_n C (k := 4) rfl rfl dL_acts_648 ?_
  refine r_iload C (k := 0) rfl dL_acts_649 ?_
  obtain ⟨v3, hv3, hF⟩ := ob1_e hF
  refine r_callV C (d' := 7) [.int (a2 - a2 / 2 * 2)] (c_X10_pendingCount (Ω := (S, o)) hW hS rfl (a2 - a2 / 2 * 2) (okI_e hv3)) myX10_pendingCount wm5_36 ⟨_, _, _, _, (hW.ok k7), rfl, rfl, rfl, rfl⟩ rfl (kR rfl) (by decide) (kR rfl) rfl dL_acts_651 ?_ (hT.q (Nat.zero_le _) (Nat.zero_le _))
  refine r_istore C (lo' := [(9, .int v3), (8, .int (a2 - a2 / 2 * 2)), (7, .int (F_X10_actionsLeft S)), (6, .int v2), (5, .int (a2 - a2 / (F_X10_slotCount S) * (F_X10_slotCount S))), (0, .ref (wAd w (7, 11, 6, 0))), (1, .int 8), (2, .int a2), (3, .int a3), (4, .int a4)]) (by decide) rfl dL_acts_654 ?_
  refine r_aload_n C (k := 5) rfl rfl dL_acts_656 ?_
  refine r_iload C (k := 1) rfl dL_acts_657 ?_
  obtain ⟨v4, hv4, hF⟩ := ob1_e hF
  refine r_callV C (d' := 7) [.int (a2 - a2 / 2 * 2)] (c_X10_messagesDropped (Ω := (S, o)) hW hS rfl (a2 - a2 / 2 * 2) (okI_e hv4)) myX10_messagesDropped wm5_69 ⟨_, _, _, _, (hW.ok k7), rfl, rfl, rfl, rfl⟩ rfl (kR rfl) (by decide) (kR rfl) rfl dL_acts_659 ?_ (hT.q (Nat.zero_le _) (Nat.zero_le _))
  refine r_istore C (lo' := [(10, .int v4), (9, .int v3), (8, .int (a2 - a2 / 2 * 2)), (7, .int (F_X10_actionsLeft S)), (6, .int v2), (5, .int (a2 - a2 / (F_X10_slotCount S) * (F_X10_slotCount S))), (0, .ref (wAd w (7, 11, 6, 0))), (1, .int 8), (2, .int a2), (3, .int a3), (4, .int a4)]) (by decide) rfl dL_acts_662 ?_
  refine r_aload_n C (k := 6) rfl rfl dL_acts_664 ?_
  refine r_iconst C (v := 5) rfl dL_acts_665 ?_
  refine r_iload C (k := 2) rfl dL_acts_666 ?_
  refine r_iload_n C (k := 9) rfl rfl dL_acts_668 ?_
  refine r_iconst C (v := 4) rfl dL_acts_669 ?_
  refine r_irem C (by decide) dL_acts_670 ?_
  obtain ⟨r5, hr5, hF⟩ := ob1_e hF
  refine r_callH C (d' := 8) [.ref (wAd w (7, 11, 6, 0)), .int 5, .int (a2 - a2 / 2 * 2), .int (a3 - a3 / 4 * 4)] (ny := 4) (c_does_5 (S' := r5.2) (v := r5.1) hW hS hZ (a2 - a2 / 2 * 2) (a3 - a3 / 4 * 4) hr5) cwL_does rfl wm1_0 wm3_194 ⟨by decide, by decide, by decide +kernel⟩ wm3_193 rfl (by decide) (kR rfl) (kR rfl) rfl dL_acts_671 (hT.q (show 0 + 1 ≤ 20 by decide) (show 0 + 6 ≤ 8000 by decide)) ?_
  refine r_istore C (lo' := [(11, .int r5.1), (10, .int v4), (9, .int v3), (8, .int (a2 - a2 / 2 * 2)), (7, .int (F_X10_actionsLeft S)), (6, .int v2), (5, .int (a2 - a2 / (F_X10_slotCount S) * (F_X10_slotCount S))), (0, .ref (wAd w (7, 11, 6, 0))), (1, .int 8), (2, .int a2), (3, .int a3), (4, .int a4)]) (by decide) rfl dL_acts_674 ?_
  refine r_iload_n C (k := 10) rfl rfl dL_acts_676 ?_
  refine r_iconst C (v := 4) rfl dL_acts_677 ?_
  refine r_irem C (by decide) dL_acts_678 ?_
  refine r_iload C (k := 2) rfl dL_acts_679 ?_
  refine r_icmp_lt C (tgt := 698) rfl dL_acts_681 (fun hc => ?_) (fun hc => ?_)
  · rw [if_pos hc] at hF
    refine r_iload C (k := 0) rfl dL_acts_698 ?_
    refine r_if_le C (tgt := 733) rfl dL_acts_700 (fun hc => ?_) (fun hc => ?_)
    · rw [if_pos hc] at hF
      refine r_iconst C (v := 0) rfl dL_acts_733 ?_
      cases hF
      refine r_wid (c' := 20) (s' := 8000) (show 0 + 1 ≤ 20 by decide) (show 0 + 6 ≤ 8000 by decide) ?_
      exact r_hzreturn C false rfl dL_acts_734
    · rw [if_neg hc] at hF
      refine r_aload_n C (k := 7) rfl rfl dL_acts_703 ?_
      refine r_iload C (k := 3) rfl dL_acts_704 ?_
      obtain ⟨v6, hv6, hF⟩ := ob1_e hF
      refine r_callV C (d' := 7) [.int (a2 - a2 / 2 * 2)] (c_X10_pendingCount (Ω := (r5.2, o)) hW hS rfl (a2 - a2 / 2 * 2) (okI_e hv6)) myX10_pendingCount wm5_36 ⟨_, _, _, _, (hW.ok k7), rfl, rfl, rfl, rfl⟩ rfl (kR rfl) (by decide) (kR rfl) rfl dL_acts_706 ?_ (hT.q (show 0 + 1 ≤ 20 by decide) (show 0 + 6 ≤ 8000 by decide))
      refine r_iload C (k := 2) rfl dL_acts_709 ?_
      refine r_iconst C (v := 1) rfl dL_acts_711 ?_
      refine r_isub C dL_acts_712 ?_
      refine r_icmp_ne C (tgt := 733) rfl dL_acts_713 (fun hc => ?_) (fun hc => ?_)
      · rw [if_neg hc] at hF
        refine r_iconst C (v := 0) rfl dL_acts_733 ?_
        cases hF
        refine r_wid (c' := 20) (s' := 8000) (show 0 + 1 ≤ 20 by decide) (show 0 + 6 ≤ 8000 by decide) ?_
        exact r_hzreturn C false rfl dL_acts_734
      · rw [if_pos hc] at hF
        refine r_aload_n C (k := 7) rfl rfl dL_acts_716 ?_
        refine r_iload C (k := 3) rfl dL_acts_717 ?_
        obtain ⟨v7, hv7, hF⟩ := ob1_e hF
        refine r_callV C (d' := 7) [.int (a2 - a2 / 2 * 2)] (c_X10_messagesDropped (Ω := (r5.2, o)) hW hS rfl (a2 - a2 / 2 * 2) (okI_e hv7)) myX10_messagesDropped wm5_69 ⟨_, _, _, _, (hW.ok k7), rfl, rfl, rfl, rfl⟩ rfl (kR rfl) (by decide) (kR rfl) rfl dL_acts_719 ?_ (hT.q (show 0 + 1 ≤ 20 by decide) (show 0 + 6 ≤ 8000 by decide))
        refine r_iload C (k := 1) rfl dL_acts_722 ?_
        refine r_iconst C (v := 1) rfl dL_acts_724 ?_
        refine r_iadd C dL_acts_725 ?_
        refine r_icmp_ne C (tgt := 733) rfl dL_acts_726 (fun hc => ?_) (fun hc => ?_)
        · rw [if_neg hc] at hF
          refine r_iconst C (v := 0) rfl dL_acts_733 ?_
          cases hF
          refine r_wid (c' := 20) (s' := 8000) (show 0 + 1 ≤ 20 by decide) (show 0 + 6 ≤ 8000 by decide) ?_
          exact r_hzreturn C false rfl dL_acts_734
        · rw [if_pos hc] at hF
          refine r_iconst C (v := 1) rfl dL_acts_729 ?_
          refine r_goto C (tgt := 734) rfl dL_acts_730 ?_
          cases hF
          refine r_wid (c' := 20) (s' := 8000) (show 0 + 1 ≤ 20 by decide) (show 0 + 6 ≤ 8000 by decide) ?_
          exact r_hzreturn C true rfl dL_acts_734
  · rw [if_neg hc] at hF
    refine r_iload C (k := 0) rfl dL_acts_684 ?_
    refine r_iconst C (v := (-1)) (by decide) dL_acts_686 ?_
    refine r_icmp_ne C (tgt := 694) rfl dL_acts_687 (fun hc => ?_) (fun hc => ?_)
    · rw [if_neg hc] at hF
      refine r_iconst C (v := 0) rfl dL_acts_694 ?_
      refine r_goto C (tgt := 734) rfl dL_acts_695 ?_
      cases hF
      refine r_wid (c' := 20) (s' := 8000) (show 0 + 1 ≤ 20 by decide) (show 0 + 6 ≤ 8000 by decide) ?_
      exact r_hzreturn C false rfl dL_acts_734
    · rw [if_pos hc] at hF
      refine r_iconst C (v := 1) rfl dL_acts_690 ?_
      refine r_goto C (tgt := 734) rfl dL_acts_691 ?_
      cases hF
      refine r_wid (c' := 20) (s' := 8000) (show 0 + 1 ≤ 20 by decide) (show 0 + 6 ≤ 8000 by decide) ?_
      exact r_hzreturn C true rfl dL_acts_734
def F_acts_9 (N : Nat) (a2 : Int32) (a3 : Int32) (a4 : Int32) (S : SS) : Option (Bool × SS) := (if (F_X10_slotCount S) = 0 then none else (ob1 (F_X10_twigCount N S) fun v2 => (ob1 (okI (F_X10_leastWorkLimit N (a2 - a2 / 2 * 2) (1 + (a4 - a4 / 6 * 6)) S)) fun r3 => (if r3.1 < (-1) then some (false, r3.2) else (if 12 < r3.1 then some (false, r3.2) else (ob1 (fdR (F_X10_setWorkLimit (1 + (a3 - a3 / 12 * 12)) r3.2)) fun r4 => (if r4.1 = (F_X10_workLimit S) then (if (F_X10_workLimit r4.2) = (1 + (a3 - a3 / 12 * 12)) then (if (F_X10_actionsLeft r4.2) = (F_X10_actionsLeft S) then some (true, r4.2) else some (false, r4.2)) else some (false, r4.2)) else some (false, r4.2))))))))
theorem c_acts_9 {w : WP} (hW : gW w) (hS : gS w) (hZ : gZ w) {S : SS} {o : HV × CT} (N : Nat) (a2 : Int32) (a3 : Int32) (a4 : Int32) {v : Bool} {S' : SS} (hF : F_acts_9 N a2 a3 a4 S = some (v, S')) : gMg w 10 yL_acts cL_acts 12 (some .boolean) [.ref (wAd w (7, 11, 6, 0)), .int 9, .int a2, .int a3, .int a4] (cA w (S, o)) (some (.int (b2i v))) (cA w (S', o)) 20 8000 := by
  refine gMg_of "HedgeMessagesLaw" rfl (by decide) (kR rfl) fun X C hT => ?_
  unfold F_acts_9 at hF
  show gU w X _ _ 0 [(0, .ref (wAd w (7, 11, 6, 0))), (1, .int 9), (2, .int a2), (3, .int a3), (4, .int a4)] []
  refine r_iload_n C (k := 2) rfl rfl dL_acts_0 ?_
  refine r_aload_n C (k := 0) rfl rfl dL_acts_1 ?_
  refine r_callV C (d' := 0) [] (c_X10_slotCount (Ω := (S, o)) hW rfl rfl) myX10_slotCount wm5_8 ⟨_, _, _, _, (hW.ok k7), rfl, rfl, rfl, rfl⟩ rfl (kR rfl) (by decide) (kR rfl) rfl dL_acts_2 ?_ (hT.q (Nat.zero_le _) (Nat.zero_le _))
  obtain ⟨z1, hF⟩ := dz_e hF
  refine r_irem C z1 dL_acts_5 ?_
  refine r_istore C (lo' := [(5, .int (a2 - a2 / (F_X10_slotCount S) * (F_X10_slotCount S))), (0, .ref (wAd w (7, 11, 6, 0))), (1, .int 9), (2, .int a2), (3, .int a3), (4, .int a4)]) (by decide) rfl dL_acts_6 ?_
  refine r_aload_n C (k := 1) rfl rfl dL_acts_8 ?_
  obtain ⟨v2, hv2, hF⟩ := ob1_e hF
  refine r_callV C (d' := 2) [] (c_X10_twigCount (Ω := (S, o)) hW rfl N hv2) myX10_twigCount wm5_146 ⟨_, _, _, _, (hW.ok k7), rfl, rfl, rfl, rfl⟩ rfl (kR rfl) (by decide) (kR rfl) rfl dL_acts_9 ?_ (hT.q (Nat.zero_le _) (Nat.zero_le _))
  refine r_istore C (lo' := [(6, .int v2), (5, .int (a2 - a2 / (F_X10_slotCount S) * (F_X10_slotCount S))), (0, .ref (wAd w (7, 11, 6, 0))), (1, .int 9), (2, .int a2), (3, .int a3), (4, .int a4)]) (by decide) rfl dL_acts_12 ?_
  refine r_aload_n C (k := 2) rfl rfl dL_acts_14 ?_
  refine r_callV C (d' := 0) [] (c_X10_actionsLeft (Ω := (S, o)) hW rfl rfl) myX10_actionsLeft wm4_225 ⟨_, _, _, _, (hW.ok k7), rfl, rfl, rfl, rfl⟩ rfl (kR rfl) (by decide) (kR rfl) rfl dL_acts_15 ?_ (hT.q (Nat.zero_le _) (Nat.zero_le _))
  refine r_istore C (lo' := [(7, .int (F_X10_actionsLeft S)), (6, .int v2), (5, .int (a2 - a2 / (F_X10_slotCount S) * (F_X10_slotCount S))), (0, .ref (wAd w (7, 11, 6, 0))), (1, .int 9), (2, .int a2), (3, .int a3), (4, .int a4)]) (by decide) rfl dL_acts_18 ?_
  refine r_iload_n C (k := 4) rfl rfl dL_acts_20 ?_
  refine r_tabOut C (tgt := 735) dL_acts_21 (by decide) (by decide) ?_
  refine r_aload_n C (k := 3) rfl rfl dL_acts_735 ?_
  refine r_callV C (d' := 0) [] (c_X10_workLimit (Ω := (S, o)) hW rfl rfl) myX10_workLimit wm4_229 ⟨_, _, _, _, (hW.ok k7), rfl, rfl, rfl, rfl⟩ rfl (kR rfl) (by decide) (kR rfl) rfl dL_acts_736 ?_ (hT.q (Nat.zero_le _) (Nat.zero_le _))
  refine r_istore C (lo' := [(8, .int (F_X10_workLimit S)), (7, .int (F_X10_actionsLeft S)), (6, .int v2), (5, .int (a2 - a2 / (F_X10_slotCount S) * (F_X10_slotCount S))), (0, .ref (wAd w (7, 11, 6, 0))), (1, .int 9), (2, .int a2), (3, .int a3), (4, .int a4)]) (by decide) rfl dL_acts_739 ?_
  refine r_aload_n C (k := 4) rfl rfl dL_acts_741 ?_
  refine r_iload_n C (k := 6) rfl rfl dL_acts_742 ?_
  refine r_iconst C (v := 2) rfl dL_acts_743 ?_
  refine r_irem C (by decide) dL_acts_744 ?_
  refine r_iconst C (v := 1) rfl dL_acts_745 ?_
  refine r_iload C (k := 8) rfl dL_acts_746 ?_
  refine r_bipush C (v := 6) rfl dL_acts_748 ?_
  refine r_irem C (by decide) dL_acts_750 ?_
  refine r_iadd C dL_acts_751 ?_
  obtain ⟨r3, hr3, hF⟩ := ob1_e hF
  refine r_callV C (d' := 7) [.int (a2 - a2 / 2 * 2), .int (1 + (a4 - a4 / 6 * 6))] (c_X10_leastWorkLimit (Ω := (S, o)) hW hS rfl N (a2 - a2 / 2 * 2) (1 + (a4 - a4 / 6 * 6)) (v := r3.1) (S' := r3.2) (okI_e hr3) rfl) myX10_leastWorkLimit wm6_229 ⟨_, _, _, _, (hW.ok k7), rfl, rfl, rfl, rfl⟩ rfl (kR rfl) (by decide) (kR rfl) rfl dL_acts_752 ?_ (hT.q (Nat.zero_le _) (Nat.zero_le _))
  refine r_istore C (lo' := [(9, .int r3.1), (8, .int (F_X10_workLimit S)), (7, .int (F_X10_actionsLeft S)), (6, .int v2), (5, .int (a2 - a2 / (F_X10_slotCount S) * (F_X10_slotCount S))), (0, .ref (wAd w (7, 11, 6, 0))), (1, .int 9), (2, .int a2), (3, .int a3), (4, .int a4)]) (by decide) rfl dL_acts_755 ?_
  refine r_iload C (k := 0) rfl dL_acts_757 ?_
  refine r_iconst C (v := (-1)) (by decide) dL_acts_759 ?_
  refine r_icmp_lt C (tgt := 814) rfl dL_acts_760 (fun hc => ?_) (fun hc => ?_)
  · rw [if_pos hc] at hF
    refine r_iconst C (v := 0) rfl dL_acts_814 ?_
    cases hF
    refine r_wid (c' := 20) (s' := 8000) (Nat.zero_le _) (Nat.zero_le _) ?_
    exact r_hzreturn C false rfl dL_acts_815
  · rw [if_neg hc] at hF
    refine r_iload C (k := 0) rfl dL_acts_763 ?_
    refine r_bipush C (v := 12) rfl dL_acts_765 ?_
    refine r_icmp_gt C (tgt := 814) rfl dL_acts_767 (fun hc => ?_) (fun hc => ?_)
    · rw [if_pos hc] at hF
      refine r_iconst C (v := 0) rfl dL_acts_814 ?_
      cases hF
      refine r_wid (c' := 20) (s' := 8000) (Nat.zero_le _) (Nat.zero_le _) ?_
      exact r_hzreturn C false rfl dL_acts_815
    · rw [if_neg hc] at hF
      refine r_aload_n C (k := 5) rfl rfl dL_acts_770 ?_
      refine r_bipush C (v := 6) rfl dL_acts_771 ?_
      refine r_iconst C (v := 1) rfl dL_acts_773 ?_
      refine r_iload_n C (k := 8) rfl rfl dL_acts_774 ?_
      refine r_bipush C (v := 12) rfl dL_acts_775 ?_
      refine r_irem C (by decide) dL_acts_777 ?_
      refine r_iadd C dL_acts_778 ?_
      refine r_iconst C (v := 0) rfl dL_acts_779 ?_
      obtain ⟨r4, hr4, hF⟩ := ob1_e hF
      refine r_callH C (d' := 7) [.ref (wAd w (7, 11, 6, 0)), .int 6, .int (1 + (a3 - a3 / 12 * 12)), .int 0] (ny := 4) (c_does_6 (S' := r4.2) (v := r4.1) hW hS hZ (1 + (a3 - a3 / 12 * 12)) 0 hr4) cwL_does rfl wm1_0 wm3_194 ⟨by decide, by decide, by decide +kernel⟩ wm3_193 rfl (by decide) (kR rfl) (kR rfl) rfl dL_acts_780 (hT.q (show 0 + 1 ≤ 20 by decide) (show 0 + 6 ≤ 8000 by decide)) ?_
      refine r_iload C (k := 1) rfl dL_acts_783 ?_
      refine r_icmp_ne C (tgt := 814) rfl dL_acts_785 (fun hc => ?_) (fun hc => ?_)
      · rw [if_neg hc] at hF
        refine r_iconst C (v := 0) rfl dL_acts_814 ?_
        cases hF
        refine r_wid (c' := 20) (s' := 8000) (show 0 + 1 ≤ 20 by decide) (show 0 + 6 ≤ 8000 by decide) ?_
        exact r_hzreturn C false rfl dL_acts_815
      · rw [if_pos hc] at hF
        refine r_aload_n C (k := 5) rfl rfl dL_acts_788 ?_
        refine r_callV C (d' := 0) [] (c_X10_workLimit (Ω := (r4.2, o)) hW rfl rfl) myX10_workLimit wm4_229 ⟨_, _, _, _, (hW.ok k7), rfl, rfl, rfl, rfl⟩ rfl (kR rfl) (by decide) (kR rfl) rfl dL_acts_789 ?_ (hT.q (show 0 + 1 ≤ 20 by decide) (show 0 + 6 ≤ 8000 by decide))
        refine r_iconst C (v := 1) rfl dL_acts_792 ?_
        refine r_iload_n C (k := 8) rfl rfl dL_acts_793 ?_
        refine r_bipush C (v := 12) rfl dL_acts_794 ?_
        refine r_irem C (by decide) dL_acts_796 ?_
        refine r_iadd C dL_acts_797 ?_
        refine r_icmp_ne C (tgt := 814) rfl dL_acts_798 (fun hc => ?_) (fun hc => ?_)
        · rw [if_neg hc] at hF
          refine r_iconst C (v := 0) rfl dL_acts_814 ?_
          cases hF
          refine r_wid (c' := 20) (s' := 8000) (show 0 + 1 ≤ 20 by decide) (show 0 + 6 ≤ 8000 by decide) ?_
          exact r_hzreturn C false rfl dL_acts_815
        · rw [if_pos hc] at hF
          refine r_aload_n C (k := 5) rfl rfl dL_acts_801 ?_
          refine r_callV C (d' := 0) [] (c_X10_actionsLeft (Ω := (r4.2, o)) hW rfl rfl) myX10_actionsLeft wm4_225 ⟨_, _, _, _, (hW.ok k7), rfl, rfl, rfl, rfl⟩ rfl (kR rfl) (by decide) (kR rfl) rfl dL_acts_802 ?_ (hT.q (show 0 + 1 ≤ 20 by decide) (show 0 + 6 ≤ 8000 by decide))
          refine r_iload C (k := 2) rfl dL_acts_805 ?_
          refine r_icmp_ne C (tgt := 814) rfl dL_acts_807 (fun hc => ?_) (fun hc => ?_)
          · rw [if_neg hc] at hF
            refine r_iconst C (v := 0) rfl dL_acts_814 ?_
            cases hF
            refine r_wid (c' := 20) (s' := 8000) (show 0 + 1 ≤ 20 by decide) (show 0 + 6 ≤ 8000 by decide) ?_
            exact r_hzreturn C false rfl dL_acts_815
          · rw [if_pos hc] at hF
            refine r_iconst C (v := 1) rfl dL_acts_810 ?_
            refine r_goto C (tgt := 815) rfl dL_acts_811 ?_
            cases hF
            refine r_wid (c' := 20) (s' := 8000) (show 0 + 1 ≤ 20 by decide) (show 0 + 6 ≤ 8000 by decide) ?_
            exact r_hzreturn C true rfl dL_acts_815
