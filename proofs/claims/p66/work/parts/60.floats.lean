/-! ===== floats: rows for results that are numbers; meanLength, occupancy ===== -/
def n32 (r : UInt32) : Bool := decide (r &&& 0x7fffffff ≤ 0x7f800000)
def n64 (r : UInt64) : Bool := decide (r &&& 0x7fffffffffffffff ≤ 0x7ff0000000000000)
theorem n32_e {r : UInt32} (h : n32 r = true) : vf_n32 r := by
  have h2 : r &&& 0x7fffffff ≤ 0x7f800000 := of_decide_eq_true h
  exact h2
theorem n64_e {r : UInt64} (h : n64 r = true) : vf_n64 r := by
  have h2 : r &&& 0x7fffffffffffffff ≤ 0x7ff0000000000000 := of_decide_eq_true h
  exact h2
section FLOATS
variable {w : WP} {X : CX} {cc : ByteArray} {own : String} {ret : Option FieldType} {d nL : Nat} {Q : QT} {ct : CT} {pc : Nat} {lo : List (Nat × Value)} {st : List Value}
theorem r_fconst (C : gC w X cc own ret d nL) (hd : decode cc pc = .ok (.fconst 0, 1)) (kk : gU w X Q ct (pc + 1) lo (.float FP.fconst0 :: st)) : gU w X Q ct pc lo st := by
  obtain ⟨p, e, R, s, m, args, below, meth, c, n, A⟩ := X
  exact fun H locs ls hP hS hl => lv_fconst0 C.1 C.2.1 hd (kk H locs ls hP hS hl)
theorem r_dconst (C : gC w X cc own ret d nL) (hd : decode cc pc = .ok (.dconst 0, 1)) (kk : gU w X Q ct (pc + 1) lo (.double FP.dconst0 :: st)) : gU w X Q ct pc lo st := by
  obtain ⟨p, e, R, s, m, args, below, meth, c, n, A⟩ := X
  exact fun H locs ls hP hS hl => lv_dconst0 C.1 C.2.1 hd (kk H locs ls hP hS hl)
theorem r_i2f (C : gC w X cc own ret d nL) {x : Int32} (hd : decode cc pc = .ok (.i2f, 1)) (kk : gU w X Q ct (pc + 1) lo (.float (FP.i2f x) :: st)) : gU w X Q ct pc lo (.int x :: st) := by
  obtain ⟨p, e, R, s, m, args, below, meth, c, n, A⟩ := X
  exact fun H locs ls hP hS hl => lv_i2f C.1 C.2.1 hd (kk H locs ls hP hS hl)
theorem r_i2d (C : gC w X cc own ret d nL) {x : Int32} (hd : decode cc pc = .ok (.i2d, 1)) (kk : gU w X Q ct (pc + 1) lo (.double (FP.i2d x) :: st)) : gU w X Q ct pc lo (.int x :: st) := by
  obtain ⟨p, e, R, s, m, args, below, meth, c, n, A⟩ := X
  exact fun H locs ls hP hS hl => lv_i2d C.1 C.2.1 hd (kk H locs ls hP hS hl)
theorem r_fdiv (C : gC w X cc own ret d nL) {x y : UInt32} (hn : n32 (FP.fdiv x y) = true) (hd : decode cc pc = .ok (.fdiv, 1)) (kk : gU w X Q ct (pc + 1) lo (.float (FP.fdiv x y) :: st)) : gU w X Q ct pc lo (.float y :: .float x :: st) := by
  obtain ⟨p, e, R, s, m, args, below, meth, c, n, A⟩ := X
  exact fun H locs ls hP hS hl => lv_fdiv C.1 C.2.1 hd (n32_e hn) (kk H locs ls hP hS hl)
theorem r_ddiv (C : gC w X cc own ret d nL) {x y : UInt64} (hn : n64 (FP.ddiv x y) = true) (hd : decode cc pc = .ok (.ddiv, 1)) (kk : gU w X Q ct (pc + 1) lo (.double (FP.ddiv x y) :: st)) : gU w X Q ct pc lo (.double y :: .double x :: st) := by
  obtain ⟨p, e, R, s, m, args, below, meth, c, n, A⟩ := X
  exact fun H locs ls hP hS hl => lv_ddiv C.1 C.2.1 hd (n64_e hn) (kk H locs ls hP hS hl)
theorem r_f2d (C : gC w X cc own ret d nL) {x : UInt32} (hn : n64 (FP.f2d x) = true) (hd : decode cc pc = .ok (.f2d, 1)) (kk : gU w X Q ct (pc + 1) lo (.double (FP.f2d x) :: st)) : gU w X Q ct pc lo (.float x :: st) := by
  obtain ⟨p, e, R, s, m, args, below, meth, c, n, A⟩ := X
  exact fun H locs ls hP hS hl => lv_f2d C.1 C.2.1 hd (n64_e hn) (kk H locs ls hP hS hl)
theorem r_freturn (C : gC w X cc own (some .float) d nL) {x : UInt32} (hd : decode cc pc = .ok (.freturn, 1)) : gV w X (some (.float x), ct) ct pc lo [.float x] := by
  obtain ⟨p, e, R, s, m, args, below, meth, c, n, A⟩ := X
  exact fun H locs ls hP hS hl => W.fret C.1 C.2.1 C.2.2.2.2.2.2.1 (fun t ht hW => ⟨⟨rfl, by rw [ht]; exact hP⟩, hS.F ht⟩) hS.2.2 hd C.2.2.2.2.2.2.2.1
theorem r_dreturn (C : gC w X cc own (some .double) d nL) {x : UInt64} (hd : decode cc pc = .ok (.dreturn, 1)) : gV w X (some (.double x), ct) ct pc lo [.double x] := by
  obtain ⟨p, e, R, s, m, args, below, meth, c, n, A⟩ := X
  exact fun H locs ls hP hS hl => W.dret C.1 C.2.1 C.2.2.2.2.2.2.1 (fun t ht hW => ⟨⟨rfl, by rw [ht]; exact hP⟩, hS.F ht⟩) hS.2.2 hd C.2.2.2.2.2.2.2.1
end FLOATS
theorem dX10_meanLength_0 : decode cX10_meanLength 0 = .ok (.aload_n 0, 1) := by decide +kernel
theorem dX10_meanLength_1 : decode cX10_meanLength 1 = .ok (.getfield 10, 3) := by decide +kernel
theorem dX10_meanLength_4 : decode cX10_meanLength 4 = .ok (.invokevirtual 145, 3) := by decide +kernel
theorem dX10_meanLength_7 : decode cX10_meanLength 7 = .ok (.istore_n 1, 1) := by decide +kernel
theorem dX10_meanLength_8 : decode cX10_meanLength 8 = .ok (.iload_n 1, 1) := by decide +kernel
theorem dX10_meanLength_9 : decode cX10_meanLength 9 = .ok (.ifCond .le 17, 3) := by decide +kernel
theorem dX10_meanLength_12 : decode cX10_meanLength 12 = .ok (.aload_n 0, 1) := by decide +kernel
theorem dX10_meanLength_13 : decode cX10_meanLength 13 = .ok (.getfield 10, 3) := by decide +kernel
theorem dX10_meanLength_16 : decode cX10_meanLength 16 = .ok (.invokevirtual 295, 3) := by decide +kernel
theorem dX10_meanLength_19 : decode cX10_meanLength 19 = .ok (.i2f, 1) := by decide +kernel
theorem dX10_meanLength_20 : decode cX10_meanLength 20 = .ok (.iload_n 1, 1) := by decide +kernel
theorem dX10_meanLength_21 : decode cX10_meanLength 21 = .ok (.i2f, 1) := by decide +kernel
theorem dX10_meanLength_22 : decode cX10_meanLength 22 = .ok (.fdiv, 1) := by decide +kernel
theorem dX10_meanLength_23 : decode cX10_meanLength 23 = .ok (.goto 4, 3) := by decide +kernel
theorem dX10_meanLength_26 : decode cX10_meanLength 26 = .ok (.fconst 0, 1) := by decide +kernel
theorem dX10_meanLength_27 : decode cX10_meanLength 27 = .ok (.freturn, 1) := by decide +kernel
def F_X10_meanLength (N : Nat) (S : Nat → Nat → HV) : Option (UInt32) := (ob1 (F_X5_countTwigs N (S 0)) fun v1 => (if v1 ≤ 0 then some FP.fconst0 else (ob1 (F_X5_sumOfLengths N (S 0)) fun v2 => (if n32 (FP.fdiv (FP.i2f v2) (FP.i2f v1)) = true then some (FP.fdiv (FP.i2f v2) (FP.i2f v1)) else none))))
theorem c_X10_meanLength {w : WP} (hW : gW w) {Ω : OM}  {S : Nat → Nat → HV} (e : Ω.1 = S) (N : Nat)  {v : UInt32} (hF : F_X10_meanLength N S = some v) : gM w 2 yX10_meanLength cX10_meanLength 2 (some .float) [.ref (wAd w (7, 11, 6, 0))] (cA w Ω) (some (.float v)) (cA w Ω) := by
  refine gM_of "HedgeMessages" rfl (by decide) (kR rfl) fun X C => ?_
  unfold F_X10_meanLength at hF
  show gV w X _ _ 0 [(0, .ref (wAd w (7, 11, 6, 0)))] []
  refine r_aload_n C (k := 0) rfl rfl dX10_meanLength_0 ?_
  refine og_7_0 C (hW.ok k7) wm2_159 dX10_meanLength_1 ?_
  obtain ⟨v1, hv1, hF⟩ := ob1_e hF
  refine r_callV C (d' := 1) [] (c_X5_countTwigs hW (by decide) (congrFun e 0) N hv1) myX5_countTwigs wm4_20 ⟨_, _, _, _, (hW.ok (k0 (by decide))), rfl, rfl, rfl, rfl⟩ rfl (kR rfl) (by decide) (kR rfl) rfl dX10_meanLength_4 ?_
  refine r_istore_n C (lo' := [(1, .int v1), (0, .ref (wAd w (7, 11, 6, 0)))]) rfl (by decide) rfl dX10_meanLength_7 ?_
  refine r_iload_n C (k := 0) rfl rfl dX10_meanLength_8 ?_
  refine r_if_le C (tgt := 26) rfl dX10_meanLength_9 (fun hc => ?_) (fun hc => ?_)
  · rw [if_pos hc] at hF
    refine r_fconst C dX10_meanLength_26 ?_
    cases hF
    exact r_freturn C dX10_meanLength_27
  · rw [if_neg hc] at hF
    refine r_aload_n C (k := 1) rfl rfl dX10_meanLength_12 ?_
    refine og_7_0 C (hW.ok k7) wm2_159 dX10_meanLength_13 ?_
    obtain ⟨v2, hv2, hF⟩ := ob1_e hF
    refine r_callV C (d' := 1) [] (c_X5_sumOfLengths hW (by decide) (congrFun e 0) N hv2) myX5_sumOfLengths wm5_158 ⟨_, _, _, _, (hW.ok (k0 (by decide))), rfl, rfl, rfl, rfl⟩ rfl (kR rfl) (by decide) (kR rfl) rfl dX10_meanLength_16 ?_
    refine r_i2f C dX10_meanLength_19 ?_
    refine r_iload_n C (k := 0) rfl rfl dX10_meanLength_20 ?_
    refine r_i2f C dX10_meanLength_21 ?_
    obtain ⟨b3, hF⟩ := gd_e hF
    refine r_fdiv C b3 dX10_meanLength_22 ?_
    refine r_goto C (tgt := 27) rfl dX10_meanLength_23 ?_
    cases hF
    exact r_freturn C dX10_meanLength_27
theorem dX10_occupancy_0 : decode cX10_occupancy 0 = .ok (.aload_n 0, 1) := by decide +kernel
theorem dX10_occupancy_1 : decode cX10_occupancy 1 = .ok (.getfield 10, 3) := by decide +kernel
theorem dX10_occupancy_4 : decode cX10_occupancy 4 = .ok (.getfield 108, 3) := by decide +kernel
theorem dX10_occupancy_7 : decode cX10_occupancy 7 = .ok (.ifCond .le 23, 3) := by decide +kernel
theorem dX10_occupancy_10 : decode cX10_occupancy 10 = .ok (.aload_n 0, 1) := by decide +kernel
theorem dX10_occupancy_11 : decode cX10_occupancy 11 = .ok (.getfield 10, 3) := by decide +kernel
theorem dX10_occupancy_14 : decode cX10_occupancy 14 = .ok (.invokevirtual 145, 3) := by decide +kernel
theorem dX10_occupancy_17 : decode cX10_occupancy 17 = .ok (.i2d, 1) := by decide +kernel
theorem dX10_occupancy_18 : decode cX10_occupancy 18 = .ok (.aload_n 0, 1) := by decide +kernel
theorem dX10_occupancy_19 : decode cX10_occupancy 19 = .ok (.getfield 10, 3) := by decide +kernel
theorem dX10_occupancy_22 : decode cX10_occupancy 22 = .ok (.getfield 108, 3) := by decide +kernel
theorem dX10_occupancy_25 : decode cX10_occupancy 25 = .ok (.i2d, 1) := by decide +kernel
theorem dX10_occupancy_26 : decode cX10_occupancy 26 = .ok (.ddiv, 1) := by decide +kernel
theorem dX10_occupancy_27 : decode cX10_occupancy 27 = .ok (.goto 4, 3) := by decide +kernel
theorem dX10_occupancy_30 : decode cX10_occupancy 30 = .ok (.dconst 0, 1) := by decide +kernel
theorem dX10_occupancy_31 : decode cX10_occupancy 31 = .ok (.dreturn, 1) := by decide +kernel
def F_X10_occupancy (N : Nat) (S : Nat → Nat → HV) : Option (UInt64) := (if ((S 0 0).1 0) ≤ 0 then some FP.dconst0 else (ob1 (F_X5_countTwigs N (S 0)) fun v1 => (if n64 (FP.ddiv (FP.i2d v1) (FP.i2d ((S 0 0).1 0))) = true then some (FP.ddiv (FP.i2d v1) (FP.i2d ((S 0 0).1 0))) else none)))
theorem c_X10_occupancy {w : WP} (hW : gW w) {Ω : OM}  {S : Nat → Nat → HV} (e : Ω.1 = S) (N : Nat)  {v : UInt64} (hF : F_X10_occupancy N S = some v) : gM w 2 yX10_occupancy cX10_occupancy 1 (some .double) [.ref (wAd w (7, 11, 6, 0))] (cA w Ω) (some (.double v)) (cA w Ω) := by
  refine gM_of "HedgeMessages" rfl (by decide) (kR rfl) fun X C => ?_
  unfold F_X10_occupancy at hF
  show gV w X _ _ 0 [(0, .ref (wAd w (7, 11, 6, 0)))] []
  refine r_aload_n C (k := 0) rfl rfl dX10_occupancy_0 ?_
  refine og_7_0 C (hW.ok k7) wm2_159 dX10_occupancy_1 ?_
  refine ogN_0_0 C (hW.ok (k0 (by decide))) (congrFun (congrFun e 0) 0) wm1_134 dX10_occupancy_4 ?_
  refine r_if_le C (tgt := 30) rfl dX10_occupancy_7 (fun hc => ?_) (fun hc => ?_)
  · rw [if_pos hc] at hF
    refine r_dconst C dX10_occupancy_30 ?_
    cases hF
    exact r_dreturn C dX10_occupancy_31
  · rw [if_neg hc] at hF
    refine r_aload_n C (k := 0) rfl rfl dX10_occupancy_10 ?_
    refine og_7_0 C (hW.ok k7) wm2_159 dX10_occupancy_11 ?_
    obtain ⟨v1, hv1, hF⟩ := ob1_e hF
    refine r_callV C (d' := 1) [] (c_X5_countTwigs hW (by decide) (congrFun e 0) N hv1) myX5_countTwigs wm4_20 ⟨_, _, _, _, (hW.ok (k0 (by decide))), rfl, rfl, rfl, rfl⟩ rfl (kR rfl) (by decide) (kR rfl) rfl dX10_occupancy_14 ?_
    refine r_i2d C dX10_occupancy_17 ?_
    refine r_aload_n C (k := 0) rfl rfl dX10_occupancy_18 ?_
    refine og_7_0 C (hW.ok k7) wm2_159 dX10_occupancy_19 ?_
    refine ogN_0_0 C (hW.ok (k0 (by decide))) (congrFun (congrFun e 0) 0) wm1_134 dX10_occupancy_22 ?_
    refine r_i2d C dX10_occupancy_25 ?_
    obtain ⟨b2, hF⟩ := gd_e hF
    refine r_ddiv C b2 dX10_occupancy_26 ?_
    refine r_goto C (tgt := 31) rfl dX10_occupancy_27 ?_
    cases hF
    exact r_dreturn C dX10_occupancy_31
