/-! ===== 52.face: printed by wip/p66/genface.py ===== -/
theorem dX10_endDays_0 : decode cX10_endDays 0 = .ok (.iload_n 1, 1) := by decide +kernel
theorem dX10_endDays_1 : decode cX10_endDays 1 = .ok (.iconst 1, 1) := by decide +kernel
theorem dX10_endDays_2 : decode cX10_endDays 2 = .ok (.invokestatic 247, 3) := by decide +kernel
theorem dX10_endDays_5 : decode cX10_endDays 5 = .ok (.aload_n 0, 1) := by decide +kernel
theorem dX10_endDays_6 : decode cX10_endDays 6 = .ok (.getfield 25, 3) := by decide +kernel
theorem dX10_endDays_9 : decode cX10_endDays 9 = .ok (.aload_n 0, 1) := by decide +kernel
theorem dX10_endDays_10 : decode cX10_endDays 10 = .ok (.getfield 10, 3) := by decide +kernel
theorem dX10_endDays_13 : decode cX10_endDays 13 = .ok (.invokevirtual 114, 3) := by decide +kernel
theorem dX10_endDays_16 : decode cX10_endDays 16 = .ok (.aload_n 0, 1) := by decide +kernel
theorem dX10_endDays_17 : decode cX10_endDays 17 = .ok (.getfield 10, 3) := by decide +kernel
theorem dX10_endDays_20 : decode cX10_endDays 20 = .ok (.getfield 281, 3) := by decide +kernel
theorem dX10_endDays_23 : decode cX10_endDays 23 = .ok (.getfield 253, 3) := by decide +kernel
theorem dX10_endDays_26 : decode cX10_endDays 26 = .ok (.aload_n 0, 1) := by decide +kernel
theorem dX10_endDays_27 : decode cX10_endDays 27 = .ok (.getfield 10, 3) := by decide +kernel
theorem dX10_endDays_30 : decode cX10_endDays 30 = .ok (.getfield 288, 3) := by decide +kernel
theorem dX10_endDays_33 : decode cX10_endDays 33 = .ok (.getfield 253, 3) := by decide +kernel
theorem dX10_endDays_36 : decode cX10_endDays 36 = .ok (.iadd, 1) := by decide +kernel
theorem dX10_endDays_37 : decode cX10_endDays 37 = .ok (.istore_n 2, 1) := by decide +kernel
theorem dX10_endDays_38 : decode cX10_endDays 38 = .ok (.iconst 0, 1) := by decide +kernel
theorem dX10_endDays_39 : decode cX10_endDays 39 = .ok (.istore_n 3, 1) := by decide +kernel
theorem dX10_endDays_40 : decode cX10_endDays 40 = .ok (.iload_n 3, 1) := by decide +kernel
theorem dX10_endDays_41 : decode cX10_endDays 41 = .ok (.iload_n 1, 1) := by decide +kernel
theorem dX10_endDays_42 : decode cX10_endDays 42 = .ok (.if_icmp .ge 16, 3) := by decide +kernel
theorem dX10_endDays_45 : decode cX10_endDays 45 = .ok (.aload_n 0, 1) := by decide +kernel
theorem dX10_endDays_46 : decode cX10_endDays 46 = .ok (.getfield 10, 3) := by decide +kernel
theorem dX10_endDays_49 : decode cX10_endDays 49 = .ok (.invokevirtual 244, 3) := by decide +kernel
theorem dX10_endDays_52 : decode cX10_endDays 52 = .ok (.iinc 3 1, 3) := by decide +kernel
theorem dX10_endDays_55 : decode cX10_endDays 55 = .ok (.goto (-15), 3) := by decide +kernel
theorem dX10_endDays_58 : decode cX10_endDays 58 = .ok (.aload_n 0, 1) := by decide +kernel
theorem dX10_endDays_59 : decode cX10_endDays 59 = .ok (.getfield 10, 3) := by decide +kernel
theorem dX10_endDays_62 : decode cX10_endDays 62 = .ok (.getfield 281, 3) := by decide +kernel
theorem dX10_endDays_65 : decode cX10_endDays 65 = .ok (.getfield 253, 3) := by decide +kernel
theorem dX10_endDays_68 : decode cX10_endDays 68 = .ok (.aload_n 0, 1) := by decide +kernel
theorem dX10_endDays_69 : decode cX10_endDays 69 = .ok (.getfield 10, 3) := by decide +kernel
theorem dX10_endDays_72 : decode cX10_endDays 72 = .ok (.getfield 288, 3) := by decide +kernel
theorem dX10_endDays_75 : decode cX10_endDays 75 = .ok (.getfield 253, 3) := by decide +kernel
theorem dX10_endDays_78 : decode cX10_endDays 78 = .ok (.iadd, 1) := by decide +kernel
theorem dX10_endDays_79 : decode cX10_endDays 79 = .ok (.iload_n 2, 1) := by decide +kernel
theorem dX10_endDays_80 : decode cX10_endDays 80 = .ok (.isub, 1) := by decide +kernel
theorem dX10_endDays_81 : decode cX10_endDays 81 = .ok (.ireturn, 1) := by decide +kernel
def st_X10_endDays_40 (N : Nat) (l1 : Int32) (l2 : Int32) (l3 : Int32) (S : Nat → Nat → HV) : Option ((Int32 × (Nat → Nat → HV)) ⊕ ((Int32 × (Nat → Nat → HV)) ⊕ (Nat × (Nat → Nat → HV)))) := (if l1 ≤ l3 then some (.inr (.inl (((((S 0 1).1 7) + ((S 0 2).1 7)) - l2), S))) else (ob1 (F_X5_endOneDay N (S 0)) fun g6 => (lt (up S 0 g6) fun S7 => some (.inl ((l3 + 1), S7)))))
def F_X10_endDays (N : Nat) (a1 : Int32) (S : Nat → Nat → HV) : Option ((Int32 × (Nat → Nat → HV)) ⊕ (Nat × (Nat → Nat → HV))) := (ox (F_X10_requireDays a1 1) (fun k9 => some (.inr (k9, S))) fun u1 => (ob1 (F_X6_remember 0 S) fun S4 => (lpN N (fun z => st_X10_endDays_40 N a1 (((S4 0 1).1 7) + ((S4 0 2).1 7)) z.1 z.2) (0, S4))))
theorem lp_X10_endDays_40 {w : WP} (hW : gW w) (hS : gS w) {Ω : OM}   (l1 : Int32) (l2 : Int32) {N : Nat} {X : CX} (C : gC w X cX10_endDays "HedgeMessages" (some .int) 7 4) {v : Int32} {S' : Nat → Nat → HV}  : ∀ (n : Nat) (l3 : Int32) (S : Nat → Nat → HV), lpN n (fun z : Int32 × (Nat → Nat → HV) => st_X10_endDays_40 N l1 l2 z.1 z.2) (l3, S) = some (.inl (v, S')) → gV w X (some (.int v), cA w (S', Ω.2)) (cA w (S, Ω.2)) 40 [(0, .ref (wAd w (7, 11, 6, 0))), (1, .int l1), (2, .int l2), (3, .int l3)] [] := by
  intro n
  induction n with
  | zero => intro l3 S hL; exact lpN_0 hL
  | succ n ih =>
    intro l3 S hL
    obtain ⟨q9, hF, hL⟩ := lpN_e hL
    change st_X10_endDays_40 N l1 l2 l3 S = some q9 at hF
    unfold st_X10_endDays_40 at hF
    refine r_iload_n C (k := 3) rfl rfl dX10_endDays_40 ?_
    refine r_iload_n C (k := 1) rfl rfl dX10_endDays_41 ?_
    refine r_icmp_ge C (tgt := 58) rfl dX10_endDays_42 (fun hc => ?_) (fun hc => ?_)
    · rw [if_pos hc] at hF
      refine r_aload_n C (k := 0) rfl rfl dX10_endDays_58 ?_
      refine og_7_0 C (hW.ok k7) wm2_159 dX10_endDays_59 ?_
      refine ogN_0_13 C (hW.ok (k0 (by decide))) wm1_157 dX10_endDays_62 ?_
      refine ogN_1_7 C (hW.ok (k1 (by decide) (Or.inl rfl))) (congrFun (congrFun (show (S, Ω.2).1 = S from rfl) 0) 1) wm1_78 dX10_endDays_65 ?_
      refine r_aload_n C (k := 0) rfl rfl dX10_endDays_68 ?_
      refine og_7_0 C (hW.ok k7) wm2_159 dX10_endDays_69 ?_
      refine ogN_0_14 C (hW.ok (k0 (by decide))) wm1_159 dX10_endDays_72 ?_
      refine ogN_1_7 C (hW.ok (k1 (by decide) (Or.inr rfl))) (congrFun (congrFun (show (S, Ω.2).1 = S from rfl) 0) 2) wm1_78 dX10_endDays_75 ?_
      refine r_iadd C dX10_endDays_78 ?_
      refine r_iload_n C (k := 2) rfl rfl dX10_endDays_79 ?_
      refine r_isub C dX10_endDays_80 ?_
      cases hF
      change some _ = some _ at hL
      cases hL
      exact r_ireturn C dX10_endDays_81
    · rw [if_neg hc] at hF
      refine r_aload_n C (k := 0) rfl rfl dX10_endDays_45 ?_
      refine og_7_0 C (hW.ok k7) wm2_159 dX10_endDays_46 ?_
      obtain ⟨g6, hg6, hF⟩ := ob1_e hF
      obtain ⟨S7, eS7, hF⟩ := lt_e hF
      refine r_callV C (d' := 5) [] (c_X5_endOneDay hW (by decide) (congrFun (show (S, Ω.2).1 = S from rfl) 0) N hg6 (congrArg (fun z => (z, Ω.2)) eS7)) myX5_endOneDay wm4_137 ⟨_, _, _, _, (hW.ok (k0 (by decide))), rfl, rfl, rfl, rfl⟩ rfl (kR rfl) (by decide) (kR rfl) rfl dX10_endDays_49 ?_
      refine r_iinc C (k := 3) (v := (l3 + 1)) (lo' := [(3, .int (l3 + 1)), (0, .ref (wAd w (7, 11, 6, 0))), (1, .int l1), (2, .int l2)]) rfl rfl (by decide) rfl dX10_endDays_52 ?_
      refine r_goto C (tgt := 40) rfl dX10_endDays_55 ?_
      cases hF
      change lpN n _ _ = some _ at hL
      refine r_lo [1, 2, 3, 0] (lo' := [(0, .ref (wAd w (7, 11, 6, 0))), (1, .int l1), (2, .int l2), (3, .int (l3 + 1))]) rfl ?_
      exact ih (l3 + 1) S7 hL
theorem c_X10_endDays {w : WP} (hW : gW w) (hS : gS w) {Ω : OM}  {S : Nat → Nat → HV} (e : Ω.1 = S) (N : Nat) (a1 : Int32) {v : Int32} {S' : Nat → Nat → HV} (hF : F_X10_endDays N a1 S = some (.inl (v, S'))) {Ω' : OM} (e2 : (S', Ω.2) = Ω') : gM w 7 yX10_endDays cX10_endDays 4 (some .int) [.ref (wAd w (7, 11, 6, 0)), .int a1] (cA w Ω) (some (.int v)) (cA w Ω') := by
  refine gM_of "HedgeMessages" rfl (by decide) (kR rfl) fun X C => ?_
  unfold F_X10_endDays at hF
  subst e2
  show gV w X _ _ 0 [(0, .ref (wAd w (7, 11, 6, 0))), (1, .int a1)] []
  refine r_ct (ct' := cA w (S, Ω.2)) (by rw [← e]) ?_
  refine r_iload_n C (k := 1) rfl rfl dX10_endDays_0 ?_
  refine r_iconst C (v := 1) rfl dX10_endDays_1 ?_
  rcases ox_e hF with ⟨u1, hu1, hF⟩ | ⟨kx2, hkx2, hF⟩
  rotate_left
  · cases hF
  refine r_callS C (d' := 6) [.int a1, .int 1] (c_X10_requireDays hS a1 1 hu1) myX10_requireDays wm4_133 rfl (kR rfl) (by decide) (kR rfl) rfl dX10_endDays_2 ?_
  refine r_aload_n C (k := 0) rfl rfl dX10_endDays_5 ?_
  refine og_7_4 C (hW.ok k7) wm2_163 dX10_endDays_6 ?_
  refine r_aload_n C (k := 0) rfl rfl dX10_endDays_9 ?_
  refine og_7_0 C (hW.ok k7) wm2_159 dX10_endDays_10 ?_
  obtain ⟨S4, hS4, hF⟩ := ob1_e hF
  refine r_callV C (d' := 5) [.ref (wAd w (0, 0, 0, 0))] (c_X6_remember hW (show (S, Ω.2).1 = S from rfl) 0 (by decide) hS4 rfl) myX6_remember wm4_2 ⟨_, _, _, _, (hW.ok k8), rfl, rfl, rfl, rfl⟩ rfl (kR rfl) (by decide) (kR rfl) rfl dX10_endDays_13 ?_
  refine r_aload_n C (k := 0) rfl rfl dX10_endDays_16 ?_
  refine og_7_0 C (hW.ok k7) wm2_159 dX10_endDays_17 ?_
  refine ogN_0_13 C (hW.ok (k0 (by decide))) wm1_157 dX10_endDays_20 ?_
  refine ogN_1_7 C (hW.ok (k1 (by decide) (Or.inl rfl))) (congrFun (congrFun (show (S4, Ω.2).1 = S4 from rfl) 0) 1) wm1_78 dX10_endDays_23 ?_
  refine r_aload_n C (k := 0) rfl rfl dX10_endDays_26 ?_
  refine og_7_0 C (hW.ok k7) wm2_159 dX10_endDays_27 ?_
  refine ogN_0_14 C (hW.ok (k0 (by decide))) wm1_159 dX10_endDays_30 ?_
  refine ogN_1_7 C (hW.ok (k1 (by decide) (Or.inr rfl))) (congrFun (congrFun (show (S4, Ω.2).1 = S4 from rfl) 0) 2) wm1_78 dX10_endDays_33 ?_
  refine r_iadd C dX10_endDays_36 ?_
  refine r_istore_n C (lo' := [(2, .int (((S4 0 1).1 7) + ((S4 0 2).1 7))), (0, .ref (wAd w (7, 11, 6, 0))), (1, .int a1)]) rfl (by decide) rfl dX10_endDays_37 ?_
  refine r_iconst C (v := 0) rfl dX10_endDays_38 ?_
  refine r_istore_n C (lo' := [(3, .int 0), (2, .int (((S4 0 1).1 7) + ((S4 0 2).1 7))), (0, .ref (wAd w (7, 11, 6, 0))), (1, .int a1)]) rfl (by decide) rfl dX10_endDays_39 ?_
  refine r_lo [2, 3, 1, 0] (lo' := [(0, .ref (wAd w (7, 11, 6, 0))), (1, .int a1), (2, .int (((S4 0 1).1 7) + ((S4 0 2).1 7))), (3, .int 0)]) rfl ?_
  exact lp_X10_endDays_40 hW hS a1 (((S4 0 1).1 7) + ((S4 0 2).1 7)) C N 0 S4 hF
theorem lpx_X10_endDays_40 {w : WP} (hW : gW w) (hS : gS w) {Ω : OM}   (l1 : Int32) (l2 : Int32) {N : Nat} {X : CX} (C : gC w X cX10_endDays "HedgeMessages" (some .int) 7 4) (hZ : gZ w) (hT9 : gT X) {k9 : Nat} {S' : Nat → Nat → HV}  : ∀ (n : Nat) (l3 : Int32) (S : Nat → Nat → HV), lpN n (fun z : Int32 × (Nat → Nat → HV) => st_X10_endDays_40 N l1 l2 z.1 z.2) (l3, S) = some (.inr (k9, S')) → gU w X (qX w X (xN k9, cA w (S', Ω.2))) (cA w (S, Ω.2)) 40 [(0, .ref (wAd w (7, 11, 6, 0))), (1, .int l1), (2, .int l2), (3, .int l3)] [] := by
  intro n
  induction n with
  | zero => intro l3 S hL; exact lpN_0 hL
  | succ n ih =>
    intro l3 S hL
    obtain ⟨q9, hF, hL⟩ := lpN_e hL
    change st_X10_endDays_40 N l1 l2 l3 S = some q9 at hF
    unfold st_X10_endDays_40 at hF
    refine r_iload_n C (k := 3) rfl rfl dX10_endDays_40 ?_
    refine r_iload_n C (k := 1) rfl rfl dX10_endDays_41 ?_
    refine r_icmp_ge C (tgt := 58) rfl dX10_endDays_42 (fun hc => ?_) (fun hc => ?_)
    · rw [if_pos hc] at hF
      refine r_aload_n C (k := 0) rfl rfl dX10_endDays_58 ?_
      refine og_7_0 C (hW.ok k7) wm2_159 dX10_endDays_59 ?_
      refine ogN_0_13 C (hW.ok (k0 (by decide))) wm1_157 dX10_endDays_62 ?_
      refine ogN_1_7 C (hW.ok (k1 (by decide) (Or.inl rfl))) (congrFun (congrFun (show (S, Ω.2).1 = S from rfl) 0) 1) wm1_78 dX10_endDays_65 ?_
      refine r_aload_n C (k := 0) rfl rfl dX10_endDays_68 ?_
      refine og_7_0 C (hW.ok k7) wm2_159 dX10_endDays_69 ?_
      refine ogN_0_14 C (hW.ok (k0 (by decide))) wm1_159 dX10_endDays_72 ?_
      refine ogN_1_7 C (hW.ok (k1 (by decide) (Or.inr rfl))) (congrFun (congrFun (show (S, Ω.2).1 = S from rfl) 0) 2) wm1_78 dX10_endDays_75 ?_
      refine r_iadd C dX10_endDays_78 ?_
      refine r_iload_n C (k := 2) rfl rfl dX10_endDays_79 ?_
      refine r_isub C dX10_endDays_80 ?_
      cases hF
      change some _ = some _ at hL
      cases hL
    · rw [if_neg hc] at hF
      refine r_aload_n C (k := 0) rfl rfl dX10_endDays_45 ?_
      refine og_7_0 C (hW.ok k7) wm2_159 dX10_endDays_46 ?_
      obtain ⟨g6, hg6, hF⟩ := ob1_e hF
      obtain ⟨S7, eS7, hF⟩ := lt_e hF
      refine r_callV C (d' := 5) [] (c_X5_endOneDay hW (by decide) (congrFun (show (S, Ω.2).1 = S from rfl) 0) N hg6 (congrArg (fun z => (z, Ω.2)) eS7)) myX5_endOneDay wm4_137 ⟨_, _, _, _, (hW.ok (k0 (by decide))), rfl, rfl, rfl, rfl⟩ rfl (kR rfl) (by decide) (kR rfl) rfl dX10_endDays_49 ?_
      refine r_iinc C (k := 3) (v := (l3 + 1)) (lo' := [(3, .int (l3 + 1)), (0, .ref (wAd w (7, 11, 6, 0))), (1, .int l1), (2, .int l2)]) rfl rfl (by decide) rfl dX10_endDays_52 ?_
      refine r_goto C (tgt := 40) rfl dX10_endDays_55 ?_
      cases hF
      change lpN n _ _ = some _ at hL
      refine r_lo [1, 2, 3, 0] (lo' := [(0, .ref (wAd w (7, 11, 6, 0))), (1, .int l1), (2, .int l2), (3, .int (l3 + 1))]) rfl ?_
      exact ih (l3 + 1) S7 hL
theorem x_X10_endDays {w : WP} (hW : gW w) (hS : gS w) (hZ : gZ w) {Ω : OM}  {S : Nat → Nat → HV} (e : Ω.1 = S) (N : Nat) (a1 : Int32) {k9 : Nat} {S' : Nat → Nat → HV} (hF : F_X10_endDays N a1 S = some (.inr (k9, S'))) {Ω' : OM} (e2 : (S', Ω.2) = Ω') : gMx w 7 yX10_endDays cX10_endDays 4 (some .int) [.ref (wAd w (7, 11, 6, 0)), .int a1] (cA w Ω) (xN k9) (cA w Ω') := by
  refine gMx_of "HedgeMessages" rfl (by decide) (kR rfl) fun X C hT9 => ?_
  unfold F_X10_endDays at hF
  subst e2
  show gU w X _ _ 0 [(0, .ref (wAd w (7, 11, 6, 0))), (1, .int a1)] []
  refine r_ct (ct' := cA w (S, Ω.2)) (by rw [← e]) ?_
  refine r_iload_n C (k := 1) rfl rfl dX10_endDays_0 ?_
  refine r_iconst C (v := 1) rfl dX10_endDays_1 ?_
  rcases ox_e hF with ⟨u1, hu1, hF⟩ | ⟨kx2, hkx2, hF⟩
  rotate_left
  · cases hF
    exact x_callS C hT9 (d' := 6) [.int a1, .int 1] (x_X10_requireDays hS hZ a1 1 hkx2) myX10_requireDays wm4_133 rfl (kR rfl) (by decide) (kR rfl) rfl dX10_endDays_2
  refine r_callS C (d' := 6) [.int a1, .int 1] (c_X10_requireDays hS a1 1 hu1) myX10_requireDays wm4_133 rfl (kR rfl) (by decide) (kR rfl) rfl dX10_endDays_2 ?_
  refine r_aload_n C (k := 0) rfl rfl dX10_endDays_5 ?_
  refine og_7_4 C (hW.ok k7) wm2_163 dX10_endDays_6 ?_
  refine r_aload_n C (k := 0) rfl rfl dX10_endDays_9 ?_
  refine og_7_0 C (hW.ok k7) wm2_159 dX10_endDays_10 ?_
  obtain ⟨S4, hS4, hF⟩ := ob1_e hF
  refine r_callV C (d' := 5) [.ref (wAd w (0, 0, 0, 0))] (c_X6_remember hW (show (S, Ω.2).1 = S from rfl) 0 (by decide) hS4 rfl) myX6_remember wm4_2 ⟨_, _, _, _, (hW.ok k8), rfl, rfl, rfl, rfl⟩ rfl (kR rfl) (by decide) (kR rfl) rfl dX10_endDays_13 ?_
  refine r_aload_n C (k := 0) rfl rfl dX10_endDays_16 ?_
  refine og_7_0 C (hW.ok k7) wm2_159 dX10_endDays_17 ?_
  refine ogN_0_13 C (hW.ok (k0 (by decide))) wm1_157 dX10_endDays_20 ?_
  refine ogN_1_7 C (hW.ok (k1 (by decide) (Or.inl rfl))) (congrFun (congrFun (show (S4, Ω.2).1 = S4 from rfl) 0) 1) wm1_78 dX10_endDays_23 ?_
  refine r_aload_n C (k := 0) rfl rfl dX10_endDays_26 ?_
  refine og_7_0 C (hW.ok k7) wm2_159 dX10_endDays_27 ?_
  refine ogN_0_14 C (hW.ok (k0 (by decide))) wm1_159 dX10_endDays_30 ?_
  refine ogN_1_7 C (hW.ok (k1 (by decide) (Or.inr rfl))) (congrFun (congrFun (show (S4, Ω.2).1 = S4 from rfl) 0) 2) wm1_78 dX10_endDays_33 ?_
  refine r_iadd C dX10_endDays_36 ?_
  refine r_istore_n C (lo' := [(2, .int (((S4 0 1).1 7) + ((S4 0 2).1 7))), (0, .ref (wAd w (7, 11, 6, 0))), (1, .int a1)]) rfl (by decide) rfl dX10_endDays_37 ?_
  refine r_iconst C (v := 0) rfl dX10_endDays_38 ?_
  refine r_istore_n C (lo' := [(3, .int 0), (2, .int (((S4 0 1).1 7) + ((S4 0 2).1 7))), (0, .ref (wAd w (7, 11, 6, 0))), (1, .int a1)]) rfl (by decide) rfl dX10_endDays_39 ?_
  refine r_lo [2, 3, 1, 0] (lo' := [(0, .ref (wAd w (7, 11, 6, 0))), (1, .int a1), (2, .int (((S4 0 1).1 7) + ((S4 0 2).1 7))), (3, .int 0)]) rfl ?_
  exact lpx_X10_endDays_40 hW hS a1 (((S4 0 1).1 7) + ((S4 0 2).1 7)) C hZ hT9 N 0 S4 hF
theorem dX10_undo_0 : decode cX10_undo 0 = .ok (.aload_n 0, 1) := by decide +kernel
theorem dX10_undo_1 : decode cX10_undo 1 = .ok (.getfield 25, 3) := by decide +kernel
theorem dX10_undo_4 : decode cX10_undo 4 = .ok (.getfield 367, 3) := by decide +kernel
theorem dX10_undo_7 : decode cX10_undo 7 = .ok (.ifCond .ne 14, 3) := by decide +kernel
theorem dX10_undo_10 : decode cX10_undo 10 = .ok (.new 78, 3) := by decide +kernel
theorem dX10_undo_13 : decode cX10_undo 13 = .ok (.dup, 1) := by decide +kernel
theorem dX10_undo_14 : decode cX10_undo 14 = .ok (.ldc_w 368, 3) := by decide +kernel
theorem dX10_undo_17 : decode cX10_undo 17 = .ok (.invokespecial 82, 3) := by decide +kernel
theorem dX10_undo_20 : decode cX10_undo 20 = .ok (.athrow, 1) := by decide +kernel
theorem dX10_undo_21 : decode cX10_undo 21 = .ok (.aload_n 0, 1) := by decide +kernel
theorem dX10_undo_22 : decode cX10_undo 22 = .ok (.getfield 25, 3) := by decide +kernel
theorem dX10_undo_25 : decode cX10_undo 25 = .ok (.aload_n 0, 1) := by decide +kernel
theorem dX10_undo_26 : decode cX10_undo 26 = .ok (.getfield 10, 3) := by decide +kernel
theorem dX10_undo_29 : decode cX10_undo 29 = .ok (.invokevirtual 370, 3) := by decide +kernel
theorem dX10_undo_32 : decode cX10_undo 32 = .ok (.aload_n 0, 1) := by decide +kernel
theorem dX10_undo_33 : decode cX10_undo 33 = .ok (.getfield 25, 3) := by decide +kernel
theorem dX10_undo_36 : decode cX10_undo 36 = .ok (.getfield 367, 3) := by decide +kernel
theorem dX10_undo_39 : decode cX10_undo 39 = .ok (.ireturn, 1) := by decide +kernel
def F_X10_undo (S : Nat → Nat → HV) : Option ((Int32 × (Nat → Nat → HV)) ⊕ (Nat × (Nat → Nat → HV))) := (if ((S 11 7).1 2) = 0 then some (.inr (1, S)) else (ob1 (F_X6_takeBack 0 S) fun S2 => some (.inl (((S2 11 7).1 2), S2))))
theorem c_X10_undo {w : WP} (hW : gW w) (hS : gS w) {Ω : OM}  {S : Nat → Nat → HV} (e : Ω.1 = S)  {v : Int32} {S' : Nat → Nat → HV} (hF : F_X10_undo S = some (.inl (v, S'))) {Ω' : OM} (e2 : (S', Ω.2) = Ω') : gM w 6 yX10_undo cX10_undo 1 (some .int) [.ref (wAd w (7, 11, 6, 0))] (cA w Ω) (some (.int v)) (cA w Ω') := by
  refine gM_of "HedgeMessages" rfl (by decide) (kR rfl) fun X C => ?_
  unfold F_X10_undo at hF
  subst e2
  show gV w X _ _ 0 [(0, .ref (wAd w (7, 11, 6, 0)))] []
  refine r_ct (ct' := cA w (S, Ω.2)) (by rw [← e]) ?_
  refine r_aload_n C (k := 0) rfl rfl dX10_undo_0 ?_
  refine og_7_4 C (hW.ok k7) wm2_163 dX10_undo_1 ?_
  refine ogN_8_2 C (hW.ok k8) (congrFun (congrFun (show (S, Ω.2).1 = S from rfl) 11) 7) wm1_219 dX10_undo_4 ?_
  refine r_if_ne C (tgt := 21) rfl dX10_undo_7 (fun hc => ?_) (fun hc => ?_)
  · rw [if_neg hc] at hF
    refine r_aload_n C (k := 0) rfl rfl dX10_undo_21 ?_
    refine og_7_4 C (hW.ok k7) wm2_163 dX10_undo_22 ?_
    refine r_aload_n C (k := 0) rfl rfl dX10_undo_25 ?_
    refine og_7_0 C (hW.ok k7) wm2_159 dX10_undo_26 ?_
    obtain ⟨S2, hS2, hF⟩ := ob1_e hF
    refine r_callV C (d' := 5) [.ref (wAd w (0, 0, 0, 0))] (c_X6_takeBack hW (show (S, Ω.2).1 = S from rfl) 0 (by decide) hS2 rfl) myX6_takeBack wm4_217 ⟨_, _, _, _, (hW.ok k8), rfl, rfl, rfl, rfl⟩ rfl (kR rfl) (by decide) (kR rfl) rfl dX10_undo_29 ?_
    refine r_aload_n C (k := 0) rfl rfl dX10_undo_32 ?_
    refine og_7_4 C (hW.ok k7) wm2_163 dX10_undo_33 ?_
    refine ogN_8_2 C (hW.ok k8) (congrFun (congrFun (show (S2, Ω.2).1 = S2 from rfl) 11) 7) wm1_219 dX10_undo_36 ?_
    cases hF
    exact r_ireturn C dX10_undo_39
  · rw [if_pos hc] at hF
    cases hF
theorem x_X10_undo {w : WP} (hW : gW w) (hS : gS w) (hZ : gZ w) {Ω : OM}  {S : Nat → Nat → HV} (e : Ω.1 = S)  {k9 : Nat} {S' : Nat → Nat → HV} (hF : F_X10_undo S = some (.inr (k9, S'))) {Ω' : OM} (e2 : (S', Ω.2) = Ω') : gMx w 6 yX10_undo cX10_undo 1 (some .int) [.ref (wAd w (7, 11, 6, 0))] (cA w Ω) (xN k9) (cA w Ω') := by
  refine gMx_of "HedgeMessages" rfl (by decide) (kR rfl) fun X C hT9 => ?_
  unfold F_X10_undo at hF
  subst e2
  show gU w X _ _ 0 [(0, .ref (wAd w (7, 11, 6, 0)))] []
  refine r_ct (ct' := cA w (S, Ω.2)) (by rw [← e]) ?_
  refine r_aload_n C (k := 0) rfl rfl dX10_undo_0 ?_
  refine og_7_4 C (hW.ok k7) wm2_163 dX10_undo_1 ?_
  refine ogN_8_2 C (hW.ok k8) (congrFun (congrFun (show (S, Ω.2).1 = S from rfl) 11) 7) wm1_219 dX10_undo_4 ?_
  refine r_if_ne C (tgt := 21) rfl dX10_undo_7 (fun hc => ?_) (fun hc => ?_)
  · rw [if_neg hc] at hF
    refine r_aload_n C (k := 0) rfl rfl dX10_undo_21 ?_
    refine og_7_4 C (hW.ok k7) wm2_163 dX10_undo_22 ?_
    refine r_aload_n C (k := 0) rfl rfl dX10_undo_25 ?_
    refine og_7_0 C (hW.ok k7) wm2_159 dX10_undo_26 ?_
    obtain ⟨S2, hS2, hF⟩ := ob1_e hF
    refine r_callV C (d' := 5) [.ref (wAd w (0, 0, 0, 0))] (c_X6_takeBack hW (show (S, Ω.2).1 = S from rfl) 0 (by decide) hS2 rfl) myX6_takeBack wm4_217 ⟨_, _, _, _, (hW.ok k8), rfl, rfl, rfl, rfl⟩ rfl (kR rfl) (by decide) (kR rfl) rfl dX10_undo_29 ?_
    refine r_aload_n C (k := 0) rfl rfl dX10_undo_32 ?_
    refine og_7_4 C (hW.ok k7) wm2_163 dX10_undo_33 ?_
    refine ogN_8_2 C (hW.ok k8) (congrFun (congrFun (show (S2, Ω.2).1 = S2 from rfl) 11) 7) wm1_219 dX10_undo_36 ?_
    cases hF
  · rw [if_pos hc] at hF
    cases hF
    exact x_throwSW C hZ hT9 (by decide +kernel) xK1 rfl xI1 xO1 ((hS.s C).imp fun _ _ _ h => h.2.2.1 25 (by decide)) (kR rfl) (kR rfl) dX10_undo_10 dX10_undo_13 dX10_undo_14 dX10_undo_17 dX10_undo_20
theorem dX10_restore_0 : decode cX10_restore 0 = .ok (.aload_n 0, 1) := by decide +kernel
theorem dX10_restore_1 : decode cX10_restore 1 = .ok (.getfield 373, 3) := by decide +kernel
theorem dX10_restore_4 : decode cX10_restore 4 = .ok (.ifCond .ne 14, 3) := by decide +kernel
theorem dX10_restore_7 : decode cX10_restore 7 = .ok (.new 78, 3) := by decide +kernel
theorem dX10_restore_10 : decode cX10_restore 10 = .ok (.dup, 1) := by decide +kernel
theorem dX10_restore_11 : decode cX10_restore 11 = .ok (.ldc_w 377, 3) := by decide +kernel
theorem dX10_restore_14 : decode cX10_restore 14 = .ok (.invokespecial 82, 3) := by decide +kernel
theorem dX10_restore_17 : decode cX10_restore 17 = .ok (.athrow, 1) := by decide +kernel
theorem dX10_restore_18 : decode cX10_restore 18 = .ok (.aload_n 0, 1) := by decide +kernel
theorem dX10_restore_19 : decode cX10_restore 19 = .ok (.getfield 10, 3) := by decide +kernel
theorem dX10_restore_22 : decode cX10_restore 22 = .ok (.aload_n 0, 1) := by decide +kernel
theorem dX10_restore_23 : decode cX10_restore 23 = .ok (.getfield 19, 3) := by decide +kernel
theorem dX10_restore_26 : decode cX10_restore 26 = .ok (.invokevirtual 101, 3) := by decide +kernel
theorem dX10_restore_29 : decode cX10_restore 29 = .ok (.aload_n 0, 1) := by decide +kernel
theorem dX10_restore_30 : decode cX10_restore 30 = .ok (.getfield 25, 3) := by decide +kernel
theorem dX10_restore_33 : decode cX10_restore 33 = .ok (.invokevirtual 105, 3) := by decide +kernel
theorem dX10_restore_36 : decode cX10_restore 36 = .ok (.aload_n 0, 1) := by decide +kernel
theorem dX10_restore_37 : decode cX10_restore 37 = .ok (.getfield 10, 3) := by decide +kernel
theorem dX10_restore_40 : decode cX10_restore 40 = .ok (.getfield 132, 3) := by decide +kernel
theorem dX10_restore_43 : decode cX10_restore 43 = .ok (.ireturn, 1) := by decide +kernel
def F_X10_restore (S : Nat → Nat → HV) : Option ((Int32 × (Nat → Nat → HV)) ⊕ (Nat × (Nat → Nat → HV))) := (if ((S 11 6).1 3) = 0 then some (.inr (1, S)) else (lt (F_X5_copyFrom 0 2 S) fun S2 => (lt (F_X6_forget S2) fun S4 => some (.inl (((S4 0 0).1 6), S4)))))
theorem c_X10_restore {w : WP} (hW : gW w) (hS : gS w) {Ω : OM}  {S : Nat → Nat → HV} (e : Ω.1 = S)  {v : Int32} {S' : Nat → Nat → HV} (hF : F_X10_restore S = some (.inl (v, S'))) {Ω' : OM} (e2 : (S', Ω.2) = Ω') : gM w 6 yX10_restore cX10_restore 1 (some .int) [.ref (wAd w (7, 11, 6, 0))] (cA w Ω) (some (.int v)) (cA w Ω') := by
  refine gM_of "HedgeMessages" rfl (by decide) (kR rfl) fun X C => ?_
  unfold F_X10_restore at hF
  subst e2
  show gV w X _ _ 0 [(0, .ref (wAd w (7, 11, 6, 0)))] []
  refine r_ct (ct' := cA w (S, Ω.2)) (by rw [← e]) ?_
  refine r_aload_n C (k := 0) rfl rfl dX10_restore_0 ?_
  refine og_7_3 C (hW.ok k7) (congrFun (congrFun (show (S, Ω.2).1 = S from rfl) 11) 6) wm2_162 dX10_restore_1 ?_
  refine r_if_ne C (tgt := 18) rfl dX10_restore_4 (fun hc => ?_) (fun hc => ?_)
  · rw [if_neg hc] at hF
    refine r_aload_n C (k := 0) rfl rfl dX10_restore_18 ?_
    refine og_7_0 C (hW.ok k7) wm2_159 dX10_restore_19 ?_
    refine r_aload_n C (k := 0) rfl rfl dX10_restore_22 ?_
    refine og_7_2 C (hW.ok k7) wm2_161 dX10_restore_23 ?_
    obtain ⟨S2, hS2, hF⟩ := lt_e hF
    refine r_callV C (d' := 4) [.ref (wAd w (0, 2, 0, 0))] (c_X5_copyFrom hW (by decide) (by decide) (show (S, Ω.2).1 = S from rfl) hS2 rfl) myX5_copyFrom wm2_195 ⟨_, _, _, _, (hW.ok (k0 (by decide))), rfl, rfl, rfl, rfl⟩ rfl (kR rfl) (by decide) (kR rfl) rfl dX10_restore_26 ?_
    refine r_aload_n C (k := 0) rfl rfl dX10_restore_29 ?_
    refine og_7_4 C (hW.ok k7) wm2_163 dX10_restore_30 ?_
    obtain ⟨S4, hS4, hF⟩ := lt_e hF
    refine r_callV C (d' := 0) [] (c_X6_forget hW (show (S2, Ω.2).1 = S2 from rfl) hS4 rfl) myX6_forget wm3_45 ⟨_, _, _, _, (hW.ok k8), rfl, rfl, rfl, rfl⟩ rfl (kR rfl) (by decide) (kR rfl) rfl dX10_restore_33 ?_
    refine r_aload_n C (k := 0) rfl rfl dX10_restore_36 ?_
    refine og_7_0 C (hW.ok k7) wm2_159 dX10_restore_37 ?_
    refine ogN_0_6 C (hW.ok (k0 (by decide))) (congrFun (congrFun (show (S4, Ω.2).1 = S4 from rfl) 0) 0) wm1_143 dX10_restore_40 ?_
    cases hF
    exact r_ireturn C dX10_restore_43
  · rw [if_pos hc] at hF
    cases hF
theorem x_X10_restore {w : WP} (hW : gW w) (hS : gS w) (hZ : gZ w) {Ω : OM}  {S : Nat → Nat → HV} (e : Ω.1 = S)  {k9 : Nat} {S' : Nat → Nat → HV} (hF : F_X10_restore S = some (.inr (k9, S'))) {Ω' : OM} (e2 : (S', Ω.2) = Ω') : gMx w 6 yX10_restore cX10_restore 1 (some .int) [.ref (wAd w (7, 11, 6, 0))] (cA w Ω) (xN k9) (cA w Ω') := by
  refine gMx_of "HedgeMessages" rfl (by decide) (kR rfl) fun X C hT9 => ?_
  unfold F_X10_restore at hF
  subst e2
  show gU w X _ _ 0 [(0, .ref (wAd w (7, 11, 6, 0)))] []
  refine r_ct (ct' := cA w (S, Ω.2)) (by rw [← e]) ?_
  refine r_aload_n C (k := 0) rfl rfl dX10_restore_0 ?_
  refine og_7_3 C (hW.ok k7) (congrFun (congrFun (show (S, Ω.2).1 = S from rfl) 11) 6) wm2_162 dX10_restore_1 ?_
  refine r_if_ne C (tgt := 18) rfl dX10_restore_4 (fun hc => ?_) (fun hc => ?_)
  · rw [if_neg hc] at hF
    refine r_aload_n C (k := 0) rfl rfl dX10_restore_18 ?_
    refine og_7_0 C (hW.ok k7) wm2_159 dX10_restore_19 ?_
    refine r_aload_n C (k := 0) rfl rfl dX10_restore_22 ?_
    refine og_7_2 C (hW.ok k7) wm2_161 dX10_restore_23 ?_
    obtain ⟨S2, hS2, hF⟩ := lt_e hF
    refine r_callV C (d' := 4) [.ref (wAd w (0, 2, 0, 0))] (c_X5_copyFrom hW (by decide) (by decide) (show (S, Ω.2).1 = S from rfl) hS2 rfl) myX5_copyFrom wm2_195 ⟨_, _, _, _, (hW.ok (k0 (by decide))), rfl, rfl, rfl, rfl⟩ rfl (kR rfl) (by decide) (kR rfl) rfl dX10_restore_26 ?_
    refine r_aload_n C (k := 0) rfl rfl dX10_restore_29 ?_
    refine og_7_4 C (hW.ok k7) wm2_163 dX10_restore_30 ?_
    obtain ⟨S4, hS4, hF⟩ := lt_e hF
    refine r_callV C (d' := 0) [] (c_X6_forget hW (show (S2, Ω.2).1 = S2 from rfl) hS4 rfl) myX6_forget wm3_45 ⟨_, _, _, _, (hW.ok k8), rfl, rfl, rfl, rfl⟩ rfl (kR rfl) (by decide) (kR rfl) rfl dX10_restore_33 ?_
    refine r_aload_n C (k := 0) rfl rfl dX10_restore_36 ?_
    refine og_7_0 C (hW.ok k7) wm2_159 dX10_restore_37 ?_
    refine ogN_0_6 C (hW.ok (k0 (by decide))) (congrFun (congrFun (show (S4, Ω.2).1 = S4 from rfl) 0) 0) wm1_143 dX10_restore_40 ?_
    cases hF
  · rw [if_pos hc] at hF
    cases hF
    exact x_throwSW C hZ hT9 (by decide +kernel) xK1 rfl xI1 xO1 ((hS.s C).imp fun _ _ _ h => h.2.2.1 3 (by decide)) (kR rfl) (kR rfl) dX10_restore_7 dX10_restore_10 dX10_restore_11 dX10_restore_14 dX10_restore_17
