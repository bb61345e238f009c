/-! ===== 51.face: printed by wip/p66/genface.py ===== -/
theorem dX10_deliveredAfter_0 : decode cX10_deliveredAfter 0 = .ok (.iload_n 1, 1) := by decide +kernel
theorem dX10_deliveredAfter_1 : decode cX10_deliveredAfter 1 = .ok (.invokestatic 179, 3) := by decide +kernel
theorem dX10_deliveredAfter_4 : decode cX10_deliveredAfter 4 = .ok (.iload_n 2, 1) := by decide +kernel
theorem dX10_deliveredAfter_5 : decode cX10_deliveredAfter 5 = .ok (.iconst 0, 1) := by decide +kernel
theorem dX10_deliveredAfter_6 : decode cX10_deliveredAfter 6 = .ok (.invokestatic 247, 3) := by decide +kernel
theorem dX10_deliveredAfter_9 : decode cX10_deliveredAfter 9 = .ok (.aload_n 0, 1) := by decide +kernel
theorem dX10_deliveredAfter_10 : decode cX10_deliveredAfter 10 = .ok (.iload_n 2, 1) := by decide +kernel
theorem dX10_deliveredAfter_11 : decode cX10_deliveredAfter 11 = .ok (.invokevirtual 250, 3) := by decide +kernel
theorem dX10_deliveredAfter_14 : decode cX10_deliveredAfter 14 = .ok (.aload_n 0, 1) := by decide +kernel
theorem dX10_deliveredAfter_15 : decode cX10_deliveredAfter 15 = .ok (.getfield 16, 3) := by decide +kernel
theorem dX10_deliveredAfter_18 : decode cX10_deliveredAfter 18 = .ok (.iload_n 1, 1) := by decide +kernel
theorem dX10_deliveredAfter_19 : decode cX10_deliveredAfter 19 = .ok (.invokevirtual 182, 3) := by decide +kernel
theorem dX10_deliveredAfter_22 : decode cX10_deliveredAfter 22 = .ok (.getfield 253, 3) := by decide +kernel
theorem dX10_deliveredAfter_25 : decode cX10_deliveredAfter 25 = .ok (.aload_n 0, 1) := by decide +kernel
theorem dX10_deliveredAfter_26 : decode cX10_deliveredAfter 26 = .ok (.getfield 10, 3) := by decide +kernel
theorem dX10_deliveredAfter_29 : decode cX10_deliveredAfter 29 = .ok (.iload_n 1, 1) := by decide +kernel
theorem dX10_deliveredAfter_30 : decode cX10_deliveredAfter 30 = .ok (.invokevirtual 182, 3) := by decide +kernel
theorem dX10_deliveredAfter_33 : decode cX10_deliveredAfter 33 = .ok (.getfield 253, 3) := by decide +kernel
theorem dX10_deliveredAfter_36 : decode cX10_deliveredAfter 36 = .ok (.isub, 1) := by decide +kernel
theorem dX10_deliveredAfter_37 : decode cX10_deliveredAfter 37 = .ok (.ireturn, 1) := by decide +kernel
def F_X10_deliveredAfter (N : Nat) (a1 : Int32) (a2 : Int32) (S : Nat → Nat → HV) : Option ((Int32 × (Nat → Nat → HV)) ⊕ (Nat × (Nat → Nat → HV))) := (ox (F_X10_requireGardener a1) (fun k9 => some (.inr (k9, S))) fun u1 => (ox (F_X10_requireDays a2 0) (fun k9 => some (.inr (k9, S))) fun u3 => (ob1 (F_X10_foresee N a2 S) fun S6 => some (.inl ((((S6 1 (gsel a1)).1 7) - ((S6 0 (gsel a1)).1 7)), S6)))))
theorem c_X10_deliveredAfter {w : WP} (hW : gW w) (hS : gS w) {Ω : OM}  {S : Nat → Nat → HV} (e : Ω.1 = S) (N : Nat) (a1 : Int32) (a2 : Int32) {v : Int32} {S' : Nat → Nat → HV} (hF : F_X10_deliveredAfter N a1 a2 S = some (.inl (v, S'))) {Ω' : OM} (e2 : (S', Ω.2) = Ω') : gM w 7 yX10_deliveredAfter cX10_deliveredAfter 3 (some .int) [.ref (wAd w (7, 11, 6, 0)), .int a1, .int a2] (cA w Ω) (some (.int v)) (cA w Ω') := by
  refine gM_of "HedgeMessages" rfl (by decide) (kR rfl) fun X C => ?_
  unfold F_X10_deliveredAfter at hF
  subst e2
  show gV w X _ _ 0 [(0, .ref (wAd w (7, 11, 6, 0))), (1, .int a1), (2, .int a2)] []
  refine r_ct (ct' := cA w (S, Ω.2)) (by rw [← e]) ?_
  refine r_iload_n C (k := 1) rfl rfl dX10_deliveredAfter_0 ?_
  rcases ox_e hF with ⟨u1, hu1, hF⟩ | ⟨kx2, hkx2, hF⟩
  rotate_left
  · cases hF
  refine r_callS C (d' := 6) [.int a1] (c_X10_requireGardener hS a1 hu1) myX10_requireGardener wm4_84 rfl (kR rfl) (by decide) (kR rfl) rfl dX10_deliveredAfter_1 ?_
  refine r_iload_n C (k := 2) rfl rfl dX10_deliveredAfter_4 ?_
  refine r_iconst C (v := 0) rfl dX10_deliveredAfter_5 ?_
  rcases ox_e hF with ⟨u3, hu3, hF⟩ | ⟨kx4, hkx4, hF⟩
  rotate_left
  · cases hF
  refine r_callS C (d' := 6) [.int a2, .int 0] (c_X10_requireDays hS a2 0 hu3) myX10_requireDays wm4_133 rfl (kR rfl) (by decide) (kR rfl) rfl dX10_deliveredAfter_6 ?_
  refine r_aload_n C (k := 0) rfl rfl dX10_deliveredAfter_9 ?_
  refine r_iload_n C (k := 2) rfl rfl dX10_deliveredAfter_10 ?_
  obtain ⟨S6, hS6, hF⟩ := ob1_e hF
  refine r_callV C (d' := 6) [.int a2] (c_X10_foresee hW (show (S, Ω.2).1 = S from rfl) N a2 hS6 rfl) myX10_foresee wm5_205 ⟨_, _, _, _, (hW.ok k7), rfl, rfl, rfl, rfl⟩ rfl (kR rfl) (by decide) (kR rfl) rfl dX10_deliveredAfter_11 ?_
  refine r_aload_n C (k := 0) rfl rfl dX10_deliveredAfter_14 ?_
  refine og_7_1 C (hW.ok k7) wm2_160 dX10_deliveredAfter_15 ?_
  refine r_iload_n C (k := 1) rfl rfl dX10_deliveredAfter_18 ?_
  refine r_callV C (d' := 0) [.int a1] (c_X5_gardener hW (by decide) a1) myX5_gardener wm4_96 ⟨_, _, _, _, (hW.ok (k0 (by decide))), rfl, rfl, rfl, rfl⟩ rfl (kR rfl) (by decide) (kR rfl) rfl dX10_deliveredAfter_19 ?_
  refine ogN_1_7 C (hW.ok (k1 (by decide) gsel_12)) (congrFun (congrFun (show (S6, Ω.2).1 = S6 from rfl) 1) (gsel a1)) wm1_78 dX10_deliveredAfter_22 ?_
  refine r_aload_n C (k := 0) rfl rfl dX10_deliveredAfter_25 ?_
  refine og_7_0 C (hW.ok k7) wm2_159 dX10_deliveredAfter_26 ?_
  refine r_iload_n C (k := 1) rfl rfl dX10_deliveredAfter_29 ?_
  refine r_callV C (d' := 0) [.int a1] (c_X5_gardener hW (by decide) a1) myX5_gardener wm4_96 ⟨_, _, _, _, (hW.ok (k0 (by decide))), rfl, rfl, rfl, rfl⟩ rfl (kR rfl) (by decide) (kR rfl) rfl dX10_deliveredAfter_30 ?_
  refine ogN_1_7 C (hW.ok (k1 (by decide) gsel_12)) (congrFun (congrFun (show (S6, Ω.2).1 = S6 from rfl) 0) (gsel a1)) wm1_78 dX10_deliveredAfter_33 ?_
  refine r_isub C dX10_deliveredAfter_36 ?_
  cases hF
  exact r_ireturn C dX10_deliveredAfter_37
theorem x_X10_deliveredAfter {w : WP} (hW : gW w) (hS : gS w) (hZ : gZ w) {Ω : OM}  {S : Nat → Nat → HV} (e : Ω.1 = S) (N : Nat) (a1 : Int32) (a2 : Int32) {k9 : Nat} {S' : Nat → Nat → HV} (hF : F_X10_deliveredAfter N a1 a2 S = some (.inr (k9, S'))) {Ω' : OM} (e2 : (S', Ω.2) = Ω') : gMx w 7 yX10_deliveredAfter cX10_deliveredAfter 3 (some .int) [.ref (wAd w (7, 11, 6, 0)), .int a1, .int a2] (cA w Ω) (xN k9) (cA w Ω') := by
  refine gMx_of "HedgeMessages" rfl (by decide) (kR rfl) fun X C hT9 => ?_
  unfold F_X10_deliveredAfter at hF
  subst e2
  show gU w X _ _ 0 [(0, .ref (wAd w (7, 11, 6, 0))), (1, .int a1), (2, .int a2)] []
  refine r_ct (ct' := cA w (S, Ω.2)) (by rw [← e]) ?_
  refine r_iload_n C (k := 1) rfl rfl dX10_deliveredAfter_0 ?_
  rcases ox_e hF with ⟨u1, hu1, hF⟩ | ⟨kx2, hkx2, hF⟩
  rotate_left
  · cases hF
    exact x_callS C hT9 (d' := 6) [.int a1] (x_X10_requireGardener hS hZ a1 hkx2) myX10_requireGardener wm4_84 rfl (kR rfl) (by decide) (kR rfl) rfl dX10_deliveredAfter_1
  refine r_callS C (d' := 6) [.int a1] (c_X10_requireGardener hS a1 hu1) myX10_requireGardener wm4_84 rfl (kR rfl) (by decide) (kR rfl) rfl dX10_deliveredAfter_1 ?_
  refine r_iload_n C (k := 2) rfl rfl dX10_deliveredAfter_4 ?_
  refine r_iconst C (v := 0) rfl dX10_deliveredAfter_5 ?_
  rcases ox_e hF with ⟨u3, hu3, hF⟩ | ⟨kx4, hkx4, hF⟩
  rotate_left
  · cases hF
    exact x_callS C hT9 (d' := 6) [.int a2, .int 0] (x_X10_requireDays hS hZ a2 0 hkx4) myX10_requireDays wm4_133 rfl (kR rfl) (by decide) (kR rfl) rfl dX10_deliveredAfter_6
  refine r_callS C (d' := 6) [.int a2, .int 0] (c_X10_requireDays hS a2 0 hu3) myX10_requireDays wm4_133 rfl (kR rfl) (by decide) (kR rfl) rfl dX10_deliveredAfter_6 ?_
  refine r_aload_n C (k := 0) rfl rfl dX10_deliveredAfter_9 ?_
  refine r_iload_n C (k := 2) rfl rfl dX10_deliveredAfter_10 ?_
  obtain ⟨S6, hS6, hF⟩ := ob1_e hF
  refine r_callV C (d' := 6) [.int a2] (c_X10_foresee hW (show (S, Ω.2).1 = S from rfl) N a2 hS6 rfl) myX10_foresee wm5_205 ⟨_, _, _, _, (hW.ok k7), rfl, rfl, rfl, rfl⟩ rfl (kR rfl) (by decide) (kR rfl) rfl dX10_deliveredAfter_11 ?_
  refine r_aload_n C (k := 0) rfl rfl dX10_deliveredAfter_14 ?_
  refine og_7_1 C (hW.ok k7) wm2_160 dX10_deliveredAfter_15 ?_
  refine r_iload_n C (k := 1) rfl rfl dX10_deliveredAfter_18 ?_
  refine r_callV C (d' := 0) [.int a1] (c_X5_gardener hW (by decide) a1) myX5_gardener wm4_96 ⟨_, _, _, _, (hW.ok (k0 (by decide))), rfl, rfl, rfl, rfl⟩ rfl (kR rfl) (by decide) (kR rfl) rfl dX10_deliveredAfter_19 ?_
  refine ogN_1_7 C (hW.ok (k1 (by decide) gsel_12)) (congrFun (congrFun (show (S6, Ω.2).1 = S6 from rfl) 1) (gsel a1)) wm1_78 dX10_deliveredAfter_22 ?_
  refine r_aload_n C (k := 0) rfl rfl dX10_deliveredAfter_25 ?_
  refine og_7_0 C (hW.ok k7) wm2_159 dX10_deliveredAfter_26 ?_
  refine r_iload_n C (k := 1) rfl rfl dX10_deliveredAfter_29 ?_
  refine r_callV C (d' := 0) [.int a1] (c_X5_gardener hW (by decide) a1) myX5_gardener wm4_96 ⟨_, _, _, _, (hW.ok (k0 (by decide))), rfl, rfl, rfl, rfl⟩ rfl (kR rfl) (by decide) (kR rfl) rfl dX10_deliveredAfter_30 ?_
  refine ogN_1_7 C (hW.ok (k1 (by decide) gsel_12)) (congrFun (congrFun (show (S6, Ω.2).1 = S6 from rfl) 0) (gsel a1)) wm1_78 dX10_deliveredAfter_33 ?_
  refine r_isub C dX10_deliveredAfter_36 ?_
  cases hF
theorem dX10_pendingAfter_0 : decode cX10_pendingAfter 0 = .ok (.iload_n 1, 1) := by decide +kernel
theorem dX10_pendingAfter_1 : decode cX10_pendingAfter 1 = .ok (.invokestatic 179, 3) := by decide +kernel
theorem dX10_pendingAfter_4 : decode cX10_pendingAfter 4 = .ok (.iload_n 2, 1) := by decide +kernel
theorem dX10_pendingAfter_5 : decode cX10_pendingAfter 5 = .ok (.iconst 0, 1) := by decide +kernel
theorem dX10_pendingAfter_6 : decode cX10_pendingAfter 6 = .ok (.invokestatic 247, 3) := by decide +kernel
theorem dX10_pendingAfter_9 : decode cX10_pendingAfter 9 = .ok (.aload_n 0, 1) := by decide +kernel
theorem dX10_pendingAfter_10 : decode cX10_pendingAfter 10 = .ok (.iload_n 2, 1) := by decide +kernel
theorem dX10_pendingAfter_11 : decode cX10_pendingAfter 11 = .ok (.invokevirtual 250, 3) := by decide +kernel
theorem dX10_pendingAfter_14 : decode cX10_pendingAfter 14 = .ok (.aload_n 0, 1) := by decide +kernel
theorem dX10_pendingAfter_15 : decode cX10_pendingAfter 15 = .ok (.getfield 16, 3) := by decide +kernel
theorem dX10_pendingAfter_18 : decode cX10_pendingAfter 18 = .ok (.iload_n 1, 1) := by decide +kernel
theorem dX10_pendingAfter_19 : decode cX10_pendingAfter 19 = .ok (.invokevirtual 182, 3) := by decide +kernel
theorem dX10_pendingAfter_22 : decode cX10_pendingAfter 22 = .ok (.getfield 186, 3) := by decide +kernel
theorem dX10_pendingAfter_25 : decode cX10_pendingAfter 25 = .ok (.ireturn, 1) := by decide +kernel
def F_X10_pendingAfter (N : Nat) (a1 : Int32) (a2 : Int32) (S : Nat → Nat → HV) : Option ((Int32 × (Nat → Nat → HV)) ⊕ (Nat × (Nat → Nat → HV))) := (ox (F_X10_requireGardener a1) (fun k9 => some (.inr (k9, S))) fun u1 => (ox (F_X10_requireDays a2 0) (fun k9 => some (.inr (k9, S))) fun u3 => (ob1 (F_X10_foresee N a2 S) fun S6 => some (.inl (((S6 1 (gsel a1)).1 2), S6)))))
theorem c_X10_pendingAfter {w : WP} (hW : gW w) (hS : gS w) {Ω : OM}  {S : Nat → Nat → HV} (e : Ω.1 = S) (N : Nat) (a1 : Int32) (a2 : Int32) {v : Int32} {S' : Nat → Nat → HV} (hF : F_X10_pendingAfter N a1 a2 S = some (.inl (v, S'))) {Ω' : OM} (e2 : (S', Ω.2) = Ω') : gM w 7 yX10_pendingAfter cX10_pendingAfter 3 (some .int) [.ref (wAd w (7, 11, 6, 0)), .int a1, .int a2] (cA w Ω) (some (.int v)) (cA w Ω') := by
  refine gM_of "HedgeMessages" rfl (by decide) (kR rfl) fun X C => ?_
  unfold F_X10_pendingAfter at hF
  subst e2
  show gV w X _ _ 0 [(0, .ref (wAd w (7, 11, 6, 0))), (1, .int a1), (2, .int a2)] []
  refine r_ct (ct' := cA w (S, Ω.2)) (by rw [← e]) ?_
  refine r_iload_n C (k := 1) rfl rfl dX10_pendingAfter_0 ?_
  rcases ox_e hF with ⟨u1, hu1, hF⟩ | ⟨kx2, hkx2, hF⟩
  rotate_left
  · cases hF
  refine r_callS C (d' := 6) [.int a1] (c_X10_requireGardener hS a1 hu1) myX10_requireGardener wm4_84 rfl (kR rfl) (by decide) (kR rfl) rfl dX10_pendingAfter_1 ?_
  refine r_iload_n C (k := 2) rfl rfl dX10_pendingAfter_4 ?_
  refine r_iconst C (v := 0) rfl dX10_pendingAfter_5 ?_
  rcases ox_e hF with ⟨u3, hu3, hF⟩ | ⟨kx4, hkx4, hF⟩
  rotate_left
  · cases hF
  refine r_callS C (d' := 6) [.int a2, .int 0] (c_X10_requireDays hS a2 0 hu3) myX10_requireDays wm4_133 rfl (kR rfl) (by decide) (kR rfl) rfl dX10_pendingAfter_6 ?_
  refine r_aload_n C (k := 0) rfl rfl dX10_pendingAfter_9 ?_
  refine r_iload_n C (k := 2) rfl rfl dX10_pendingAfter_10 ?_
  obtain ⟨S6, hS6, hF⟩ := ob1_e hF
  refine r_callV C (d' := 6) [.int a2] (c_X10_foresee hW (show (S, Ω.2).1 = S from rfl) N a2 hS6 rfl) myX10_foresee wm5_205 ⟨_, _, _, _, (hW.ok k7), rfl, rfl, rfl, rfl⟩ rfl (kR rfl) (by decide) (kR rfl) rfl dX10_pendingAfter_11 ?_
  refine r_aload_n C (k := 0) rfl rfl dX10_pendingAfter_14 ?_
  refine og_7_1 C (hW.ok k7) wm2_160 dX10_pendingAfter_15 ?_
  refine r_iload_n C (k := 1) rfl rfl dX10_pendingAfter_18 ?_
  refine r_callV C (d' := 0) [.int a1] (c_X5_gardener hW (by decide) a1) myX5_gardener wm4_96 ⟨_, _, _, _, (hW.ok (k0 (by decide))), rfl, rfl, rfl, rfl⟩ rfl (kR rfl) (by decide) (kR rfl) rfl dX10_pendingAfter_19 ?_
  refine ogN_1_2 C (hW.ok (k1 (by decide) gsel_12)) (congrFun (congrFun (show (S6, Ω.2).1 = S6 from rfl) 1) (gsel a1)) wm1_65 dX10_pendingAfter_22 ?_
  cases hF
  exact r_ireturn C dX10_pendingAfter_25
theorem x_X10_pendingAfter {w : WP} (hW : gW w) (hS : gS w) (hZ : gZ w) {Ω : OM}  {S : Nat → Nat → HV} (e : Ω.1 = S) (N : Nat) (a1 : Int32) (a2 : Int32) {k9 : Nat} {S' : Nat → Nat → HV} (hF : F_X10_pendingAfter N a1 a2 S = some (.inr (k9, S'))) {Ω' : OM} (e2 : (S', Ω.2) = Ω') : gMx w 7 yX10_pendingAfter cX10_pendingAfter 3 (some .int) [.ref (wAd w (7, 11, 6, 0)), .int a1, .int a2] (cA w Ω) (xN k9) (cA w Ω') := by
  refine gMx_of "HedgeMessages" rfl (by decide) (kR rfl) fun X C hT9 => ?_
  unfold F_X10_pendingAfter at hF
  subst e2
  show gU w X _ _ 0 [(0, .ref (wAd w (7, 11, 6, 0))), (1, .int a1), (2, .int a2)] []
  refine r_ct (ct' := cA w (S, Ω.2)) (by rw [← e]) ?_
  refine r_iload_n C (k := 1) rfl rfl dX10_pendingAfter_0 ?_
  rcases ox_e hF with ⟨u1, hu1, hF⟩ | ⟨kx2, hkx2, hF⟩
  rotate_left
  · cases hF
    exact x_callS C hT9 (d' := 6) [.int a1] (x_X10_requireGardener hS hZ a1 hkx2) myX10_requireGardener wm4_84 rfl (kR rfl) (by decide) (kR rfl) rfl dX10_pendingAfter_1
  refine r_callS C (d' := 6) [.int a1] (c_X10_requireGardener hS a1 hu1) myX10_requireGardener wm4_84 rfl (kR rfl) (by decide) (kR rfl) rfl dX10_pendingAfter_1 ?_
  refine r_iload_n C (k := 2) rfl rfl dX10_pendingAfter_4 ?_
  refine r_iconst C (v := 0) rfl dX10_pendingAfter_5 ?_
  rcases ox_e hF with ⟨u3, hu3, hF⟩ | ⟨kx4, hkx4, hF⟩
  rotate_left
  · cases hF
    exact x_callS C hT9 (d' := 6) [.int a2, .int 0] (x_X10_requireDays hS hZ a2 0 hkx4) myX10_requireDays wm4_133 rfl (kR rfl) (by decide) (kR rfl) rfl dX10_pendingAfter_6
  refine r_callS C (d' := 6) [.int a2, .int 0] (c_X10_requireDays hS a2 0 hu3) myX10_requireDays wm4_133 rfl (kR rfl) (by decide) (kR rfl) rfl dX10_pendingAfter_6 ?_
  refine r_aload_n C (k := 0) rfl rfl dX10_pendingAfter_9 ?_
  refine r_iload_n C (k := 2) rfl rfl dX10_pendingAfter_10 ?_
  obtain ⟨S6, hS6, hF⟩ := ob1_e hF
  refine r_callV C (d' := 6) [.int a2] (c_X10_foresee hW (show (S, Ω.2).1 = S from rfl) N a2 hS6 rfl) myX10_foresee wm5_205 ⟨_, _, _, _, (hW.ok k7), rfl, rfl, rfl, rfl⟩ rfl (kR rfl) (by decide) (kR rfl) rfl dX10_pendingAfter_11 ?_
  refine r_aload_n C (k := 0) rfl rfl dX10_pendingAfter_14 ?_
  refine og_7_1 C (hW.ok k7) wm2_160 dX10_pendingAfter_15 ?_
  refine r_iload_n C (k := 1) rfl rfl dX10_pendingAfter_18 ?_
  refine r_callV C (d' := 0) [.int a1] (c_X5_gardener hW (by decide) a1) myX5_gardener wm4_96 ⟨_, _, _, _, (hW.ok (k0 (by decide))), rfl, rfl, rfl, rfl⟩ rfl (kR rfl) (by decide) (kR rfl) rfl dX10_pendingAfter_19 ?_
  refine ogN_1_2 C (hW.ok (k1 (by decide) gsel_12)) (congrFun (congrFun (show (S6, Ω.2).1 = S6 from rfl) 1) (gsel a1)) wm1_65 dX10_pendingAfter_22 ?_
  cases hF
theorem dX10_leastWorkLimit_0 : decode cX10_leastWorkLimit 0 = .ok (.iload_n 1, 1) := by decide +kernel
theorem dX10_leastWorkLimit_1 : decode cX10_leastWorkLimit 1 = .ok (.invokestatic 179, 3) := by decide +kernel
theorem dX10_leastWorkLimit_4 : decode cX10_leastWorkLimit 4 = .ok (.iload_n 2, 1) := by decide +kernel
theorem dX10_leastWorkLimit_5 : decode cX10_leastWorkLimit 5 = .ok (.iconst 1, 1) := by decide +kernel
theorem dX10_leastWorkLimit_6 : decode cX10_leastWorkLimit 6 = .ok (.invokestatic 247, 3) := by decide +kernel
theorem dX10_leastWorkLimit_9 : decode cX10_leastWorkLimit 9 = .ok (.iconst 1, 1) := by decide +kernel
theorem dX10_leastWorkLimit_10 : decode cX10_leastWorkLimit 10 = .ok (.istore_n 3, 1) := by decide +kernel
theorem dX10_leastWorkLimit_11 : decode cX10_leastWorkLimit 11 = .ok (.iload_n 3, 1) := by decide +kernel
theorem dX10_leastWorkLimit_12 : decode cX10_leastWorkLimit 12 = .ok (.bipush 12, 2) := by decide +kernel
theorem dX10_leastWorkLimit_14 : decode cX10_leastWorkLimit 14 = .ok (.if_icmp .gt 21, 3) := by decide +kernel
theorem dX10_leastWorkLimit_17 : decode cX10_leastWorkLimit 17 = .ok (.aload_n 0, 1) := by decide +kernel
theorem dX10_leastWorkLimit_18 : decode cX10_leastWorkLimit 18 = .ok (.iload_n 3, 1) := by decide +kernel
theorem dX10_leastWorkLimit_19 : decode cX10_leastWorkLimit 19 = .ok (.iload_n 1, 1) := by decide +kernel
theorem dX10_leastWorkLimit_20 : decode cX10_leastWorkLimit 20 = .ok (.iload_n 2, 1) := by decide +kernel
theorem dX10_leastWorkLimit_21 : decode cX10_leastWorkLimit 21 = .ok (.invokevirtual 259, 3) := by decide +kernel
theorem dX10_leastWorkLimit_24 : decode cX10_leastWorkLimit 24 = .ok (.ifCond .eq 5, 3) := by decide +kernel
theorem dX10_leastWorkLimit_27 : decode cX10_leastWorkLimit 27 = .ok (.iload_n 3, 1) := by decide +kernel
theorem dX10_leastWorkLimit_28 : decode cX10_leastWorkLimit 28 = .ok (.ireturn, 1) := by decide +kernel
theorem dX10_leastWorkLimit_29 : decode cX10_leastWorkLimit 29 = .ok (.iinc 3 1, 3) := by decide +kernel
theorem dX10_leastWorkLimit_32 : decode cX10_leastWorkLimit 32 = .ok (.goto (-21), 3) := by decide +kernel
theorem dX10_leastWorkLimit_35 : decode cX10_leastWorkLimit 35 = .ok (.iconst (-1), 1) := by decide +kernel
theorem dX10_leastWorkLimit_36 : decode cX10_leastWorkLimit 36 = .ok (.ireturn, 1) := by decide +kernel
def st_X10_leastWorkLimit_11 (N : Nat) (l1 : Int32) (l2 : Int32) (l3 : Int32) (S : Nat → Nat → HV) : Option ((Int32 × (Nat → Nat → HV)) ⊕ ((Int32 × (Nat → Nat → HV)) ⊕ (Nat × (Nat → Nat → HV)))) := (if 12 < l3 then some (.inr (.inl ((-1), S))) else (ob (F_X10_suffices N l3 l1 l2 S) fun v5 S6 => (if v5 = true then some (.inr (.inl (l3, S6))) else some (.inl ((l3 + 1), S6)))))
def F_X10_leastWorkLimit (N : Nat) (a1 : Int32) (a2 : Int32) (S : Nat → Nat → HV) : Option ((Int32 × (Nat → Nat → HV)) ⊕ (Nat × (Nat → Nat → HV))) := (ox (F_X10_requireGardener a1) (fun k9 => some (.inr (k9, S))) fun u1 => (ox (F_X10_requireDays a2 1) (fun k9 => some (.inr (k9, S))) fun u3 => (lpN N (fun z => st_X10_leastWorkLimit_11 N a1 a2 z.1 z.2) (1, S))))
theorem lp_X10_leastWorkLimit_11 {w : WP} (hW : gW w) (hS : gS w) {Ω : OM}   (l1 : Int32) (l2 : Int32) {N : Nat} {X : CX} (C : gC w X cX10_leastWorkLimit "HedgeMessages" (some .int) 7 4) {v : Int32} {S' : Nat → Nat → HV}  : ∀ (n : Nat) (l3 : Int32) (S : Nat → Nat → HV), lpN n (fun z : Int32 × (Nat → Nat → HV) => st_X10_leastWorkLimit_11 N l1 l2 z.1 z.2) (l3, S) = some (.inl (v, S')) → gV w X (some (.int v), cA w (S', Ω.2)) (cA w (S, Ω.2)) 11 [(0, .ref (wAd w (7, 11, 6, 0))), (1, .int l1), (2, .int l2), (3, .int l3)] [] := by
  intro n
  induction n with
  | zero => intro l3 S hL; exact lpN_0 hL
  | succ n ih =>
    intro l3 S hL
    obtain ⟨q9, hF, hL⟩ := lpN_e hL
    change st_X10_leastWorkLimit_11 N l1 l2 l3 S = some q9 at hF
    unfold st_X10_leastWorkLimit_11 at hF
    refine r_iload_n C (k := 3) rfl rfl dX10_leastWorkLimit_11 ?_
    refine r_bipush C (v := 12) rfl dX10_leastWorkLimit_12 ?_
    refine r_icmp_gt C (tgt := 35) rfl dX10_leastWorkLimit_14 (fun hc => ?_) (fun hc => ?_)
    · rw [if_pos hc] at hF
      refine r_iconst C (v := (-1)) (by decide) dX10_leastWorkLimit_35 ?_
      cases hF
      change some _ = some _ at hL
      cases hL
      exact r_ireturn C dX10_leastWorkLimit_36
    · rw [if_neg hc] at hF
      refine r_aload_n C (k := 0) rfl rfl dX10_leastWorkLimit_17 ?_
      refine r_iload_n C (k := 3) rfl rfl dX10_leastWorkLimit_18 ?_
      refine r_iload_n C (k := 1) rfl rfl dX10_leastWorkLimit_19 ?_
      refine r_iload_n C (k := 2) rfl rfl dX10_leastWorkLimit_20 ?_
      obtain ⟨v5, S6, hS6, hF⟩ := ob_e hF
      refine r_callV C (d' := 6) [.int l3, .int l1, .int l2] (c_X10_suffices hW (show (S, Ω.2).1 = S from rfl) N l3 l1 l2 hS6 rfl) myX10_suffices wm6_233 ⟨_, _, _, _, (hW.ok k7), rfl, rfl, rfl, rfl⟩ rfl (kR rfl) (by decide) (kR rfl) rfl dX10_leastWorkLimit_21 ?_
      refine r_if_eq C (tgt := 29) rfl dX10_leastWorkLimit_24 (fun hc => ?_) (fun hc => ?_)
      · rw [if_neg (b2i_f hc)] at hF
        refine r_iinc C (k := 3) (v := (l3 + 1)) (lo' := [(3, .int (l3 + 1)), (0, .ref (wAd w (7, 11, 6, 0))), (1, .int l1), (2, .int l2)]) rfl rfl (by decide) rfl dX10_leastWorkLimit_29 ?_
        refine r_goto C (tgt := 11) rfl dX10_leastWorkLimit_32 ?_
        cases hF
        change lpN n _ _ = some _ at hL
        refine r_lo [1, 2, 3, 0] (lo' := [(0, .ref (wAd w (7, 11, 6, 0))), (1, .int l1), (2, .int l2), (3, .int (l3 + 1))]) rfl ?_
        exact ih (l3 + 1) S6 hL
      · rw [if_pos (b2i_t hc)] at hF
        refine r_iload_n C (k := 3) rfl rfl dX10_leastWorkLimit_27 ?_
        cases hF
        change some _ = some _ at hL
        cases hL
        exact r_ireturn C dX10_leastWorkLimit_28
theorem c_X10_leastWorkLimit {w : WP} (hW : gW w) (hS : gS w) {Ω : OM}  {S : Nat → Nat → HV} (e : Ω.1 = S) (N : Nat) (a1 : Int32) (a2 : Int32) {v : Int32} {S' : Nat → Nat → HV} (hF : F_X10_leastWorkLimit N a1 a2 S = some (.inl (v, S'))) {Ω' : OM} (e2 : (S', Ω.2) = Ω') : gM w 7 yX10_leastWorkLimit cX10_leastWorkLimit 4 (some .int) [.ref (wAd w (7, 11, 6, 0)), .int a1, .int a2] (cA w Ω) (some (.int v)) (cA w Ω') := by
  refine gM_of "HedgeMessages" rfl (by decide) (kR rfl) fun X C => ?_
  unfold F_X10_leastWorkLimit at hF
  subst e2
  show gV w X _ _ 0 [(0, .ref (wAd w (7, 11, 6, 0))), (1, .int a1), (2, .int a2)] []
  refine r_ct (ct' := cA w (S, Ω.2)) (by rw [← e]) ?_
  refine r_iload_n C (k := 1) rfl rfl dX10_leastWorkLimit_0 ?_
  rcases ox_e hF with ⟨u1, hu1, hF⟩ | ⟨kx2, hkx2, hF⟩
  rotate_left
  · cases hF
  refine r_callS C (d' := 6) [.int a1] (c_X10_requireGardener hS a1 hu1) myX10_requireGardener wm4_84 rfl (kR rfl) (by decide) (kR rfl) rfl dX10_leastWorkLimit_1 ?_
  refine r_iload_n C (k := 2) rfl rfl dX10_leastWorkLimit_4 ?_
  refine r_iconst C (v := 1) rfl dX10_leastWorkLimit_5 ?_
  rcases ox_e hF with ⟨u3, hu3, hF⟩ | ⟨kx4, hkx4, hF⟩
  rotate_left
  · cases hF
  refine r_callS C (d' := 6) [.int a2, .int 1] (c_X10_requireDays hS a2 1 hu3) myX10_requireDays wm4_133 rfl (kR rfl) (by decide) (kR rfl) rfl dX10_leastWorkLimit_6 ?_
  refine r_iconst C (v := 1) rfl dX10_leastWorkLimit_9 ?_
  refine r_istore_n C (lo' := [(3, .int 1), (0, .ref (wAd w (7, 11, 6, 0))), (1, .int a1), (2, .int a2)]) rfl (by decide) rfl dX10_leastWorkLimit_10 ?_
  refine r_lo [1, 2, 3, 0] (lo' := [(0, .ref (wAd w (7, 11, 6, 0))), (1, .int a1), (2, .int a2), (3, .int 1)]) rfl ?_
  exact lp_X10_leastWorkLimit_11 hW hS a1 a2 C N 1 S hF
theorem lpx_X10_leastWorkLimit_11 {w : WP} (hW : gW w) (hS : gS w) {Ω : OM}   (l1 : Int32) (l2 : Int32) {N : Nat} {X : CX} (C : gC w X cX10_leastWorkLimit "HedgeMessages" (some .int) 7 4) (hZ : gZ w) (hT9 : gT X) {k9 : Nat} {S' : Nat → Nat → HV}  : ∀ (n : Nat) (l3 : Int32) (S : Nat → Nat → HV), lpN n (fun z : Int32 × (Nat → Nat → HV) => st_X10_leastWorkLimit_11 N l1 l2 z.1 z.2) (l3, S) = some (.inr (k9, S')) → gU w X (qX w X (xN k9, cA w (S', Ω.2))) (cA w (S, Ω.2)) 11 [(0, .ref (wAd w (7, 11, 6, 0))), (1, .int l1), (2, .int l2), (3, .int l3)] [] := by
  intro n
  induction n with
  | zero => intro l3 S hL; exact lpN_0 hL
  | succ n ih =>
    intro l3 S hL
    obtain ⟨q9, hF, hL⟩ := lpN_e hL
    change st_X10_leastWorkLimit_11 N l1 l2 l3 S = some q9 at hF
    unfold st_X10_leastWorkLimit_11 at hF
    refine r_iload_n C (k := 3) rfl rfl dX10_leastWorkLimit_11 ?_
    refine r_bipush C (v := 12) rfl dX10_leastWorkLimit_12 ?_
    refine r_icmp_gt C (tgt := 35) rfl dX10_leastWorkLimit_14 (fun hc => ?_) (fun hc => ?_)
    · rw [if_pos hc] at hF
      refine r_iconst C (v := (-1)) (by decide) dX10_leastWorkLimit_35 ?_
      cases hF
      change some _ = some _ at hL
      cases hL
    · rw [if_neg hc] at hF
      refine r_aload_n C (k := 0) rfl rfl dX10_leastWorkLimit_17 ?_
      refine r_iload_n C (k := 3) rfl rfl dX10_leastWorkLimit_18 ?_
      refine r_iload_n C (k := 1) rfl rfl dX10_leastWorkLimit_19 ?_
      refine r_iload_n C (k := 2) rfl rfl dX10_leastWorkLimit_20 ?_
      obtain ⟨v5, S6, hS6, hF⟩ := ob_e hF
      refine r_callV C (d' := 6) [.int l3, .int l1, .int l2] (c_X10_suffices hW (show (S, Ω.2).1 = S from rfl) N l3 l1 l2 hS6 rfl) myX10_suffices wm6_233 ⟨_, _, _, _, (hW.ok k7), rfl, rfl, rfl, rfl⟩ rfl (kR rfl) (by decide) (kR rfl) rfl dX10_leastWorkLimit_21 ?_
      refine r_if_eq C (tgt := 29) rfl dX10_leastWorkLimit_24 (fun hc => ?_) (fun hc => ?_)
      · rw [if_neg (b2i_f hc)] at hF
        refine r_iinc C (k := 3) (v := (l3 + 1)) (lo' := [(3, .int (l3 + 1)), (0, .ref (wAd w (7, 11, 6, 0))), (1, .int l1), (2, .int l2)]) rfl rfl (by decide) rfl dX10_leastWorkLimit_29 ?_
        refine r_goto C (tgt := 11) rfl dX10_leastWorkLimit_32 ?_
        cases hF
        change lpN n _ _ = some _ at hL
        refine r_lo [1, 2, 3, 0] (lo' := [(0, .ref (wAd w (7, 11, 6, 0))), (1, .int l1), (2, .int l2), (3, .int (l3 + 1))]) rfl ?_
        exact ih (l3 + 1) S6 hL
      · rw [if_pos (b2i_t hc)] at hF
        refine r_iload_n C (k := 3) rfl rfl dX10_leastWorkLimit_27 ?_
        cases hF
        change some _ = some _ at hL
        cases hL
theorem x_X10_leastWorkLimit {w : WP} (hW : gW w) (hS : gS w) (hZ : gZ w) {Ω : OM}  {S : Nat → Nat → HV} (e : Ω.1 = S) (N : Nat) (a1 : Int32) (a2 : Int32) {k9 : Nat} {S' : Nat → Nat → HV} (hF : F_X10_leastWorkLimit N a1 a2 S = some (.inr (k9, S'))) {Ω' : OM} (e2 : (S', Ω.2) = Ω') : gMx w 7 yX10_leastWorkLimit cX10_leastWorkLimit 4 (some .int) [.ref (wAd w (7, 11, 6, 0)), .int a1, .int a2] (cA w Ω) (xN k9) (cA w Ω') := by
  refine gMx_of "HedgeMessages" rfl (by decide) (kR rfl) fun X C hT9 => ?_
  unfold F_X10_leastWorkLimit at hF
  subst e2
  show gU w X _ _ 0 [(0, .ref (wAd w (7, 11, 6, 0))), (1, .int a1), (2, .int a2)] []
  refine r_ct (ct' := cA w (S, Ω.2)) (by rw [← e]) ?_
  refine r_iload_n C (k := 1) rfl rfl dX10_leastWorkLimit_0 ?_
  rcases ox_e hF with ⟨u1, hu1, hF⟩ | ⟨kx2, hkx2, hF⟩
  rotate_left
  · cases hF
    exact x_callS C hT9 (d' := 6) [.int a1] (x_X10_requireGardener hS hZ a1 hkx2) myX10_requireGardener wm4_84 rfl (kR rfl) (by decide) (kR rfl) rfl dX10_leastWorkLimit_1
  refine r_callS C (d' := 6) [.int a1] (c_X10_requireGardener hS a1 hu1) myX10_requireGardener wm4_84 rfl (kR rfl) (by decide) (kR rfl) rfl dX10_leastWorkLimit_1 ?_
  refine r_iload_n C (k := 2) rfl rfl dX10_leastWorkLimit_4 ?_
  refine r_iconst C (v := 1) rfl dX10_leastWorkLimit_5 ?_
  rcases ox_e hF with ⟨u3, hu3, hF⟩ | ⟨kx4, hkx4, hF⟩
  rotate_left
  · cases hF
    exact x_callS C hT9 (d' := 6) [.int a2, .int 1] (x_X10_requireDays hS hZ a2 1 hkx4) myX10_requireDays wm4_133 rfl (kR rfl) (by decide) (kR rfl) rfl dX10_leastWorkLimit_6
  refine r_callS C (d' := 6) [.int a2, .int 1] (c_X10_requireDays hS a2 1 hu3) myX10_requireDays wm4_133 rfl (kR rfl) (by decide) (kR rfl) rfl dX10_leastWorkLimit_6 ?_
  refine r_iconst C (v := 1) rfl dX10_leastWorkLimit_9 ?_
  refine r_istore_n C (lo' := [(3, .int 1), (0, .ref (wAd w (7, 11, 6, 0))), (1, .int a1), (2, .int a2)]) rfl (by decide) rfl dX10_leastWorkLimit_10 ?_
  refine r_lo [1, 2, 3, 0] (lo' := [(0, .ref (wAd w (7, 11, 6, 0))), (1, .int a1), (2, .int a2), (3, .int 1)]) rfl ?_
  exact lpx_X10_leastWorkLimit_11 hW hS a1 a2 C hZ hT9 N 1 S hF
theorem dX10_messagesQueued_0 : decode cX10_messagesQueued 0 = .ok (.iload_n 1, 1) := by decide +kernel
theorem dX10_messagesQueued_1 : decode cX10_messagesQueued 1 = .ok (.invokestatic 179, 3) := by decide +kernel
theorem dX10_messagesQueued_4 : decode cX10_messagesQueued 4 = .ok (.aload_n 0, 1) := by decide +kernel
theorem dX10_messagesQueued_5 : decode cX10_messagesQueued 5 = .ok (.getfield 10, 3) := by decide +kernel
theorem dX10_messagesQueued_8 : decode cX10_messagesQueued 8 = .ok (.iload_n 1, 1) := by decide +kernel
theorem dX10_messagesQueued_9 : decode cX10_messagesQueued 9 = .ok (.invokevirtual 182, 3) := by decide +kernel
theorem dX10_messagesQueued_12 : decode cX10_messagesQueued 12 = .ok (.getfield 263, 3) := by decide +kernel
theorem dX10_messagesQueued_15 : decode cX10_messagesQueued 15 = .ok (.ireturn, 1) := by decide +kernel
def F_X10_messagesQueued (a1 : Int32) (S : Nat → Nat → HV) : Option ((Int32) ⊕ Nat) := (ox (F_X10_requireGardener a1) (fun k9 => some (.inr k9)) fun u1 => some (.inl ((S 0 (gsel a1)).1 6)))
theorem c_X10_messagesQueued {w : WP} (hW : gW w) (hS : gS w) {Ω : OM}  {S : Nat → Nat → HV} (e : Ω.1 = S) (a1 : Int32) {v : Int32} (hF : F_X10_messagesQueued a1 S = some (.inl v)) : gM w 7 yX10_messagesQueued cX10_messagesQueued 2 (some .int) [.ref (wAd w (7, 11, 6, 0)), .int a1] (cA w Ω) (some (.int v)) (cA w Ω) := by
  refine gM_of "HedgeMessages" rfl (by decide) (kR rfl) fun X C => ?_
  unfold F_X10_messagesQueued at hF
  show gV w X _ _ 0 [(0, .ref (wAd w (7, 11, 6, 0))), (1, .int a1)] []
  refine r_iload_n C (k := 1) rfl rfl dX10_messagesQueued_0 ?_
  rcases ox_e hF with ⟨u1, hu1, hF⟩ | ⟨kx2, hkx2, hF⟩
  rotate_left
  · cases hF
  refine r_callS C (d' := 6) [.int a1] (c_X10_requireGardener hS a1 hu1) myX10_requireGardener wm4_84 rfl (kR rfl) (by decide) (kR rfl) rfl dX10_messagesQueued_1 ?_
  refine r_aload_n C (k := 0) rfl rfl dX10_messagesQueued_4 ?_
  refine og_7_0 C (hW.ok k7) wm2_159 dX10_messagesQueued_5 ?_
  refine r_iload_n C (k := 1) rfl rfl dX10_messagesQueued_8 ?_
  refine r_callV C (d' := 0) [.int a1] (c_X5_gardener hW (by decide) a1) myX5_gardener wm4_96 ⟨_, _, _, _, (hW.ok (k0 (by decide))), rfl, rfl, rfl, rfl⟩ rfl (kR rfl) (by decide) (kR rfl) rfl dX10_messagesQueued_9 ?_
  refine ogN_1_6 C (hW.ok (k1 (by decide) gsel_12)) (congrFun (congrFun e 0) (gsel a1)) wm1_76 dX10_messagesQueued_12 ?_
  cases hF
  exact r_ireturn C dX10_messagesQueued_15
theorem x_X10_messagesQueued {w : WP} (hW : gW w) (hS : gS w) (hZ : gZ w) {Ω : OM}  {S : Nat → Nat → HV} (e : Ω.1 = S) (a1 : Int32) {k9 : Nat} (hF : F_X10_messagesQueued a1 S = some (.inr k9)) : gMx w 7 yX10_messagesQueued cX10_messagesQueued 2 (some .int) [.ref (wAd w (7, 11, 6, 0)), .int a1] (cA w Ω) (xN k9) (cA w Ω) := by
  refine gMx_of "HedgeMessages" rfl (by decide) (kR rfl) fun X C hT9 => ?_
  unfold F_X10_messagesQueued at hF
  show gU w X _ _ 0 [(0, .ref (wAd w (7, 11, 6, 0))), (1, .int a1)] []
  refine r_iload_n C (k := 1) rfl rfl dX10_messagesQueued_0 ?_
  rcases ox_e hF with ⟨u1, hu1, hF⟩ | ⟨kx2, hkx2, hF⟩
  rotate_left
  · cases hF
    exact x_callS C hT9 (d' := 6) [.int a1] (x_X10_requireGardener hS hZ a1 hkx2) myX10_requireGardener wm4_84 rfl (kR rfl) (by decide) (kR rfl) rfl dX10_messagesQueued_1
  refine r_callS C (d' := 6) [.int a1] (c_X10_requireGardener hS a1 hu1) myX10_requireGardener wm4_84 rfl (kR rfl) (by decide) (kR rfl) rfl dX10_messagesQueued_1 ?_
  refine r_aload_n C (k := 0) rfl rfl dX10_messagesQueued_4 ?_
  refine og_7_0 C (hW.ok k7) wm2_159 dX10_messagesQueued_5 ?_
  refine r_iload_n C (k := 1) rfl rfl dX10_messagesQueued_8 ?_
  refine r_callV C (d' := 0) [.int a1] (c_X5_gardener hW (by decide) a1) myX5_gardener wm4_96 ⟨_, _, _, _, (hW.ok (k0 (by decide))), rfl, rfl, rfl, rfl⟩ rfl (kR rfl) (by decide) (kR rfl) rfl dX10_messagesQueued_9 ?_
  refine ogN_1_6 C (hW.ok (k1 (by decide) gsel_12)) (congrFun (congrFun e 0) (gsel a1)) wm1_76 dX10_messagesQueued_12 ?_
  cases hF
theorem dX10_messagesDelivered_0 : decode cX10_messagesDelivered 0 = .ok (.iload_n 1, 1) := by decide +kernel
theorem dX10_messagesDelivered_1 : decode cX10_messagesDelivered 1 = .ok (.invokestatic 179, 3) := by decide +kernel
theorem dX10_messagesDelivered_4 : decode cX10_messagesDelivered 4 = .ok (.aload_n 0, 1) := by decide +kernel
theorem dX10_messagesDelivered_5 : decode cX10_messagesDelivered 5 = .ok (.getfield 10, 3) := by decide +kernel
theorem dX10_messagesDelivered_8 : decode cX10_messagesDelivered 8 = .ok (.iload_n 1, 1) := by decide +kernel
theorem dX10_messagesDelivered_9 : decode cX10_messagesDelivered 9 = .ok (.invokevirtual 182, 3) := by decide +kernel
theorem dX10_messagesDelivered_12 : decode cX10_messagesDelivered 12 = .ok (.getfield 253, 3) := by decide +kernel
theorem dX10_messagesDelivered_15 : decode cX10_messagesDelivered 15 = .ok (.ireturn, 1) := by decide +kernel
def F_X10_messagesDelivered (a1 : Int32) (S : Nat → Nat → HV) : Option ((Int32) ⊕ Nat) := (ox (F_X10_requireGardener a1) (fun k9 => some (.inr k9)) fun u1 => some (.inl ((S 0 (gsel a1)).1 7)))
theorem c_X10_messagesDelivered {w : WP} (hW : gW w) (hS : gS w) {Ω : OM}  {S : Nat → Nat → HV} (e : Ω.1 = S) (a1 : Int32) {v : Int32} (hF : F_X10_messagesDelivered a1 S = some (.inl v)) : gM w 7 yX10_messagesDelivered cX10_messagesDelivered 2 (some .int) [.ref (wAd w (7, 11, 6, 0)), .int a1] (cA w Ω) (some (.int v)) (cA w Ω) := by
  refine gM_of "HedgeMessages" rfl (by decide) (kR rfl) fun X C => ?_
  unfold F_X10_messagesDelivered at hF
  show gV w X _ _ 0 [(0, .ref (wAd w (7, 11, 6, 0))), (1, .int a1)] []
  refine r_iload_n C (k := 1) rfl rfl dX10_messagesDelivered_0 ?_
  rcases ox_e hF with ⟨u1, hu1, hF⟩ | ⟨kx2, hkx2, hF⟩
  rotate_left
  · cases hF
  refine r_callS C (d' := 6) [.int a1] (c_X10_requireGardener hS a1 hu1) myX10_requireGardener wm4_84 rfl (kR rfl) (by decide) (kR rfl) rfl dX10_messagesDelivered_1 ?_
  refine r_aload_n C (k := 0) rfl rfl dX10_messagesDelivered_4 ?_
  refine og_7_0 C (hW.ok k7) wm2_159 dX10_messagesDelivered_5 ?_
  refine r_iload_n C (k := 1) rfl rfl dX10_messagesDelivered_8 ?_
  refine r_callV C (d' := 0) [.int a1] (c_X5_gardener hW (by decide) a1) myX5_gardener wm4_96 ⟨_, _, _, _, (hW.ok (k0 (by decide))), rfl, rfl, rfl, rfl⟩ rfl (kR rfl) (by decide) (kR rfl) rfl dX10_messagesDelivered_9 ?_
  refine ogN_1_7 C (hW.ok (k1 (by decide) gsel_12)) (congrFun (congrFun e 0) (gsel a1)) wm1_78 dX10_messagesDelivered_12 ?_
  cases hF
  exact r_ireturn C dX10_messagesDelivered_15
theorem x_X10_messagesDelivered {w : WP} (hW : gW w) (hS : gS w) (hZ : gZ w) {Ω : OM}  {S : Nat → Nat → HV} (e : Ω.1 = S) (a1 : Int32) {k9 : Nat} (hF : F_X10_messagesDelivered a1 S = some (.inr k9)) : gMx w 7 yX10_messagesDelivered cX10_messagesDelivered 2 (some .int) [.ref (wAd w (7, 11, 6, 0)), .int a1] (cA w Ω) (xN k9) (cA w Ω) := by
  refine gMx_of "HedgeMessages" rfl (by decide) (kR rfl) fun X C hT9 => ?_
  unfold F_X10_messagesDelivered at hF
  show gU w X _ _ 0 [(0, .ref (wAd w (7, 11, 6, 0))), (1, .int a1)] []
  refine r_iload_n C (k := 1) rfl rfl dX10_messagesDelivered_0 ?_
  rcases ox_e hF with ⟨u1, hu1, hF⟩ | ⟨kx2, hkx2, hF⟩
  rotate_left
  · cases hF
    exact x_callS C hT9 (d' := 6) [.int a1] (x_X10_requireGardener hS hZ a1 hkx2) myX10_requireGardener wm4_84 rfl (kR rfl) (by decide) (kR rfl) rfl dX10_messagesDelivered_1
  refine r_callS C (d' := 6) [.int a1] (c_X10_requireGardener hS a1 hu1) myX10_requireGardener wm4_84 rfl (kR rfl) (by decide) (kR rfl) rfl dX10_messagesDelivered_1 ?_
  refine r_aload_n C (k := 0) rfl rfl dX10_messagesDelivered_4 ?_
  refine og_7_0 C (hW.ok k7) wm2_159 dX10_messagesDelivered_5 ?_
  refine r_iload_n C (k := 1) rfl rfl dX10_messagesDelivered_8 ?_
  refine r_callV C (d' := 0) [.int a1] (c_X5_gardener hW (by decide) a1) myX5_gardener wm4_96 ⟨_, _, _, _, (hW.ok (k0 (by decide))), rfl, rfl, rfl, rfl⟩ rfl (kR rfl) (by decide) (kR rfl) rfl dX10_messagesDelivered_9 ?_
  refine ogN_1_7 C (hW.ok (k1 (by decide) gsel_12)) (congrFun (congrFun e 0) (gsel a1)) wm1_78 dX10_messagesDelivered_12 ?_
  cases hF
theorem dX10_messagesFailed_0 : decode cX10_messagesFailed 0 = .ok (.iload_n 1, 1) := by decide +kernel
theorem dX10_messagesFailed_1 : decode cX10_messagesFailed 1 = .ok (.invokestatic 179, 3) := by decide +kernel
theorem dX10_messagesFailed_4 : decode cX10_messagesFailed 4 = .ok (.aload_n 0, 1) := by decide +kernel
theorem dX10_messagesFailed_5 : decode cX10_messagesFailed 5 = .ok (.getfield 10, 3) := by decide +kernel
theorem dX10_messagesFailed_8 : decode cX10_messagesFailed 8 = .ok (.iload_n 1, 1) := by decide +kernel
theorem dX10_messagesFailed_9 : decode cX10_messagesFailed 9 = .ok (.invokevirtual 182, 3) := by decide +kernel
theorem dX10_messagesFailed_12 : decode cX10_messagesFailed 12 = .ok (.getfield 266, 3) := by decide +kernel
theorem dX10_messagesFailed_15 : decode cX10_messagesFailed 15 = .ok (.ireturn, 1) := by decide +kernel
def F_X10_messagesFailed (a1 : Int32) (S : Nat → Nat → HV) : Option ((Int32) ⊕ Nat) := (ox (F_X10_requireGardener a1) (fun k9 => some (.inr k9)) fun u1 => some (.inl ((S 0 (gsel a1)).1 8)))
theorem c_X10_messagesFailed {w : WP} (hW : gW w) (hS : gS w) {Ω : OM}  {S : Nat → Nat → HV} (e : Ω.1 = S) (a1 : Int32) {v : Int32} (hF : F_X10_messagesFailed a1 S = some (.inl v)) : gM w 7 yX10_messagesFailed cX10_messagesFailed 2 (some .int) [.ref (wAd w (7, 11, 6, 0)), .int a1] (cA w Ω) (some (.int v)) (cA w Ω) := by
  refine gM_of "HedgeMessages" rfl (by decide) (kR rfl) fun X C => ?_
  unfold F_X10_messagesFailed at hF
  show gV w X _ _ 0 [(0, .ref (wAd w (7, 11, 6, 0))), (1, .int a1)] []
  refine r_iload_n C (k := 1) rfl rfl dX10_messagesFailed_0 ?_
  rcases ox_e hF with ⟨u1, hu1, hF⟩ | ⟨kx2, hkx2, hF⟩
  rotate_left
  · cases hF
  refine r_callS C (d' := 6) [.int a1] (c_X10_requireGardener hS a1 hu1) myX10_requireGardener wm4_84 rfl (kR rfl) (by decide) (kR rfl) rfl dX10_messagesFailed_1 ?_
  refine r_aload_n C (k := 0) rfl rfl dX10_messagesFailed_4 ?_
  refine og_7_0 C (hW.ok k7) wm2_159 dX10_messagesFailed_5 ?_
  refine r_iload_n C (k := 1) rfl rfl dX10_messagesFailed_8 ?_
  refine r_callV C (d' := 0) [.int a1] (c_X5_gardener hW (by decide) a1) myX5_gardener wm4_96 ⟨_, _, _, _, (hW.ok (k0 (by decide))), rfl, rfl, rfl, rfl⟩ rfl (kR rfl) (by decide) (kR rfl) rfl dX10_messagesFailed_9 ?_
  refine ogN_1_8 C (hW.ok (k1 (by decide) gsel_12)) (congrFun (congrFun e 0) (gsel a1)) wm1_81 dX10_messagesFailed_12 ?_
  cases hF
  exact r_ireturn C dX10_messagesFailed_15
theorem x_X10_messagesFailed {w : WP} (hW : gW w) (hS : gS w) (hZ : gZ w) {Ω : OM}  {S : Nat → Nat → HV} (e : Ω.1 = S) (a1 : Int32) {k9 : Nat} (hF : F_X10_messagesFailed a1 S = some (.inr k9)) : gMx w 7 yX10_messagesFailed cX10_messagesFailed 2 (some .int) [.ref (wAd w (7, 11, 6, 0)), .int a1] (cA w Ω) (xN k9) (cA w Ω) := by
  refine gMx_of "HedgeMessages" rfl (by decide) (kR rfl) fun X C hT9 => ?_
  unfold F_X10_messagesFailed at hF
  show gU w X _ _ 0 [(0, .ref (wAd w (7, 11, 6, 0))), (1, .int a1)] []
  refine r_iload_n C (k := 1) rfl rfl dX10_messagesFailed_0 ?_
  rcases ox_e hF with ⟨u1, hu1, hF⟩ | ⟨kx2, hkx2, hF⟩
  rotate_left
  · cases hF
    exact x_callS C hT9 (d' := 6) [.int a1] (x_X10_requireGardener hS hZ a1 hkx2) myX10_requireGardener wm4_84 rfl (kR rfl) (by decide) (kR rfl) rfl dX10_messagesFailed_1
  refine r_callS C (d' := 6) [.int a1] (c_X10_requireGardener hS a1 hu1) myX10_requireGardener wm4_84 rfl (kR rfl) (by decide) (kR rfl) rfl dX10_messagesFailed_1 ?_
  refine r_aload_n C (k := 0) rfl rfl dX10_messagesFailed_4 ?_
  refine og_7_0 C (hW.ok k7) wm2_159 dX10_messagesFailed_5 ?_
  refine r_iload_n C (k := 1) rfl rfl dX10_messagesFailed_8 ?_
  refine r_callV C (d' := 0) [.int a1] (c_X5_gardener hW (by decide) a1) myX5_gardener wm4_96 ⟨_, _, _, _, (hW.ok (k0 (by decide))), rfl, rfl, rfl, rfl⟩ rfl (kR rfl) (by decide) (kR rfl) rfl dX10_messagesFailed_9 ?_
  refine ogN_1_8 C (hW.ok (k1 (by decide) gsel_12)) (congrFun (congrFun e 0) (gsel a1)) wm1_81 dX10_messagesFailed_12 ?_
  cases hF
theorem dX10_messagesDropped_0 : decode cX10_messagesDropped 0 = .ok (.iload_n 1, 1) := by decide +kernel
theorem dX10_messagesDropped_1 : decode cX10_messagesDropped 1 = .ok (.invokestatic 179, 3) := by decide +kernel
theorem dX10_messagesDropped_4 : decode cX10_messagesDropped 4 = .ok (.aload_n 0, 1) := by decide +kernel
theorem dX10_messagesDropped_5 : decode cX10_messagesDropped 5 = .ok (.getfield 10, 3) := by decide +kernel
theorem dX10_messagesDropped_8 : decode cX10_messagesDropped 8 = .ok (.iload_n 1, 1) := by decide +kernel
theorem dX10_messagesDropped_9 : decode cX10_messagesDropped 9 = .ok (.invokevirtual 182, 3) := by decide +kernel
theorem dX10_messagesDropped_12 : decode cX10_messagesDropped 12 = .ok (.getfield 269, 3) := by decide +kernel
theorem dX10_messagesDropped_15 : decode cX10_messagesDropped 15 = .ok (.ireturn, 1) := by decide +kernel
def F_X10_messagesDropped (a1 : Int32) (S : Nat → Nat → HV) : Option ((Int32) ⊕ Nat) := (ox (F_X10_requireGardener a1) (fun k9 => some (.inr k9)) fun u1 => some (.inl ((S 0 (gsel a1)).1 9)))
theorem c_X10_messagesDropped {w : WP} (hW : gW w) (hS : gS w) {Ω : OM}  {S : Nat → Nat → HV} (e : Ω.1 = S) (a1 : Int32) {v : Int32} (hF : F_X10_messagesDropped a1 S = some (.inl v)) : gM w 7 yX10_messagesDropped cX10_messagesDropped 2 (some .int) [.ref (wAd w (7, 11, 6, 0)), .int a1] (cA w Ω) (some (.int v)) (cA w Ω) := by
  refine gM_of "HedgeMessages" rfl (by decide) (kR rfl) fun X C => ?_
  unfold F_X10_messagesDropped at hF
  show gV w X _ _ 0 [(0, .ref (wAd w (7, 11, 6, 0))), (1, .int a1)] []
  refine r_iload_n C (k := 1) rfl rfl dX10_messagesDropped_0 ?_
  rcases ox_e hF with ⟨u1, hu1, hF⟩ | ⟨kx2, hkx2, hF⟩
  rotate_left
  · cases hF
  refine r_callS C (d' := 6) [.int a1] (c_X10_requireGardener hS a1 hu1) myX10_requireGardener wm4_84 rfl (kR rfl) (by decide) (kR rfl) rfl dX10_messagesDropped_1 ?_
  refine r_aload_n C (k := 0) rfl rfl dX10_messagesDropped_4 ?_
  refine og_7_0 C (hW.ok k7) wm2_159 dX10_messagesDropped_5 ?_
  refine r_iload_n C (k := 1) rfl rfl dX10_messagesDropped_8 ?_
  refine r_callV C (d' := 0) [.int a1] (c_X5_gardener hW (by decide) a1) myX5_gardener wm4_96 ⟨_, _, _, _, (hW.ok (k0 (by decide))), rfl, rfl, rfl, rfl⟩ rfl (kR rfl) (by decide) (kR rfl) rfl dX10_messagesDropped_9 ?_
  refine ogN_1_9 C (hW.ok (k1 (by decide) gsel_12)) (congrFun (congrFun e 0) (gsel a1)) wm1_84 dX10_messagesDropped_12 ?_
  cases hF
  exact r_ireturn C dX10_messagesDropped_15
theorem x_X10_messagesDropped {w : WP} (hW : gW w) (hS : gS w) (hZ : gZ w) {Ω : OM}  {S : Nat → Nat → HV} (e : Ω.1 = S) (a1 : Int32) {k9 : Nat} (hF : F_X10_messagesDropped a1 S = some (.inr k9)) : gMx w 7 yX10_messagesDropped cX10_messagesDropped 2 (some .int) [.ref (wAd w (7, 11, 6, 0)), .int a1] (cA w Ω) (xN k9) (cA w Ω) := by
  refine gMx_of "HedgeMessages" rfl (by decide) (kR rfl) fun X C hT9 => ?_
  unfold F_X10_messagesDropped at hF
  show gU w X _ _ 0 [(0, .ref (wAd w (7, 11, 6, 0))), (1, .int a1)] []
  refine r_iload_n C (k := 1) rfl rfl dX10_messagesDropped_0 ?_
  rcases ox_e hF with ⟨u1, hu1, hF⟩ | ⟨kx2, hkx2, hF⟩
  rotate_left
  · cases hF
    exact x_callS C hT9 (d' := 6) [.int a1] (x_X10_requireGardener hS hZ a1 hkx2) myX10_requireGardener wm4_84 rfl (kR rfl) (by decide) (kR rfl) rfl dX10_messagesDropped_1
  refine r_callS C (d' := 6) [.int a1] (c_X10_requireGardener hS a1 hu1) myX10_requireGardener wm4_84 rfl (kR rfl) (by decide) (kR rfl) rfl dX10_messagesDropped_1 ?_
  refine r_aload_n C (k := 0) rfl rfl dX10_messagesDropped_4 ?_
  refine og_7_0 C (hW.ok k7) wm2_159 dX10_messagesDropped_5 ?_
  refine r_iload_n C (k := 1) rfl rfl dX10_messagesDropped_8 ?_
  refine r_callV C (d' := 0) [.int a1] (c_X5_gardener hW (by decide) a1) myX5_gardener wm4_96 ⟨_, _, _, _, (hW.ok (k0 (by decide))), rfl, rfl, rfl, rfl⟩ rfl (kR rfl) (by decide) (kR rfl) rfl dX10_messagesDropped_9 ?_
  refine ogN_1_9 C (hW.ok (k1 (by decide) gsel_12)) (congrFun (congrFun e 0) (gsel a1)) wm1_84 dX10_messagesDropped_12 ?_
  cases hF
theorem dX10_plant_0 : decode cX10_plant 0 = .ok (.aload_n 0, 1) := by decide +kernel
theorem dX10_plant_1 : decode cX10_plant 1 = .ok (.iload_n 1, 1) := by decide +kernel
theorem dX10_plant_2 : decode cX10_plant 2 = .ok (.invokevirtual 148, 3) := by decide +kernel
theorem dX10_plant_5 : decode cX10_plant 5 = .ok (.iload_n 2, 1) := by decide +kernel
theorem dX10_plant_6 : decode cX10_plant 6 = .ok (.invokestatic 298, 3) := by decide +kernel
theorem dX10_plant_9 : decode cX10_plant 9 = .ok (.ifCond .ne 14, 3) := by decide +kernel
theorem dX10_plant_12 : decode cX10_plant 12 = .ok (.new 88, 3) := by decide +kernel
theorem dX10_plant_15 : decode cX10_plant 15 = .ok (.dup, 1) := by decide +kernel
theorem dX10_plant_16 : decode cX10_plant 16 = .ok (.ldc_w 301, 3) := by decide +kernel
theorem dX10_plant_19 : decode cX10_plant 19 = .ok (.invokespecial 92, 3) := by decide +kernel
theorem dX10_plant_22 : decode cX10_plant 22 = .ok (.athrow, 1) := by decide +kernel
theorem dX10_plant_23 : decode cX10_plant 23 = .ok (.aload_n 0, 1) := by decide +kernel
theorem dX10_plant_24 : decode cX10_plant 24 = .ok (.getfield 10, 3) := by decide +kernel
theorem dX10_plant_27 : decode cX10_plant 27 = .ok (.iload_n 1, 1) := by decide +kernel
theorem dX10_plant_28 : decode cX10_plant 28 = .ok (.invokevirtual 303, 3) := by decide +kernel
theorem dX10_plant_31 : decode cX10_plant 31 = .ok (.ifCond .ne 14, 3) := by decide +kernel
theorem dX10_plant_34 : decode cX10_plant 34 = .ok (.new 78, 3) := by decide +kernel
theorem dX10_plant_37 : decode cX10_plant 37 = .ok (.dup, 1) := by decide +kernel
theorem dX10_plant_38 : decode cX10_plant 38 = .ok (.ldc_w 306, 3) := by decide +kernel
theorem dX10_plant_41 : decode cX10_plant 41 = .ok (.invokespecial 82, 3) := by decide +kernel
theorem dX10_plant_44 : decode cX10_plant 44 = .ok (.athrow, 1) := by decide +kernel
theorem dX10_plant_45 : decode cX10_plant 45 = .ok (.aload_n 0, 1) := by decide +kernel
theorem dX10_plant_46 : decode cX10_plant 46 = .ok (.getfield 25, 3) := by decide +kernel
theorem dX10_plant_49 : decode cX10_plant 49 = .ok (.aload_n 0, 1) := by decide +kernel
theorem dX10_plant_50 : decode cX10_plant 50 = .ok (.getfield 10, 3) := by decide +kernel
theorem dX10_plant_53 : decode cX10_plant 53 = .ok (.invokevirtual 114, 3) := by decide +kernel
theorem dX10_plant_56 : decode cX10_plant 56 = .ok (.aload_n 0, 1) := by decide +kernel
theorem dX10_plant_57 : decode cX10_plant 57 = .ok (.getfield 10, 3) := by decide +kernel
theorem dX10_plant_60 : decode cX10_plant 60 = .ok (.iload_n 1, 1) := by decide +kernel
theorem dX10_plant_61 : decode cX10_plant 61 = .ok (.iload_n 2, 1) := by decide +kernel
theorem dX10_plant_62 : decode cX10_plant 62 = .ok (.invokevirtual 308, 3) := by decide +kernel
theorem dX10_plant_65 : decode cX10_plant 65 = .ok (.aload_n 0, 1) := by decide +kernel
theorem dX10_plant_66 : decode cX10_plant 66 = .ok (.getfield 10, 3) := by decide +kernel
theorem dX10_plant_69 : decode cX10_plant 69 = .ok (.invokevirtual 145, 3) := by decide +kernel
theorem dX10_plant_72 : decode cX10_plant 72 = .ok (.ireturn, 1) := by decide +kernel
def F_X10_plant (N : Nat) (a1 : Int32) (a2 : Int32) (S : Nat → Nat → HV) : Option ((Int32 × (Nat → Nat → HV)) ⊕ (Nat × (Nat → Nat → HV))) := (ox (F_X10_requireSlot a1 S) (fun k9 => some (.inr (k9, S))) fun u1 => (if (F_X10_isLetter a2) = true then (if (F_X5_mayPlant a1 (S 0)) = true then (ob1 (F_X6_remember 0 S) fun S4 => (lt (F_X5_plantByHand a1 a2 (S4 0)) fun g6 => (lt (up S4 0 g6) fun S7 => (ob1 (F_X5_countTwigs N (S7 0)) fun v8 => some (.inl (v8, S7)))))) else some (.inr (1, S))) else some (.inr (2, S))))
theorem c_X10_plant {w : WP} (hW : gW w) (hS : gS w) {Ω : OM}  {S : Nat → Nat → HV} (e : Ω.1 = S) (N : Nat) (a1 : Int32) (a2 : Int32) {v : Int32} {S' : Nat → Nat → HV} (hF : F_X10_plant N a1 a2 S = some (.inl (v, S'))) {Ω' : OM} (e2 : (S', Ω.2) = Ω') : gM w 7 yX10_plant cX10_plant 3 (some .int) [.ref (wAd w (7, 11, 6, 0)), .int a1, .int a2] (cA w Ω) (some (.int v)) (cA w Ω') := by
  refine gM_of "HedgeMessages" rfl (by decide) (kR rfl) fun X C => ?_
  unfold F_X10_plant at hF
  subst e2
  show gV w X _ _ 0 [(0, .ref (wAd w (7, 11, 6, 0))), (1, .int a1), (2, .int a2)] []
  refine r_ct (ct' := cA w (S, Ω.2)) (by rw [← e]) ?_
  refine r_aload_n C (k := 0) rfl rfl dX10_plant_0 ?_
  refine r_iload_n C (k := 1) rfl rfl dX10_plant_1 ?_
  rcases ox_e hF with ⟨u1, hu1, hF⟩ | ⟨kx2, hkx2, hF⟩
  rotate_left
  · cases hF
  refine r_callV C (d' := 6) [.int a1] (c_X10_requireSlot hW hS (show (S, Ω.2).1 = S from rfl) a1 hu1) myX10_requireSlot wm3_202 ⟨_, _, _, _, (hW.ok k7), rfl, rfl, rfl, rfl⟩ rfl (kR rfl) (by decide) (kR rfl) rfl dX10_plant_2 ?_
  refine r_iload_n C (k := 2) rfl rfl dX10_plant_5 ?_
  refine r_callS C (d' := 0) [.int a2] (c_X10_isLetter a2 rfl) myX10_isLetter wm3_226 rfl (kR rfl) (by decide) (kR rfl) rfl dX10_plant_6 ?_
  refine r_if_ne C (tgt := 23) rfl dX10_plant_9 (fun hc => ?_) (fun hc => ?_)
  · rw [if_pos (b2i_t hc)] at hF
    refine r_aload_n C (k := 0) rfl rfl dX10_plant_23 ?_
    refine og_7_0 C (hW.ok k7) wm2_159 dX10_plant_24 ?_
    refine r_iload_n C (k := 1) rfl rfl dX10_plant_27 ?_
    refine r_callV C (d' := 3) [.int a1] (c_X5_mayPlant hW (by decide) (congrFun (show (S, Ω.2).1 = S from rfl) 0) a1 rfl) myX5_mayPlant wm3_228 ⟨_, _, _, _, (hW.ok (k0 (by decide))), rfl, rfl, rfl, rfl⟩ rfl (kR rfl) (by decide) (kR rfl) rfl dX10_plant_28 ?_
    refine r_if_ne C (tgt := 45) rfl dX10_plant_31 (fun hc => ?_) (fun hc => ?_)
    · rw [if_pos (b2i_t hc)] at hF
      refine r_aload_n C (k := 0) rfl rfl dX10_plant_45 ?_
      refine og_7_4 C (hW.ok k7) wm2_163 dX10_plant_46 ?_
      refine r_aload_n C (k := 0) rfl rfl dX10_plant_49 ?_
      refine og_7_0 C (hW.ok k7) wm2_159 dX10_plant_50 ?_
      obtain ⟨S4, hS4, hF⟩ := ob1_e hF
      refine r_callV C (d' := 5) [.ref (wAd w (0, 0, 0, 0))] (c_X6_remember hW (show (S, Ω.2).1 = S from rfl) 0 (by decide) hS4 rfl) myX6_remember wm4_2 ⟨_, _, _, _, (hW.ok k8), rfl, rfl, rfl, rfl⟩ rfl (kR rfl) (by decide) (kR rfl) rfl dX10_plant_53 ?_
      refine r_aload_n C (k := 0) rfl rfl dX10_plant_56 ?_
      refine og_7_0 C (hW.ok k7) wm2_159 dX10_plant_57 ?_
      refine r_iload_n C (k := 1) rfl rfl dX10_plant_60 ?_
      refine r_iload_n C (k := 2) rfl rfl dX10_plant_61 ?_
      obtain ⟨g6, hg6, hF⟩ := lt_e hF
      obtain ⟨S7, eS7, hF⟩ := lt_e hF
      refine r_callV C (d' := 2) [.int a1, .int a2] (c_X5_plantByHand hW (by decide) (congrFun (show (S4, Ω.2).1 = S4 from rfl) 0) a1 a2 hg6 (congrArg (fun z => (z, Ω.2)) eS7)) myX5_plantByHand wm4_11 ⟨_, _, _, _, (hW.ok (k0 (by decide))), rfl, rfl, rfl, rfl⟩ rfl (kR rfl) (by decide) (kR rfl) rfl dX10_plant_62 ?_
      refine r_aload_n C (k := 0) rfl rfl dX10_plant_65 ?_
      refine og_7_0 C (hW.ok k7) wm2_159 dX10_plant_66 ?_
      obtain ⟨v8, hv8, hF⟩ := ob1_e hF
      refine r_callV C (d' := 1) [] (c_X5_countTwigs hW (by decide) (congrFun (show (S7, Ω.2).1 = S7 from rfl) 0) N hv8) myX5_countTwigs wm4_20 ⟨_, _, _, _, (hW.ok (k0 (by decide))), rfl, rfl, rfl, rfl⟩ rfl (kR rfl) (by decide) (kR rfl) rfl dX10_plant_69 ?_
      cases hF
      exact r_ireturn C dX10_plant_72
    · rw [if_neg (b2i_f hc)] at hF
      cases hF
  · rw [if_neg (b2i_f hc)] at hF
    cases hF
theorem x_X10_plant {w : WP} (hW : gW w) (hS : gS w) (hZ : gZ w) {Ω : OM}  {S : Nat → Nat → HV} (e : Ω.1 = S) (N : Nat) (a1 : Int32) (a2 : Int32) {k9 : Nat} {S' : Nat → Nat → HV} (hF : F_X10_plant N a1 a2 S = some (.inr (k9, S'))) {Ω' : OM} (e2 : (S', Ω.2) = Ω') : gMx w 7 yX10_plant cX10_plant 3 (some .int) [.ref (wAd w (7, 11, 6, 0)), .int a1, .int a2] (cA w Ω) (xN k9) (cA w Ω') := by
  refine gMx_of "HedgeMessages" rfl (by decide) (kR rfl) fun X C hT9 => ?_
  unfold F_X10_plant at hF
  subst e2
  show gU w X _ _ 0 [(0, .ref (wAd w (7, 11, 6, 0))), (1, .int a1), (2, .int a2)] []
  refine r_ct (ct' := cA w (S, Ω.2)) (by rw [← e]) ?_
  refine r_aload_n C (k := 0) rfl rfl dX10_plant_0 ?_
  refine r_iload_n C (k := 1) rfl rfl dX10_plant_1 ?_
  rcases ox_e hF with ⟨u1, hu1, hF⟩ | ⟨kx2, hkx2, hF⟩
  rotate_left
  · cases hF
    exact x_callV C hT9 (d' := 6) [.int a1] (x_X10_requireSlot hW hS hZ (show (S, Ω.2).1 = S from rfl) a1 hkx2) myX10_requireSlot wm3_202 ⟨_, _, _, _, (hW.ok k7), rfl, rfl, rfl, rfl⟩ rfl (kR rfl) (by decide) (kR rfl) rfl dX10_plant_2
  refine r_callV C (d' := 6) [.int a1] (c_X10_requireSlot hW hS (show (S, Ω.2).1 = S from rfl) a1 hu1) myX10_requireSlot wm3_202 ⟨_, _, _, _, (hW.ok k7), rfl, rfl, rfl, rfl⟩ rfl (kR rfl) (by decide) (kR rfl) rfl dX10_plant_2 ?_
  refine r_iload_n C (k := 2) rfl rfl dX10_plant_5 ?_
  refine r_callS C (d' := 0) [.int a2] (c_X10_isLetter a2 rfl) myX10_isLetter wm3_226 rfl (kR rfl) (by decide) (kR rfl) rfl dX10_plant_6 ?_
  refine r_if_ne C (tgt := 23) rfl dX10_plant_9 (fun hc => ?_) (fun hc => ?_)
  · rw [if_pos (b2i_t hc)] at hF
    refine r_aload_n C (k := 0) rfl rfl dX10_plant_23 ?_
    refine og_7_0 C (hW.ok k7) wm2_159 dX10_plant_24 ?_
    refine r_iload_n C (k := 1) rfl rfl dX10_plant_27 ?_
    refine r_callV C (d' := 3) [.int a1] (c_X5_mayPlant hW (by decide) (congrFun (show (S, Ω.2).1 = S from rfl) 0) a1 rfl) myX5_mayPlant wm3_228 ⟨_, _, _, _, (hW.ok (k0 (by decide))), rfl, rfl, rfl, rfl⟩ rfl (kR rfl) (by decide) (kR rfl) rfl dX10_plant_28 ?_
    refine r_if_ne C (tgt := 45) rfl dX10_plant_31 (fun hc => ?_) (fun hc => ?_)
    · rw [if_pos (b2i_t hc)] at hF
      refine r_aload_n C (k := 0) rfl rfl dX10_plant_45 ?_
      refine og_7_4 C (hW.ok k7) wm2_163 dX10_plant_46 ?_
      refine r_aload_n C (k := 0) rfl rfl dX10_plant_49 ?_
      refine og_7_0 C (hW.ok k7) wm2_159 dX10_plant_50 ?_
      obtain ⟨S4, hS4, hF⟩ := ob1_e hF
      refine r_callV C (d' := 5) [.ref (wAd w (0, 0, 0, 0))] (c_X6_remember hW (show (S, Ω.2).1 = S from rfl) 0 (by decide) hS4 rfl) myX6_remember wm4_2 ⟨_, _, _, _, (hW.ok k8), rfl, rfl, rfl, rfl⟩ rfl (kR rfl) (by decide) (kR rfl) rfl dX10_plant_53 ?_
      refine r_aload_n C (k := 0) rfl rfl dX10_plant_56 ?_
      refine og_7_0 C (hW.ok k7) wm2_159 dX10_plant_57 ?_
      refine r_iload_n C (k := 1) rfl rfl dX10_plant_60 ?_
      refine r_iload_n C (k := 2) rfl rfl dX10_plant_61 ?_
      obtain ⟨g6, hg6, hF⟩ := lt_e hF
      obtain ⟨S7, eS7, hF⟩ := lt_e hF
      refine r_callV C (d' := 2) [.int a1, .int a2] (c_X5_plantByHand hW (by decide) (congrFun (show (S4, Ω.2).1 = S4 from rfl) 0) a1 a2 hg6 (congrArg (fun z => (z, Ω.2)) eS7)) myX5_plantByHand wm4_11 ⟨_, _, _, _, (hW.ok (k0 (by decide))), rfl, rfl, rfl, rfl⟩ rfl (kR rfl) (by decide) (kR rfl) rfl dX10_plant_62 ?_
      refine r_aload_n C (k := 0) rfl rfl dX10_plant_65 ?_
      refine og_7_0 C (hW.ok k7) wm2_159 dX10_plant_66 ?_
      obtain ⟨v8, hv8, hF⟩ := ob1_e hF
      refine r_callV C (d' := 1) [] (c_X5_countTwigs hW (by decide) (congrFun (show (S7, Ω.2).1 = S7 from rfl) 0) N hv8) myX5_countTwigs wm4_20 ⟨_, _, _, _, (hW.ok (k0 (by decide))), rfl, rfl, rfl, rfl⟩ rfl (kR rfl) (by decide) (kR rfl) rfl dX10_plant_69 ?_
      cases hF
    · rw [if_neg (b2i_f hc)] at hF
      cases hF
      exact x_throwSW C hZ hT9 (by decide +kernel) xK1 rfl xI1 xO1 ((hS.s C).imp fun _ _ _ h => h.2.2.1 13 (by decide)) (kR rfl) (kR rfl) dX10_plant_34 dX10_plant_37 dX10_plant_38 dX10_plant_41 dX10_plant_44
  · rw [if_neg (b2i_f hc)] at hF
    cases hF
    exact x_throwSW C hZ hT9 (by decide +kernel) xK2 rfl xI2 xO2 ((hS.s C).imp fun _ _ _ h => h.2.2.1 12 (by decide)) (kR rfl) (kR rfl) dX10_plant_12 dX10_plant_15 dX10_plant_16 dX10_plant_19 dX10_plant_22
theorem dX10_remove_0 : decode cX10_remove 0 = .ok (.aload_n 0, 1) := by decide +kernel
theorem dX10_remove_1 : decode cX10_remove 1 = .ok (.iload_n 1, 1) := by decide +kernel
theorem dX10_remove_2 : decode cX10_remove 2 = .ok (.invokevirtual 148, 3) := by decide +kernel
theorem dX10_remove_5 : decode cX10_remove 5 = .ok (.aload_n 0, 1) := by decide +kernel
theorem dX10_remove_6 : decode cX10_remove 6 = .ok (.getfield 10, 3) := by decide +kernel
theorem dX10_remove_9 : decode cX10_remove 9 = .ok (.iload_n 1, 1) := by decide +kernel
theorem dX10_remove_10 : decode cX10_remove 10 = .ok (.invokevirtual 311, 3) := by decide +kernel
theorem dX10_remove_13 : decode cX10_remove 13 = .ok (.ifCond .ne 14, 3) := by decide +kernel
theorem dX10_remove_16 : decode cX10_remove 16 = .ok (.new 78, 3) := by decide +kernel
theorem dX10_remove_19 : decode cX10_remove 19 = .ok (.dup, 1) := by decide +kernel
theorem dX10_remove_20 : decode cX10_remove 20 = .ok (.ldc_w 314, 3) := by decide +kernel
theorem dX10_remove_23 : decode cX10_remove 23 = .ok (.invokespecial 82, 3) := by decide +kernel
theorem dX10_remove_26 : decode cX10_remove 26 = .ok (.athrow, 1) := by decide +kernel
theorem dX10_remove_27 : decode cX10_remove 27 = .ok (.aload_n 0, 1) := by decide +kernel
theorem dX10_remove_28 : decode cX10_remove 28 = .ok (.getfield 25, 3) := by decide +kernel
theorem dX10_remove_31 : decode cX10_remove 31 = .ok (.aload_n 0, 1) := by decide +kernel
theorem dX10_remove_32 : decode cX10_remove 32 = .ok (.getfield 10, 3) := by decide +kernel
theorem dX10_remove_35 : decode cX10_remove 35 = .ok (.invokevirtual 114, 3) := by decide +kernel
theorem dX10_remove_38 : decode cX10_remove 38 = .ok (.aload_n 0, 1) := by decide +kernel
theorem dX10_remove_39 : decode cX10_remove 39 = .ok (.getfield 10, 3) := by decide +kernel
theorem dX10_remove_42 : decode cX10_remove 42 = .ok (.getfield 154, 3) := by decide +kernel
theorem dX10_remove_45 : decode cX10_remove 45 = .ok (.iload_n 1, 1) := by decide +kernel
theorem dX10_remove_46 : decode cX10_remove 46 = .ok (.invokevirtual 157, 3) := by decide +kernel
theorem dX10_remove_49 : decode cX10_remove 49 = .ok (.istore_n 2, 1) := by decide +kernel
theorem dX10_remove_50 : decode cX10_remove 50 = .ok (.aload_n 0, 1) := by decide +kernel
theorem dX10_remove_51 : decode cX10_remove 51 = .ok (.getfield 10, 3) := by decide +kernel
theorem dX10_remove_54 : decode cX10_remove 54 = .ok (.iload_n 1, 1) := by decide +kernel
theorem dX10_remove_55 : decode cX10_remove 55 = .ok (.invokevirtual 316, 3) := by decide +kernel
theorem dX10_remove_58 : decode cX10_remove 58 = .ok (.iload_n 2, 1) := by decide +kernel
theorem dX10_remove_59 : decode cX10_remove 59 = .ok (.ireturn, 1) := by decide +kernel
def F_X10_remove (a1 : Int32) (S : Nat → Nat → HV) : Option ((Int32 × (Nat → Nat → HV)) ⊕ (Nat × (Nat → Nat → HV))) := (ox (F_X10_requireSlot a1 S) (fun k9 => some (.inr (k9, S))) fun u1 => (if (F_X5_mayRemove a1 (S 0)) = true then (ob1 (F_X6_remember 0 S) fun S4 => (lt (F_X5_removeByHand a1 (S4 0)) fun g6 => (lt (up S4 0 g6) fun S7 => some (.inl ((rget 40 ((S4 0 0).2 0) a1), S7))))) else some (.inr (1, S))))
theorem c_X10_remove {w : WP} (hW : gW w) (hS : gS w) {Ω : OM}  {S : Nat → Nat → HV} (e : Ω.1 = S) (a1 : Int32) {v : Int32} {S' : Nat → Nat → HV} (hF : F_X10_remove a1 S = some (.inl (v, S'))) {Ω' : OM} (e2 : (S', Ω.2) = Ω') : gM w 7 yX10_remove cX10_remove 3 (some .int) [.ref (wAd w (7, 11, 6, 0)), .int a1] (cA w Ω) (some (.int v)) (cA w Ω') := by
  refine gM_of "HedgeMessages" rfl (by decide) (kR rfl) fun X C => ?_
  unfold F_X10_remove at hF
  subst e2
  show gV w X _ _ 0 [(0, .ref (wAd w (7, 11, 6, 0))), (1, .int a1)] []
  refine r_ct (ct' := cA w (S, Ω.2)) (by rw [← e]) ?_
  refine r_aload_n C (k := 0) rfl rfl dX10_remove_0 ?_
  refine r_iload_n C (k := 1) rfl rfl dX10_remove_1 ?_
  rcases ox_e hF with ⟨u1, hu1, hF⟩ | ⟨kx2, hkx2, hF⟩
  rotate_left
  · cases hF
  refine r_callV C (d' := 6) [.int a1] (c_X10_requireSlot hW hS (show (S, Ω.2).1 = S from rfl) a1 hu1) myX10_requireSlot wm3_202 ⟨_, _, _, _, (hW.ok k7), rfl, rfl, rfl, rfl⟩ rfl (kR rfl) (by decide) (kR rfl) rfl dX10_remove_2 ?_
  refine r_aload_n C (k := 0) rfl rfl dX10_remove_5 ?_
  refine og_7_0 C (hW.ok k7) wm2_159 dX10_remove_6 ?_
  refine r_iload_n C (k := 1) rfl rfl dX10_remove_9 ?_
  refine r_callV C (d' := 3) [.int a1] (c_X5_mayRemove hW (by decide) (congrFun (show (S, Ω.2).1 = S from rfl) 0) a1 rfl) myX5_mayRemove wm4_28 ⟨_, _, _, _, (hW.ok (k0 (by decide))), rfl, rfl, rfl, rfl⟩ rfl (kR rfl) (by decide) (kR rfl) rfl dX10_remove_10 ?_
  refine r_if_ne C (tgt := 27) rfl dX10_remove_13 (fun hc => ?_) (fun hc => ?_)
  · rw [if_pos (b2i_t hc)] at hF
    refine r_aload_n C (k := 0) rfl rfl dX10_remove_27 ?_
    refine og_7_4 C (hW.ok k7) wm2_163 dX10_remove_28 ?_
    refine r_aload_n C (k := 0) rfl rfl dX10_remove_31 ?_
    refine og_7_0 C (hW.ok k7) wm2_159 dX10_remove_32 ?_
    obtain ⟨S4, hS4, hF⟩ := ob1_e hF
    refine r_callV C (d' := 5) [.ref (wAd w (0, 0, 0, 0))] (c_X6_remember hW (show (S, Ω.2).1 = S from rfl) 0 (by decide) hS4 rfl) myX6_remember wm4_2 ⟨_, _, _, _, (hW.ok k8), rfl, rfl, rfl, rfl⟩ rfl (kR rfl) (by decide) (kR rfl) rfl dX10_remove_35 ?_
    refine r_aload_n C (k := 0) rfl rfl dX10_remove_38 ?_
    refine og_7_0 C (hW.ok k7) wm2_159 dX10_remove_39 ?_
    refine ogN_0_8 C (hW.ok (k0 (by decide))) wm1_147 dX10_remove_42 ?_
    refine r_iload_n C (k := 1) rfl rfl dX10_remove_45 ?_
    refine r_callV C (d' := 0) [.int a1] (c_rget (hW.ok (i := (3, 0, 0, 0)) (q0 (by decide) (kR rfl))) (hW.ok (i := (4, 0, 0, 0)) (q0 (by decide) (kR rfl))) (show rlen 0 0 = 40 from rfl) (by decide) (congrArg (fun z => z.2 0) (congrFun (congrFun (show (S4, Ω.2).1 = S4 from rfl) 0) 0)) rfl) myX8_get wm4_45 ⟨_, _, _, _, (hW.ok (i := (3, 0, 0, 0)) (q0 (by decide) (kR rfl))), rfl, rfl, rfl, rfl⟩ rfl (kR rfl) (by decide) (kR rfl) rfl dX10_remove_46 ?_
    refine r_istore_n C (lo' := [(2, .int (rget 40 ((S4 0 0).2 0) a1)), (0, .ref (wAd w (7, 11, 6, 0))), (1, .int a1)]) rfl (by decide) rfl dX10_remove_49 ?_
    refine r_aload_n C (k := 1) rfl rfl dX10_remove_50 ?_
    refine og_7_0 C (hW.ok k7) wm2_159 dX10_remove_51 ?_
    refine r_iload_n C (k := 2) rfl rfl dX10_remove_54 ?_
    obtain ⟨g6, hg6, hF⟩ := lt_e hF
    obtain ⟨S7, eS7, hF⟩ := lt_e hF
    refine r_callV C (d' := 1) [.int a1] (c_X5_removeByHand hW (by decide) (congrFun (show (S4, Ω.2).1 = S4 from rfl) 0) a1 hg6 (congrArg (fun z => (z, Ω.2)) eS7)) myX5_removeByHand wm4_46 ⟨_, _, _, _, (hW.ok (k0 (by decide))), rfl, rfl, rfl, rfl⟩ rfl (kR rfl) (by decide) (kR rfl) rfl dX10_remove_55 ?_
    refine r_iload_n C (k := 0) rfl rfl dX10_remove_58 ?_
    cases hF
    exact r_ireturn C dX10_remove_59
  · rw [if_neg (b2i_f hc)] at hF
    cases hF
theorem x_X10_remove {w : WP} (hW : gW w) (hS : gS w) (hZ : gZ w) {Ω : OM}  {S : Nat → Nat → HV} (e : Ω.1 = S) (a1 : Int32) {k9 : Nat} {S' : Nat → Nat → HV} (hF : F_X10_remove a1 S = some (.inr (k9, S'))) {Ω' : OM} (e2 : (S', Ω.2) = Ω') : gMx w 7 yX10_remove cX10_remove 3 (some .int) [.ref (wAd w (7, 11, 6, 0)), .int a1] (cA w Ω) (xN k9) (cA w Ω') := by
  refine gMx_of "HedgeMessages" rfl (by decide) (kR rfl) fun X C hT9 => ?_
  unfold F_X10_remove at hF
  subst e2
  show gU w X _ _ 0 [(0, .ref (wAd w (7, 11, 6, 0))), (1, .int a1)] []
  refine r_ct (ct' := cA w (S, Ω.2)) (by rw [← e]) ?_
  refine r_aload_n C (k := 0) rfl rfl dX10_remove_0 ?_
  refine r_iload_n C (k := 1) rfl rfl dX10_remove_1 ?_
  rcases ox_e hF with ⟨u1, hu1, hF⟩ | ⟨kx2, hkx2, hF⟩
  rotate_left
  · cases hF
    exact x_callV C hT9 (d' := 6) [.int a1] (x_X10_requireSlot hW hS hZ (show (S, Ω.2).1 = S from rfl) a1 hkx2) myX10_requireSlot wm3_202 ⟨_, _, _, _, (hW.ok k7), rfl, rfl, rfl, rfl⟩ rfl (kR rfl) (by decide) (kR rfl) rfl dX10_remove_2
  refine r_callV C (d' := 6) [.int a1] (c_X10_requireSlot hW hS (show (S, Ω.2).1 = S from rfl) a1 hu1) myX10_requireSlot wm3_202 ⟨_, _, _, _, (hW.ok k7), rfl, rfl, rfl, rfl⟩ rfl (kR rfl) (by decide) (kR rfl) rfl dX10_remove_2 ?_
  refine r_aload_n C (k := 0) rfl rfl dX10_remove_5 ?_
  refine og_7_0 C (hW.ok k7) wm2_159 dX10_remove_6 ?_
  refine r_iload_n C (k := 1) rfl rfl dX10_remove_9 ?_
  refine r_callV C (d' := 3) [.int a1] (c_X5_mayRemove hW (by decide) (congrFun (show (S, Ω.2).1 = S from rfl) 0) a1 rfl) myX5_mayRemove wm4_28 ⟨_, _, _, _, (hW.ok (k0 (by decide))), rfl, rfl, rfl, rfl⟩ rfl (kR rfl) (by decide) (kR rfl) rfl dX10_remove_10 ?_
  refine r_if_ne C (tgt := 27) rfl dX10_remove_13 (fun hc => ?_) (fun hc => ?_)
  · rw [if_pos (b2i_t hc)] at hF
    refine r_aload_n C (k := 0) rfl rfl dX10_remove_27 ?_
    refine og_7_4 C (hW.ok k7) wm2_163 dX10_remove_28 ?_
    refine r_aload_n C (k := 0) rfl rfl dX10_remove_31 ?_
    refine og_7_0 C (hW.ok k7) wm2_159 dX10_remove_32 ?_
    obtain ⟨S4, hS4, hF⟩ := ob1_e hF
    refine r_callV C (d' := 5) [.ref (wAd w (0, 0, 0, 0))] (c_X6_remember hW (show (S, Ω.2).1 = S from rfl) 0 (by decide) hS4 rfl) myX6_remember wm4_2 ⟨_, _, _, _, (hW.ok k8), rfl, rfl, rfl, rfl⟩ rfl (kR rfl) (by decide) (kR rfl) rfl dX10_remove_35 ?_
    refine r_aload_n C (k := 0) rfl rfl dX10_remove_38 ?_
    refine og_7_0 C (hW.ok k7) wm2_159 dX10_remove_39 ?_
    refine ogN_0_8 C (hW.ok (k0 (by decide))) wm1_147 dX10_remove_42 ?_
    refine r_iload_n C (k := 1) rfl rfl dX10_remove_45 ?_
    refine r_callV C (d' := 0) [.int a1] (c_rget (hW.ok (i := (3, 0, 0, 0)) (q0 (by decide) (kR rfl))) (hW.ok (i := (4, 0, 0, 0)) (q0 (by decide) (kR rfl))) (show rlen 0 0 = 40 from rfl) (by decide) (congrArg (fun z => z.2 0) (congrFun (congrFun (show (S4, Ω.2).1 = S4 from rfl) 0) 0)) rfl) myX8_get wm4_45 ⟨_, _, _, _, (hW.ok (i := (3, 0, 0, 0)) (q0 (by decide) (kR rfl))), rfl, rfl, rfl, rfl⟩ rfl (kR rfl) (by decide) (kR rfl) rfl dX10_remove_46 ?_
    refine r_istore_n C (lo' := [(2, .int (rget 40 ((S4 0 0).2 0) a1)), (0, .ref (wAd w (7, 11, 6, 0))), (1, .int a1)]) rfl (by decide) rfl dX10_remove_49 ?_
    refine r_aload_n C (k := 1) rfl rfl dX10_remove_50 ?_
    refine og_7_0 C (hW.ok k7) wm2_159 dX10_remove_51 ?_
    refine r_iload_n C (k := 2) rfl rfl dX10_remove_54 ?_
    obtain ⟨g6, hg6, hF⟩ := lt_e hF
    obtain ⟨S7, eS7, hF⟩ := lt_e hF
    refine r_callV C (d' := 1) [.int a1] (c_X5_removeByHand hW (by decide) (congrFun (show (S4, Ω.2).1 = S4 from rfl) 0) a1 hg6 (congrArg (fun z => (z, Ω.2)) eS7)) myX5_removeByHand wm4_46 ⟨_, _, _, _, (hW.ok (k0 (by decide))), rfl, rfl, rfl, rfl⟩ rfl (kR rfl) (by decide) (kR rfl) rfl dX10_remove_55 ?_
    refine r_iload_n C (k := 0) rfl rfl dX10_remove_58 ?_
    cases hF
  · rw [if_neg (b2i_f hc)] at hF
    cases hF
    exact x_throwSW C hZ hT9 (by decide +kernel) xK1 rfl xI1 xO1 ((hS.s C).imp fun _ _ _ h => h.2.2.1 14 (by decide)) (kR rfl) (kR rfl) dX10_remove_16 dX10_remove_19 dX10_remove_20 dX10_remove_23 dX10_remove_26
theorem dX10_trim_0 : decode cX10_trim 0 = .ok (.aload_n 0, 1) := by decide +kernel
theorem dX10_trim_1 : decode cX10_trim 1 = .ok (.iload_n 1, 1) := by decide +kernel
theorem dX10_trim_2 : decode cX10_trim 2 = .ok (.invokevirtual 148, 3) := by decide +kernel
theorem dX10_trim_5 : decode cX10_trim 5 = .ok (.iload_n 2, 1) := by decide +kernel
theorem dX10_trim_6 : decode cX10_trim 6 = .ok (.iconst 1, 1) := by decide +kernel
theorem dX10_trim_7 : decode cX10_trim 7 = .ok (.if_icmp .lt 9, 3) := by decide +kernel
theorem dX10_trim_10 : decode cX10_trim 10 = .ok (.iload_n 2, 1) := by decide +kernel
theorem dX10_trim_11 : decode cX10_trim 11 = .ok (.bipush 99, 2) := by decide +kernel
theorem dX10_trim_13 : decode cX10_trim 13 = .ok (.if_icmp .le 14, 3) := by decide +kernel
theorem dX10_trim_16 : decode cX10_trim 16 = .ok (.new 88, 3) := by decide +kernel
theorem dX10_trim_19 : decode cX10_trim 19 = .ok (.dup, 1) := by decide +kernel
theorem dX10_trim_20 : decode cX10_trim 20 = .ok (.ldc_w 319, 3) := by decide +kernel
theorem dX10_trim_23 : decode cX10_trim 23 = .ok (.invokespecial 92, 3) := by decide +kernel
theorem dX10_trim_26 : decode cX10_trim 26 = .ok (.athrow, 1) := by decide +kernel
theorem dX10_trim_27 : decode cX10_trim 27 = .ok (.aload_n 0, 1) := by decide +kernel
theorem dX10_trim_28 : decode cX10_trim 28 = .ok (.getfield 10, 3) := by decide +kernel
theorem dX10_trim_31 : decode cX10_trim 31 = .ok (.iload_n 1, 1) := by decide +kernel
theorem dX10_trim_32 : decode cX10_trim 32 = .ok (.invokevirtual 321, 3) := by decide +kernel
theorem dX10_trim_35 : decode cX10_trim 35 = .ok (.ifCond .ne 14, 3) := by decide +kernel
theorem dX10_trim_38 : decode cX10_trim 38 = .ok (.new 78, 3) := by decide +kernel
theorem dX10_trim_41 : decode cX10_trim 41 = .ok (.dup, 1) := by decide +kernel
theorem dX10_trim_42 : decode cX10_trim 42 = .ok (.ldc_w 324, 3) := by decide +kernel
theorem dX10_trim_45 : decode cX10_trim 45 = .ok (.invokespecial 82, 3) := by decide +kernel
theorem dX10_trim_48 : decode cX10_trim 48 = .ok (.athrow, 1) := by decide +kernel
theorem dX10_trim_49 : decode cX10_trim 49 = .ok (.aload_n 0, 1) := by decide +kernel
theorem dX10_trim_50 : decode cX10_trim 50 = .ok (.getfield 25, 3) := by decide +kernel
theorem dX10_trim_53 : decode cX10_trim 53 = .ok (.aload_n 0, 1) := by decide +kernel
theorem dX10_trim_54 : decode cX10_trim 54 = .ok (.getfield 10, 3) := by decide +kernel
theorem dX10_trim_57 : decode cX10_trim 57 = .ok (.invokevirtual 114, 3) := by decide +kernel
theorem dX10_trim_60 : decode cX10_trim 60 = .ok (.aload_n 0, 1) := by decide +kernel
theorem dX10_trim_61 : decode cX10_trim 61 = .ok (.getfield 10, 3) := by decide +kernel
theorem dX10_trim_64 : decode cX10_trim 64 = .ok (.iload_n 1, 1) := by decide +kernel
theorem dX10_trim_65 : decode cX10_trim 65 = .ok (.iload_n 2, 1) := by decide +kernel
theorem dX10_trim_66 : decode cX10_trim 66 = .ok (.invokevirtual 326, 3) := by decide +kernel
theorem dX10_trim_69 : decode cX10_trim 69 = .ok (.aload_n 0, 1) := by decide +kernel
theorem dX10_trim_70 : decode cX10_trim 70 = .ok (.getfield 10, 3) := by decide +kernel
theorem dX10_trim_73 : decode cX10_trim 73 = .ok (.getfield 164, 3) := by decide +kernel
theorem dX10_trim_76 : decode cX10_trim 76 = .ok (.iload_n 1, 1) := by decide +kernel
theorem dX10_trim_77 : decode cX10_trim 77 = .ok (.invokevirtual 157, 3) := by decide +kernel
theorem dX10_trim_80 : decode cX10_trim 80 = .ok (.ireturn, 1) := by decide +kernel
def F_X10_trim (a1 : Int32) (a2 : Int32) (S : Nat → Nat → HV) : Option ((Int32 × (Nat → Nat → HV)) ⊕ (Nat × (Nat → Nat → HV))) := (ox (F_X10_requireSlot a1 S) (fun k9 => some (.inr (k9, S))) fun u1 => (if a2 < 1 then some (.inr (2, S)) else (if a2 ≤ 99 then (if (F_X5_mayTrim a1 (S 0)) = true then (ob1 (F_X6_remember 0 S) fun S4 => (lt (F_X5_trimByHand a1 a2 (S4 0)) fun g6 => (lt (up S4 0 g6) fun S7 => some (.inl ((rget 40 ((S7 0 0).2 2) a1), S7))))) else some (.inr (1, S))) else some (.inr (2, S)))))
theorem c_X10_trim {w : WP} (hW : gW w) (hS : gS w) {Ω : OM}  {S : Nat → Nat → HV} (e : Ω.1 = S) (a1 : Int32) (a2 : Int32) {v : Int32} {S' : Nat → Nat → HV} (hF : F_X10_trim a1 a2 S = some (.inl (v, S'))) {Ω' : OM} (e2 : (S', Ω.2) = Ω') : gM w 7 yX10_trim cX10_trim 3 (some .int) [.ref (wAd w (7, 11, 6, 0)), .int a1, .int a2] (cA w Ω) (some (.int v)) (cA w Ω') := by
  refine gM_of "HedgeMessages" rfl (by decide) (kR rfl) fun X C => ?_
  unfold F_X10_trim at hF
  subst e2
  show gV w X _ _ 0 [(0, .ref (wAd w (7, 11, 6, 0))), (1, .int a1), (2, .int a2)] []
  refine r_ct (ct' := cA w (S, Ω.2)) (by rw [← e]) ?_
  refine r_aload_n C (k := 0) rfl rfl dX10_trim_0 ?_
  refine r_iload_n C (k := 1) rfl rfl dX10_trim_1 ?_
  rcases ox_e hF with ⟨u1, hu1, hF⟩ | ⟨kx2, hkx2, hF⟩
  rotate_left
  · cases hF
  refine r_callV C (d' := 6) [.int a1] (c_X10_requireSlot hW hS (show (S, Ω.2).1 = S from rfl) a1 hu1) myX10_requireSlot wm3_202 ⟨_, _, _, _, (hW.ok k7), rfl, rfl, rfl, rfl⟩ rfl (kR rfl) (by decide) (kR rfl) rfl dX10_trim_2 ?_
  refine r_iload_n C (k := 2) rfl rfl dX10_trim_5 ?_
  refine r_iconst C (v := 1) rfl dX10_trim_6 ?_
  refine r_icmp_lt C (tgt := 16) rfl dX10_trim_7 (fun hc => ?_) (fun hc => ?_)
  · rw [if_pos hc] at hF
    cases hF
  · rw [if_neg hc] at hF
    refine r_iload_n C (k := 2) rfl rfl dX10_trim_10 ?_
    refine r_bipush C (v := 99) rfl dX10_trim_11 ?_
    refine r_icmp_le C (tgt := 27) rfl dX10_trim_13 (fun hc => ?_) (fun hc => ?_)
    · rw [if_pos hc] at hF
      refine r_aload_n C (k := 0) rfl rfl dX10_trim_27 ?_
      refine og_7_0 C (hW.ok k7) wm2_159 dX10_trim_28 ?_
      refine r_iload_n C (k := 1) rfl rfl dX10_trim_31 ?_
      refine r_callV C (d' := 3) [.int a1] (c_X5_mayTrim hW (by decide) (congrFun (show (S, Ω.2).1 = S from rfl) 0) a1 rfl) myX5_mayTrim wm4_55 ⟨_, _, _, _, (hW.ok (k0 (by decide))), rfl, rfl, rfl, rfl⟩ rfl (kR rfl) (by decide) (kR rfl) rfl dX10_trim_32 ?_
      refine r_if_ne C (tgt := 49) rfl dX10_trim_35 (fun hc => ?_) (fun hc => ?_)
      · rw [if_pos (b2i_t hc)] at hF
        refine r_aload_n C (k := 0) rfl rfl dX10_trim_49 ?_
        refine og_7_4 C (hW.ok k7) wm2_163 dX10_trim_50 ?_
        refine r_aload_n C (k := 0) rfl rfl dX10_trim_53 ?_
        refine og_7_0 C (hW.ok k7) wm2_159 dX10_trim_54 ?_
        obtain ⟨S4, hS4, hF⟩ := ob1_e hF
        refine r_callV C (d' := 5) [.ref (wAd w (0, 0, 0, 0))] (c_X6_remember hW (show (S, Ω.2).1 = S from rfl) 0 (by decide) hS4 rfl) myX6_remember wm4_2 ⟨_, _, _, _, (hW.ok k8), rfl, rfl, rfl, rfl⟩ rfl (kR rfl) (by decide) (kR rfl) rfl dX10_trim_57 ?_
        refine r_aload_n C (k := 0) rfl rfl dX10_trim_60 ?_
        refine og_7_0 C (hW.ok k7) wm2_159 dX10_trim_61 ?_
        refine r_iload_n C (k := 1) rfl rfl dX10_trim_64 ?_
        refine r_iload_n C (k := 2) rfl rfl dX10_trim_65 ?_
        obtain ⟨g6, hg6, hF⟩ := lt_e hF
        obtain ⟨S7, eS7, hF⟩ := lt_e hF
        refine r_callV C (d' := 1) [.int a1, .int a2] (c_X5_trimByHand hW (by decide) (congrFun (show (S4, Ω.2).1 = S4 from rfl) 0) a1 a2 hg6 (congrArg (fun z => (z, Ω.2)) eS7)) myX5_trimByHand wm4_64 ⟨_, _, _, _, (hW.ok (k0 (by decide))), rfl, rfl, rfl, rfl⟩ rfl (kR rfl) (by decide) (kR rfl) rfl dX10_trim_66 ?_
        refine r_aload_n C (k := 0) rfl rfl dX10_trim_69 ?_
        refine og_7_0 C (hW.ok k7) wm2_159 dX10_trim_70 ?_
        refine ogN_0_10 C (hW.ok (k0 (by decide))) wm1_151 dX10_trim_73 ?_
        refine r_iload_n C (k := 1) rfl rfl dX10_trim_76 ?_
        refine r_callV C (d' := 0) [.int a1] (c_rget (hW.ok (i := (3, 0, 0, 2)) (q0 (by decide) (kR rfl))) (hW.ok (i := (4, 0, 0, 2)) (q0 (by decide) (kR rfl))) (show rlen 0 2 = 40 from rfl) (by decide) (congrArg (fun z => z.2 2) (congrFun (congrFun (show (S7, Ω.2).1 = S7 from rfl) 0) 0)) rfl) myX8_get wm4_45 ⟨_, _, _, _, (hW.ok (i := (3, 0, 0, 2)) (q0 (by decide) (kR rfl))), rfl, rfl, rfl, rfl⟩ rfl (kR rfl) (by decide) (kR rfl) rfl dX10_trim_77 ?_
        cases hF
        exact r_ireturn C dX10_trim_80
      · rw [if_neg (b2i_f hc)] at hF
        cases hF
    · rw [if_neg hc] at hF
      cases hF
theorem x_X10_trim {w : WP} (hW : gW w) (hS : gS w) (hZ : gZ w) {Ω : OM}  {S : Nat → Nat → HV} (e : Ω.1 = S) (a1 : Int32) (a2 : Int32) {k9 : Nat} {S' : Nat → Nat → HV} (hF : F_X10_trim a1 a2 S = some (.inr (k9, S'))) {Ω' : OM} (e2 : (S', Ω.2) = Ω') : gMx w 7 yX10_trim cX10_trim 3 (some .int) [.ref (wAd w (7, 11, 6, 0)), .int a1, .int a2] (cA w Ω) (xN k9) (cA w Ω') := by
  refine gMx_of "HedgeMessages" rfl (by decide) (kR rfl) fun X C hT9 => ?_
  unfold F_X10_trim at hF
  subst e2
  show gU w X _ _ 0 [(0, .ref (wAd w (7, 11, 6, 0))), (1, .int a1), (2, .int a2)] []
  refine r_ct (ct' := cA w (S, Ω.2)) (by rw [← e]) ?_
  refine r_aload_n C (k := 0) rfl rfl dX10_trim_0 ?_
  refine r_iload_n C (k := 1) rfl rfl dX10_trim_1 ?_
  rcases ox_e hF with ⟨u1, hu1, hF⟩ | ⟨kx2, hkx2, hF⟩
  rotate_left
  · cases hF
    exact x_callV C hT9 (d' := 6) [.int a1] (x_X10_requireSlot hW hS hZ (show (S, Ω.2).1 = S from rfl) a1 hkx2) myX10_requireSlot wm3_202 ⟨_, _, _, _, (hW.ok k7), rfl, rfl, rfl, rfl⟩ rfl (kR rfl) (by decide) (kR rfl) rfl dX10_trim_2
  refine r_callV C (d' := 6) [.int a1] (c_X10_requireSlot hW hS (show (S, Ω.2).1 = S from rfl) a1 hu1) myX10_requireSlot wm3_202 ⟨_, _, _, _, (hW.ok k7), rfl, rfl, rfl, rfl⟩ rfl (kR rfl) (by decide) (kR rfl) rfl dX10_trim_2 ?_
  refine r_iload_n C (k := 2) rfl rfl dX10_trim_5 ?_
  refine r_iconst C (v := 1) rfl dX10_trim_6 ?_
  refine r_icmp_lt C (tgt := 16) rfl dX10_trim_7 (fun hc => ?_) (fun hc => ?_)
  · rw [if_pos hc] at hF
    cases hF
    exact x_throwSW C hZ hT9 (by decide +kernel) xK2 rfl xI2 xO2 ((hS.s C).imp fun _ _ _ h => h.2.2.1 15 (by decide)) (kR rfl) (kR rfl) dX10_trim_16 dX10_trim_19 dX10_trim_20 dX10_trim_23 dX10_trim_26
  · rw [if_neg hc] at hF
    refine r_iload_n C (k := 2) rfl rfl dX10_trim_10 ?_
    refine r_bipush C (v := 99) rfl dX10_trim_11 ?_
    refine r_icmp_le C (tgt := 27) rfl dX10_trim_13 (fun hc => ?_) (fun hc => ?_)
    · rw [if_pos hc] at hF
      refine r_aload_n C (k := 0) rfl rfl dX10_trim_27 ?_
      refine og_7_0 C (hW.ok k7) wm2_159 dX10_trim_28 ?_
      refine r_iload_n C (k := 1) rfl rfl dX10_trim_31 ?_
      refine r_callV C (d' := 3) [.int a1] (c_X5_mayTrim hW (by decide) (congrFun (show (S, Ω.2).1 = S from rfl) 0) a1 rfl) myX5_mayTrim wm4_55 ⟨_, _, _, _, (hW.ok (k0 (by decide))), rfl, rfl, rfl, rfl⟩ rfl (kR rfl) (by decide) (kR rfl) rfl dX10_trim_32 ?_
      refine r_if_ne C (tgt := 49) rfl dX10_trim_35 (fun hc => ?_) (fun hc => ?_)
      · rw [if_pos (b2i_t hc)] at hF
        refine r_aload_n C (k := 0) rfl rfl dX10_trim_49 ?_
        refine og_7_4 C (hW.ok k7) wm2_163 dX10_trim_50 ?_
        refine r_aload_n C (k := 0) rfl rfl dX10_trim_53 ?_
        refine og_7_0 C (hW.ok k7) wm2_159 dX10_trim_54 ?_
        obtain ⟨S4, hS4, hF⟩ := ob1_e hF
        refine r_callV C (d' := 5) [.ref (wAd w (0, 0, 0, 0))] (c_X6_remember hW (show (S, Ω.2).1 = S from rfl) 0 (by decide) hS4 rfl) myX6_remember wm4_2 ⟨_, _, _, _, (hW.ok k8), rfl, rfl, rfl, rfl⟩ rfl (kR rfl) (by decide) (kR rfl) rfl dX10_trim_57 ?_
        refine r_aload_n C (k := 0) rfl rfl dX10_trim_60 ?_
        refine og_7_0 C (hW.ok k7) wm2_159 dX10_trim_61 ?_
        refine r_iload_n C (k := 1) rfl rfl dX10_trim_64 ?_
        refine r_iload_n C (k := 2) rfl rfl dX10_trim_65 ?_
        obtain ⟨g6, hg6, hF⟩ := lt_e hF
        obtain ⟨S7, eS7, hF⟩ := lt_e hF
        refine r_callV C (d' := 1) [.int a1, .int a2] (c_X5_trimByHand hW (by decide) (congrFun (show (S4, Ω.2).1 = S4 from rfl) 0) a1 a2 hg6 (congrArg (fun z => (z, Ω.2)) eS7)) myX5_trimByHand wm4_64 ⟨_, _, _, _, (hW.ok (k0 (by decide))), rfl, rfl, rfl, rfl⟩ rfl (kR rfl) (by decide) (kR rfl) rfl dX10_trim_66 ?_
        refine r_aload_n C (k := 0) rfl rfl dX10_trim_69 ?_
        refine og_7_0 C (hW.ok k7) wm2_159 dX10_trim_70 ?_
        refine ogN_0_10 C (hW.ok (k0 (by decide))) wm1_151 dX10_trim_73 ?_
        refine r_iload_n C (k := 1) rfl rfl dX10_trim_76 ?_
        refine r_callV C (d' := 0) [.int a1] (c_rget (hW.ok (i := (3, 0, 0, 2)) (q0 (by decide) (kR rfl))) (hW.ok (i := (4, 0, 0, 2)) (q0 (by decide) (kR rfl))) (show rlen 0 2 = 40 from rfl) (by decide) (congrArg (fun z => z.2 2) (congrFun (congrFun (show (S7, Ω.2).1 = S7 from rfl) 0) 0)) rfl) myX8_get wm4_45 ⟨_, _, _, _, (hW.ok (i := (3, 0, 0, 2)) (q0 (by decide) (kR rfl))), rfl, rfl, rfl, rfl⟩ rfl (kR rfl) (by decide) (kR rfl) rfl dX10_trim_77 ?_
        cases hF
      · rw [if_neg (b2i_f hc)] at hF
        cases hF
        exact x_throwSW C hZ hT9 (by decide +kernel) xK1 rfl xI1 xO1 ((hS.s C).imp fun _ _ _ h => h.2.2.1 16 (by decide)) (kR rfl) (kR rfl) dX10_trim_38 dX10_trim_41 dX10_trim_42 dX10_trim_45 dX10_trim_48
    · rw [if_neg hc] at hF
      cases hF
      exact x_throwSW C hZ hT9 (by decide +kernel) xK2 rfl xI2 xO2 ((hS.s C).imp fun _ _ _ h => h.2.2.1 15 (by decide)) (kR rfl) (kR rfl) dX10_trim_16 dX10_trim_19 dX10_trim_20 dX10_trim_23 dX10_trim_26
theorem dX10_addNest_0 : decode cX10_addNest 0 = .ok (.aload_n 0, 1) := by decide +kernel
theorem dX10_addNest_1 : decode cX10_addNest 1 = .ok (.iload_n 1, 1) := by decide +kernel
theorem dX10_addNest_2 : decode cX10_addNest 2 = .ok (.invokevirtual 148, 3) := by decide +kernel
theorem dX10_addNest_5 : decode cX10_addNest 5 = .ok (.iload_n 2, 1) := by decide +kernel
theorem dX10_addNest_6 : decode cX10_addNest 6 = .ok (.iconst 1, 1) := by decide +kernel
theorem dX10_addNest_7 : decode cX10_addNest 7 = .ok (.if_icmp .lt 9, 3) := by decide +kernel
theorem dX10_addNest_10 : decode cX10_addNest 10 = .ok (.iload_n 2, 1) := by decide +kernel
theorem dX10_addNest_11 : decode cX10_addNest 11 = .ok (.bipush 30, 2) := by decide +kernel
theorem dX10_addNest_13 : decode cX10_addNest 13 = .ok (.if_icmp .le 14, 3) := by decide +kernel
theorem dX10_addNest_16 : decode cX10_addNest 16 = .ok (.new 88, 3) := by decide +kernel
theorem dX10_addNest_19 : decode cX10_addNest 19 = .ok (.dup, 1) := by decide +kernel
theorem dX10_addNest_20 : decode cX10_addNest 20 = .ok (.ldc_w 329, 3) := by decide +kernel
theorem dX10_addNest_23 : decode cX10_addNest 23 = .ok (.invokespecial 92, 3) := by decide +kernel
theorem dX10_addNest_26 : decode cX10_addNest 26 = .ok (.athrow, 1) := by decide +kernel
theorem dX10_addNest_27 : decode cX10_addNest 27 = .ok (.aload_n 0, 1) := by decide +kernel
theorem dX10_addNest_28 : decode cX10_addNest 28 = .ok (.getfield 10, 3) := by decide +kernel
theorem dX10_addNest_31 : decode cX10_addNest 31 = .ok (.iload_n 1, 1) := by decide +kernel
theorem dX10_addNest_32 : decode cX10_addNest 32 = .ok (.invokevirtual 331, 3) := by decide +kernel
theorem dX10_addNest_35 : decode cX10_addNest 35 = .ok (.ifCond .ne 14, 3) := by decide +kernel
theorem dX10_addNest_38 : decode cX10_addNest 38 = .ok (.new 78, 3) := by decide +kernel
theorem dX10_addNest_41 : decode cX10_addNest 41 = .ok (.dup, 1) := by decide +kernel
theorem dX10_addNest_42 : decode cX10_addNest 42 = .ok (.ldc_w 334, 3) := by decide +kernel
theorem dX10_addNest_45 : decode cX10_addNest 45 = .ok (.invokespecial 82, 3) := by decide +kernel
theorem dX10_addNest_48 : decode cX10_addNest 48 = .ok (.athrow, 1) := by decide +kernel
theorem dX10_addNest_49 : decode cX10_addNest 49 = .ok (.aload_n 0, 1) := by decide +kernel
theorem dX10_addNest_50 : decode cX10_addNest 50 = .ok (.getfield 25, 3) := by decide +kernel
theorem dX10_addNest_53 : decode cX10_addNest 53 = .ok (.aload_n 0, 1) := by decide +kernel
theorem dX10_addNest_54 : decode cX10_addNest 54 = .ok (.getfield 10, 3) := by decide +kernel
theorem dX10_addNest_57 : decode cX10_addNest 57 = .ok (.invokevirtual 114, 3) := by decide +kernel
theorem dX10_addNest_60 : decode cX10_addNest 60 = .ok (.aload_n 0, 1) := by decide +kernel
theorem dX10_addNest_61 : decode cX10_addNest 61 = .ok (.getfield 10, 3) := by decide +kernel
theorem dX10_addNest_64 : decode cX10_addNest 64 = .ok (.iload_n 1, 1) := by decide +kernel
theorem dX10_addNest_65 : decode cX10_addNest 65 = .ok (.iload_n 2, 1) := by decide +kernel
theorem dX10_addNest_66 : decode cX10_addNest 66 = .ok (.invokevirtual 60, 3) := by decide +kernel
theorem dX10_addNest_69 : decode cX10_addNest 69 = .ok (.aload_n 0, 1) := by decide +kernel
theorem dX10_addNest_70 : decode cX10_addNest 70 = .ok (.getfield 10, 3) := by decide +kernel
theorem dX10_addNest_73 : decode cX10_addNest 73 = .ok (.invokevirtual 176, 3) := by decide +kernel
theorem dX10_addNest_76 : decode cX10_addNest 76 = .ok (.ireturn, 1) := by decide +kernel
def F_X10_addNest (N : Nat) (a1 : Int32) (a2 : Int32) (S : Nat → Nat → HV) : Option ((Int32 × (Nat → Nat → HV)) ⊕ (Nat × (Nat → Nat → HV))) := (ox (F_X10_requireSlot a1 S) (fun k9 => some (.inr (k9, S))) fun u1 => (if a2 < 1 then some (.inr (2, S)) else (if a2 ≤ 30 then (ob1 (F_X5_mayNest N a1 (S 0)) fun v3 => (if v3 = true then (ob1 (F_X6_remember 0 S) fun S5 => (lt (F_X5_placeNest a1 a2 (S5 0)) fun g7 => (lt (up S5 0 g7) fun S8 => (ob1 (F_X5_countNests N (S8 0)) fun v9 => some (.inl (v9, S8)))))) else some (.inr (1, S)))) else some (.inr (2, S)))))
theorem c_X10_addNest {w : WP} (hW : gW w) (hS : gS w) {Ω : OM}  {S : Nat → Nat → HV} (e : Ω.1 = S) (N : Nat) (a1 : Int32) (a2 : Int32) {v : Int32} {S' : Nat → Nat → HV} (hF : F_X10_addNest N a1 a2 S = some (.inl (v, S'))) {Ω' : OM} (e2 : (S', Ω.2) = Ω') : gM w 7 yX10_addNest cX10_addNest 3 (some .int) [.ref (wAd w (7, 11, 6, 0)), .int a1, .int a2] (cA w Ω) (some (.int v)) (cA w Ω') := by
  refine gM_of "HedgeMessages" rfl (by decide) (kR rfl) fun X C => ?_
  unfold F_X10_addNest at hF
  subst e2
  show gV w X _ _ 0 [(0, .ref (wAd w (7, 11, 6, 0))), (1, .int a1), (2, .int a2)] []
  refine r_ct (ct' := cA w (S, Ω.2)) (by rw [← e]) ?_
  refine r_aload_n C (k := 0) rfl rfl dX10_addNest_0 ?_
  refine r_iload_n C (k := 1) rfl rfl dX10_addNest_1 ?_
  rcases ox_e hF with ⟨u1, hu1, hF⟩ | ⟨kx2, hkx2, hF⟩
  rotate_left
  · cases hF
  refine r_callV C (d' := 6) [.int a1] (c_X10_requireSlot hW hS (show (S, Ω.2).1 = S from rfl) a1 hu1) myX10_requireSlot wm3_202 ⟨_, _, _, _, (hW.ok k7), rfl, rfl, rfl, rfl⟩ rfl (kR rfl) (by decide) (kR rfl) rfl dX10_addNest_2 ?_
  refine r_iload_n C (k := 2) rfl rfl dX10_addNest_5 ?_
  refine r_iconst C (v := 1) rfl dX10_addNest_6 ?_
  refine r_icmp_lt C (tgt := 16) rfl dX10_addNest_7 (fun hc => ?_) (fun hc => ?_)
  · rw [if_pos hc] at hF
    cases hF
  · rw [if_neg hc] at hF
    refine r_iload_n C (k := 2) rfl rfl dX10_addNest_10 ?_
    refine r_bipush C (v := 30) rfl dX10_addNest_11 ?_
    refine r_icmp_le C (tgt := 27) rfl dX10_addNest_13 (fun hc => ?_) (fun hc => ?_)
    · rw [if_pos hc] at hF
      refine r_aload_n C (k := 0) rfl rfl dX10_addNest_27 ?_
      refine og_7_0 C (hW.ok k7) wm2_159 dX10_addNest_28 ?_
      refine r_iload_n C (k := 1) rfl rfl dX10_addNest_31 ?_
      obtain ⟨v3, hv3, hF⟩ := ob1_e hF
      refine r_callV C (d' := 2) [.int a1] (c_X5_mayNest hW (by decide) (congrFun (show (S, Ω.2).1 = S from rfl) 0) N a1 hv3) myX5_mayNest wm4_73 ⟨_, _, _, _, (hW.ok (k0 (by decide))), rfl, rfl, rfl, rfl⟩ rfl (kR rfl) (by decide) (kR rfl) rfl dX10_addNest_32 ?_
      refine r_if_ne C (tgt := 49) rfl dX10_addNest_35 (fun hc => ?_) (fun hc => ?_)
      · rw [if_pos (b2i_t hc)] at hF
        refine r_aload_n C (k := 0) rfl rfl dX10_addNest_49 ?_
        refine og_7_4 C (hW.ok k7) wm2_163 dX10_addNest_50 ?_
        refine r_aload_n C (k := 0) rfl rfl dX10_addNest_53 ?_
        refine og_7_0 C (hW.ok k7) wm2_159 dX10_addNest_54 ?_
        obtain ⟨S5, hS5, hF⟩ := ob1_e hF
        refine r_callV C (d' := 5) [.ref (wAd w (0, 0, 0, 0))] (c_X6_remember hW (show (S, Ω.2).1 = S from rfl) 0 (by decide) hS5 rfl) myX6_remember wm4_2 ⟨_, _, _, _, (hW.ok k8), rfl, rfl, rfl, rfl⟩ rfl (kR rfl) (by decide) (kR rfl) rfl dX10_addNest_57 ?_
        refine r_aload_n C (k := 0) rfl rfl dX10_addNest_60 ?_
        refine og_7_0 C (hW.ok k7) wm2_159 dX10_addNest_61 ?_
        refine r_iload_n C (k := 1) rfl rfl dX10_addNest_64 ?_
        refine r_iload_n C (k := 2) rfl rfl dX10_addNest_65 ?_
        obtain ⟨g7, hg7, hF⟩ := lt_e hF
        obtain ⟨S8, eS8, hF⟩ := lt_e hF
        refine r_callV C (d' := 1) [.int a1, .int a2] (c_X5_placeNest hW (by decide) (congrFun (show (S5, Ω.2).1 = S5 from rfl) 0) a1 a2 hg7 (congrArg (fun z => (z, Ω.2)) eS8)) myX5_placeNest wm2_80 ⟨_, _, _, _, (hW.ok (k0 (by decide))), rfl, rfl, rfl, rfl⟩ rfl (kR rfl) (by decide) (kR rfl) rfl dX10_addNest_66 ?_
        refine r_aload_n C (k := 0) rfl rfl dX10_addNest_69 ?_
        refine og_7_0 C (hW.ok k7) wm2_159 dX10_addNest_70 ?_
        obtain ⟨v9, hv9, hF⟩ := ob1_e hF
        refine r_callV C (d' := 1) [] (c_X5_countNests hW (by decide) (congrFun (show (S8, Ω.2).1 = S8 from rfl) 0) N hv9) myX5_countNests wm4_79 ⟨_, _, _, _, (hW.ok (k0 (by decide))), rfl, rfl, rfl, rfl⟩ rfl (kR rfl) (by decide) (kR rfl) rfl dX10_addNest_73 ?_
        cases hF
        exact r_ireturn C dX10_addNest_76
      · rw [if_neg (b2i_f hc)] at hF
        cases hF
    · rw [if_neg hc] at hF
      cases hF
theorem x_X10_addNest {w : WP} (hW : gW w) (hS : gS w) (hZ : gZ w) {Ω : OM}  {S : Nat → Nat → HV} (e : Ω.1 = S) (N : Nat) (a1 : Int32) (a2 : Int32) {k9 : Nat} {S' : Nat → Nat → HV} (hF : F_X10_addNest N a1 a2 S = some (.inr (k9, S'))) {Ω' : OM} (e2 : (S', Ω.2) = Ω') : gMx w 7 yX10_addNest cX10_addNest 3 (some .int) [.ref (wAd w (7, 11, 6, 0)), .int a1, .int a2] (cA w Ω) (xN k9) (cA w Ω') := by
  refine gMx_of "HedgeMessages" rfl (by decide) (kR rfl) fun X C hT9 => ?_
  unfold F_X10_addNest at hF
  subst e2
  show gU w X _ _ 0 [(0, .ref (wAd w (7, 11, 6, 0))), (1, .int a1), (2, .int a2)] []
  refine r_ct (ct' := cA w (S, Ω.2)) (by rw [← e]) ?_
  refine r_aload_n C (k := 0) rfl rfl dX10_addNest_0 ?_
  refine r_iload_n C (k := 1) rfl rfl dX10_addNest_1 ?_
  rcases ox_e hF with ⟨u1, hu1, hF⟩ | ⟨kx2, hkx2, hF⟩
  rotate_left
  · cases hF
    exact x_callV C hT9 (d' := 6) [.int a1] (x_X10_requireSlot hW hS hZ (show (S, Ω.2).1 = S from rfl) a1 hkx2) myX10_requireSlot wm3_202 ⟨_, _, _, _, (hW.ok k7), rfl, rfl, rfl, rfl⟩ rfl (kR rfl) (by decide) (kR rfl) rfl dX10_addNest_2
  refine r_callV C (d' := 6) [.int a1] (c_X10_requireSlot hW hS (show (S, Ω.2).1 = S from rfl) a1 hu1) myX10_requireSlot wm3_202 ⟨_, _, _, _, (hW.ok k7), rfl, rfl, rfl, rfl⟩ rfl (kR rfl) (by decide) (kR rfl) rfl dX10_addNest_2 ?_
  refine r_iload_n C (k := 2) rfl rfl dX10_addNest_5 ?_
  refine r_iconst C (v := 1) rfl dX10_addNest_6 ?_
  refine r_icmp_lt C (tgt := 16) rfl dX10_addNest_7 (fun hc => ?_) (fun hc => ?_)
  · rw [if_pos hc] at hF
    cases hF
    exact x_throwSW C hZ hT9 (by decide +kernel) xK2 rfl xI2 xO2 ((hS.s C).imp fun _ _ _ h => h.2.2.1 17 (by decide)) (kR rfl) (kR rfl) dX10_addNest_16 dX10_addNest_19 dX10_addNest_20 dX10_addNest_23 dX10_addNest_26
  · rw [if_neg hc] at hF
    refine r_iload_n C (k := 2) rfl rfl dX10_addNest_10 ?_
    refine r_bipush C (v := 30) rfl dX10_addNest_11 ?_
    refine r_icmp_le C (tgt := 27) rfl dX10_addNest_13 (fun hc => ?_) (fun hc => ?_)
    · rw [if_pos hc] at hF
      refine r_aload_n C (k := 0) rfl rfl dX10_addNest_27 ?_
      refine og_7_0 C (hW.ok k7) wm2_159 dX10_addNest_28 ?_
      refine r_iload_n C (k := 1) rfl rfl dX10_addNest_31 ?_
      obtain ⟨v3, hv3, hF⟩ := ob1_e hF
      refine r_callV C (d' := 2) [.int a1] (c_X5_mayNest hW (by decide) (congrFun (show (S, Ω.2).1 = S from rfl) 0) N a1 hv3) myX5_mayNest wm4_73 ⟨_, _, _, _, (hW.ok (k0 (by decide))), rfl, rfl, rfl, rfl⟩ rfl (kR rfl) (by decide) (kR rfl) rfl dX10_addNest_32 ?_
      refine r_if_ne C (tgt := 49) rfl dX10_addNest_35 (fun hc => ?_) (fun hc => ?_)
      · rw [if_pos (b2i_t hc)] at hF
        refine r_aload_n C (k := 0) rfl rfl dX10_addNest_49 ?_
        refine og_7_4 C (hW.ok k7) wm2_163 dX10_addNest_50 ?_
        refine r_aload_n C (k := 0) rfl rfl dX10_addNest_53 ?_
        refine og_7_0 C (hW.ok k7) wm2_159 dX10_addNest_54 ?_
        obtain ⟨S5, hS5, hF⟩ := ob1_e hF
        refine r_callV C (d' := 5) [.ref (wAd w (0, 0, 0, 0))] (c_X6_remember hW (show (S, Ω.2).1 = S from rfl) 0 (by decide) hS5 rfl) myX6_remember wm4_2 ⟨_, _, _, _, (hW.ok k8), rfl, rfl, rfl, rfl⟩ rfl (kR rfl) (by decide) (kR rfl) rfl dX10_addNest_57 ?_
        refine r_aload_n C (k := 0) rfl rfl dX10_addNest_60 ?_
        refine og_7_0 C (hW.ok k7) wm2_159 dX10_addNest_61 ?_
        refine r_iload_n C (k := 1) rfl rfl dX10_addNest_64 ?_
        refine r_iload_n C (k := 2) rfl rfl dX10_addNest_65 ?_
        obtain ⟨g7, hg7, hF⟩ := lt_e hF
        obtain ⟨S8, eS8, hF⟩ := lt_e hF
        refine r_callV C (d' := 1) [.int a1, .int a2] (c_X5_placeNest hW (by decide) (congrFun (show (S5, Ω.2).1 = S5 from rfl) 0) a1 a2 hg7 (congrArg (fun z => (z, Ω.2)) eS8)) myX5_placeNest wm2_80 ⟨_, _, _, _, (hW.ok (k0 (by decide))), rfl, rfl, rfl, rfl⟩ rfl (kR rfl) (by decide) (kR rfl) rfl dX10_addNest_66 ?_
        refine r_aload_n C (k := 0) rfl rfl dX10_addNest_69 ?_
        refine og_7_0 C (hW.ok k7) wm2_159 dX10_addNest_70 ?_
        obtain ⟨v9, hv9, hF⟩ := ob1_e hF
        refine r_callV C (d' := 1) [] (c_X5_countNests hW (by decide) (congrFun (show (S8, Ω.2).1 = S8 from rfl) 0) N hv9) myX5_countNests wm4_79 ⟨_, _, _, _, (hW.ok (k0 (by decide))), rfl, rfl, rfl, rfl⟩ rfl (kR rfl) (by decide) (kR rfl) rfl dX10_addNest_73 ?_
        cases hF
      · rw [if_neg (b2i_f hc)] at hF
        cases hF
        exact x_throwSW C hZ hT9 (by decide +kernel) xK1 rfl xI1 xO1 ((hS.s C).imp fun _ _ _ h => h.2.2.1 18 (by decide)) (kR rfl) (kR rfl) dX10_addNest_38 dX10_addNest_41 dX10_addNest_42 dX10_addNest_45 dX10_addNest_48
    · rw [if_neg hc] at hF
      cases hF
      exact x_throwSW C hZ hT9 (by decide +kernel) xK2 rfl xI2 xO2 ((hS.s C).imp fun _ _ _ h => h.2.2.1 17 (by decide)) (kR rfl) (kR rfl) dX10_addNest_16 dX10_addNest_19 dX10_addNest_20 dX10_addNest_23 dX10_addNest_26
theorem dX10_queueMessage_0 : decode cX10_queueMessage 0 = .ok (.iload_n 1, 1) := by decide +kernel
theorem dX10_queueMessage_1 : decode cX10_queueMessage 1 = .ok (.invokestatic 179, 3) := by decide +kernel
theorem dX10_queueMessage_4 : decode cX10_queueMessage 4 = .ok (.aload_n 0, 1) := by decide +kernel
theorem dX10_queueMessage_5 : decode cX10_queueMessage 5 = .ok (.getfield 32, 3) := by decide +kernel
theorem dX10_queueMessage_8 : decode cX10_queueMessage 8 = .ok (.invokevirtual 336, 3) := by decide +kernel
theorem dX10_queueMessage_11 : decode cX10_queueMessage 11 = .ok (.ifCond .ne 14, 3) := by decide +kernel
theorem dX10_queueMessage_14 : decode cX10_queueMessage 14 = .ok (.new 88, 3) := by decide +kernel
theorem dX10_queueMessage_17 : decode cX10_queueMessage 17 = .ok (.dup, 1) := by decide +kernel
theorem dX10_queueMessage_18 : decode cX10_queueMessage 18 = .ok (.ldc_w 339, 3) := by decide +kernel
theorem dX10_queueMessage_21 : decode cX10_queueMessage 21 = .ok (.invokespecial 92, 3) := by decide +kernel
theorem dX10_queueMessage_24 : decode cX10_queueMessage 24 = .ok (.athrow, 1) := by decide +kernel
theorem dX10_queueMessage_25 : decode cX10_queueMessage 25 = .ok (.aload_n 0, 1) := by decide +kernel
theorem dX10_queueMessage_26 : decode cX10_queueMessage 26 = .ok (.getfield 10, 3) := by decide +kernel
theorem dX10_queueMessage_29 : decode cX10_queueMessage 29 = .ok (.iload_n 1, 1) := by decide +kernel
theorem dX10_queueMessage_30 : decode cX10_queueMessage 30 = .ok (.invokevirtual 341, 3) := by decide +kernel
theorem dX10_queueMessage_33 : decode cX10_queueMessage 33 = .ok (.ifCond .ne 14, 3) := by decide +kernel
theorem dX10_queueMessage_36 : decode cX10_queueMessage 36 = .ok (.new 78, 3) := by decide +kernel
theorem dX10_queueMessage_39 : decode cX10_queueMessage 39 = .ok (.dup, 1) := by decide +kernel
theorem dX10_queueMessage_40 : decode cX10_queueMessage 40 = .ok (.ldc_w 344, 3) := by decide +kernel
theorem dX10_queueMessage_43 : decode cX10_queueMessage 43 = .ok (.invokespecial 82, 3) := by decide +kernel
theorem dX10_queueMessage_46 : decode cX10_queueMessage 46 = .ok (.athrow, 1) := by decide +kernel
theorem dX10_queueMessage_47 : decode cX10_queueMessage 47 = .ok (.aload_n 0, 1) := by decide +kernel
theorem dX10_queueMessage_48 : decode cX10_queueMessage 48 = .ok (.getfield 25, 3) := by decide +kernel
theorem dX10_queueMessage_51 : decode cX10_queueMessage 51 = .ok (.aload_n 0, 1) := by decide +kernel
theorem dX10_queueMessage_52 : decode cX10_queueMessage 52 = .ok (.getfield 10, 3) := by decide +kernel
theorem dX10_queueMessage_55 : decode cX10_queueMessage 55 = .ok (.invokevirtual 114, 3) := by decide +kernel
theorem dX10_queueMessage_58 : decode cX10_queueMessage 58 = .ok (.aload_n 0, 1) := by decide +kernel
theorem dX10_queueMessage_59 : decode cX10_queueMessage 59 = .ok (.getfield 10, 3) := by decide +kernel
theorem dX10_queueMessage_62 : decode cX10_queueMessage 62 = .ok (.iload_n 1, 1) := by decide +kernel
theorem dX10_queueMessage_63 : decode cX10_queueMessage 63 = .ok (.aload_n 0, 1) := by decide +kernel
theorem dX10_queueMessage_64 : decode cX10_queueMessage 64 = .ok (.getfield 32, 3) := by decide +kernel
theorem dX10_queueMessage_67 : decode cX10_queueMessage 67 = .ok (.getfield 346, 3) := by decide +kernel
theorem dX10_queueMessage_70 : decode cX10_queueMessage 70 = .ok (.iconst 0, 1) := by decide +kernel
theorem dX10_queueMessage_71 : decode cX10_queueMessage 71 = .ok (.aload_n 0, 1) := by decide +kernel
theorem dX10_queueMessage_72 : decode cX10_queueMessage 72 = .ok (.getfield 32, 3) := by decide +kernel
theorem dX10_queueMessage_75 : decode cX10_queueMessage 75 = .ok (.getfield 74, 3) := by decide +kernel
theorem dX10_queueMessage_78 : decode cX10_queueMessage 78 = .ok (.invokevirtual 349, 3) := by decide +kernel
theorem dX10_queueMessage_81 : decode cX10_queueMessage 81 = .ok (.aload_n 0, 1) := by decide +kernel
theorem dX10_queueMessage_82 : decode cX10_queueMessage 82 = .ok (.getfield 32, 3) := by decide +kernel
theorem dX10_queueMessage_85 : decode cX10_queueMessage 85 = .ok (.iconst 0, 1) := by decide +kernel
theorem dX10_queueMessage_86 : decode cX10_queueMessage 86 = .ok (.putfield 74, 3) := by decide +kernel
theorem dX10_queueMessage_89 : decode cX10_queueMessage 89 = .ok (.aload_n 0, 1) := by decide +kernel
theorem dX10_queueMessage_90 : decode cX10_queueMessage 90 = .ok (.getfield 10, 3) := by decide +kernel
theorem dX10_queueMessage_93 : decode cX10_queueMessage 93 = .ok (.iload_n 1, 1) := by decide +kernel
theorem dX10_queueMessage_94 : decode cX10_queueMessage 94 = .ok (.invokevirtual 182, 3) := by decide +kernel
theorem dX10_queueMessage_97 : decode cX10_queueMessage 97 = .ok (.getfield 186, 3) := by decide +kernel
theorem dX10_queueMessage_100 : decode cX10_queueMessage 100 = .ok (.ireturn, 1) := by decide +kernel
def F_X10_queueMessage (N : Nat) (a1 : Int32) (S : Nat → Nat → HV) : Option ((Int32 × (Nat → Nat → HV)) ⊕ (Nat × (Nat → Nat → HV))) := (ox (F_X10_requireGardener a1) (fun k9 => some (.inr (k9, S))) fun u1 => (ob1 (F_X9_isOneWord N (S 11 4)) fun v3 => (if v3 = true then (if (F_X5_mayQueue a1 (S 0)) = true then (ob1 (F_X6_remember 0 S) fun S5 => (lt (F_X5_receive a1 ((S5 11 4).2 0) 800 0 ((S5 11 4).1 1) (S5 0)) fun g7 => (lt (up S5 0 g7) fun S8 => (lt (up S8 11 (up (S8 11) 4 (sS (S8 11 4) 1 0))) fun S9 => some (.inl (((S9 0 (gsel a1)).1 2), S9)))))) else some (.inr (1, S))) else some (.inr (2, S)))))
theorem c_X10_queueMessage {w : WP} (hW : gW w) (hS : gS w) {Ω : OM}  {S : Nat → Nat → HV} (e : Ω.1 = S) (N : Nat) (a1 : Int32) {v : Int32} {S' : Nat → Nat → HV} (hF : F_X10_queueMessage N a1 S = some (.inl (v, S'))) {Ω' : OM} (e2 : (S', Ω.2) = Ω') : gM w 7 yX10_queueMessage cX10_queueMessage 2 (some .int) [.ref (wAd w (7, 11, 6, 0)), .int a1] (cA w Ω) (some (.int v)) (cA w Ω') := by
  refine gM_of "HedgeMessages" rfl (by decide) (kR rfl) fun X C => ?_
  unfold F_X10_queueMessage at hF
  subst e2
  show gV w X _ _ 0 [(0, .ref (wAd w (7, 11, 6, 0))), (1, .int a1)] []
  refine r_ct (ct' := cA w (S, Ω.2)) (by rw [← e]) ?_
  refine r_iload_n C (k := 1) rfl rfl dX10_queueMessage_0 ?_
  rcases ox_e hF with ⟨u1, hu1, hF⟩ | ⟨kx2, hkx2, hF⟩
  rotate_left
  · cases hF
  refine r_callS C (d' := 6) [.int a1] (c_X10_requireGardener hS a1 hu1) myX10_requireGardener wm4_84 rfl (kR rfl) (by decide) (kR rfl) rfl dX10_queueMessage_1 ?_
  refine r_aload_n C (k := 0) rfl rfl dX10_queueMessage_4 ?_
  refine og_7_5 C (hW.ok k7) wm2_164 dX10_queueMessage_5 ?_
  obtain ⟨v3, hv3, hF⟩ := ob1_e hF
  refine r_callV C (d' := 1) [] (c_X9_isOneWord hW (congrFun (congrFun (show (S, Ω.2).1 = S from rfl) 11) 4) N hv3) myX9_isOneWord wm4_88 ⟨_, _, _, _, (hW.ok k5), rfl, rfl, rfl, rfl⟩ rfl (kR rfl) (by decide) (kR rfl) rfl dX10_queueMessage_8 ?_
  refine r_if_ne C (tgt := 25) rfl dX10_queueMessage_11 (fun hc => ?_) (fun hc => ?_)
  · rw [if_pos (b2i_t hc)] at hF
    refine r_aload_n C (k := 0) rfl rfl dX10_queueMessage_25 ?_
    refine og_7_0 C (hW.ok k7) wm2_159 dX10_queueMessage_26 ?_
    refine r_iload_n C (k := 1) rfl rfl dX10_queueMessage_29 ?_
    refine r_callV C (d' := 1) [.int a1] (c_X5_mayQueue hW (by decide) (congrFun (show (S, Ω.2).1 = S from rfl) 0) a1 rfl) myX5_mayQueue wm4_93 ⟨_, _, _, _, (hW.ok (k0 (by decide))), rfl, rfl, rfl, rfl⟩ rfl (kR rfl) (by decide) (kR rfl) rfl dX10_queueMessage_30 ?_
    refine r_if_ne C (tgt := 47) rfl dX10_queueMessage_33 (fun hc => ?_) (fun hc => ?_)
    · rw [if_pos (b2i_t hc)] at hF
      refine r_aload_n C (k := 0) rfl rfl dX10_queueMessage_47 ?_
      refine og_7_4 C (hW.ok k7) wm2_163 dX10_queueMessage_48 ?_
      refine r_aload_n C (k := 0) rfl rfl dX10_queueMessage_51 ?_
      refine og_7_0 C (hW.ok k7) wm2_159 dX10_queueMessage_52 ?_
      obtain ⟨S5, hS5, hF⟩ := ob1_e hF
      refine r_callV C (d' := 5) [.ref (wAd w (0, 0, 0, 0))] (c_X6_remember hW (show (S, Ω.2).1 = S from rfl) 0 (by decide) hS5 rfl) myX6_remember wm4_2 ⟨_, _, _, _, (hW.ok k8), rfl, rfl, rfl, rfl⟩ rfl (kR rfl) (by decide) (kR rfl) rfl dX10_queueMessage_55 ?_
      refine r_aload_n C (k := 0) rfl rfl dX10_queueMessage_58 ?_
      refine og_7_0 C (hW.ok k7) wm2_159 dX10_queueMessage_59 ?_
      refine r_iload_n C (k := 1) rfl rfl dX10_queueMessage_62 ?_
      refine r_aload_n C (k := 0) rfl rfl dX10_queueMessage_63 ?_
      refine og_7_5 C (hW.ok k7) wm2_164 dX10_queueMessage_64 ?_
      refine ogN_5_0 C (hW.ok k5) wm1_237 dX10_queueMessage_67 ?_
      refine r_iconst C (v := 0) rfl dX10_queueMessage_70 ?_
      refine r_aload_n C (k := 0) rfl rfl dX10_queueMessage_71 ?_
      refine og_7_5 C (hW.ok k7) wm2_164 dX10_queueMessage_72 ?_
      refine ogN_5_1 C (hW.ok k5) (congrFun (congrFun (show (S5, Ω.2).1 = S5 from rfl) 11) 4) wm1_238 dX10_queueMessage_75 ?_
      obtain ⟨g7, hg7, hF⟩ := lt_e hF
      obtain ⟨S8, eS8, hF⟩ := lt_e hF
      refine r_callV C (d' := 3) [.int a1, .ref (wAd w (3, 11, 4, 0)), .int 0, .int ((S5 11 4).1 1)] (c_X5_receive hW (by decide) (congrFun (show (S5, Ω.2).1 = S5 from rfl) 0) a1 (hW.ok (i := (3, 11, 4, 0)) q4) (hW.ok (i := (4, 11, 4, 0)) q4) (show rlen 4 0 = 800 from rfl) (by decide) (congrArg (fun z => z.2 0) (congrFun (congrFun (show (S5, Ω.2).1 = S5 from rfl) 11) 4)) 0 ((S5 11 4).1 1) hg7 (congrArg (fun z => (z, Ω.2)) eS8)) myX5_receive wm4_95 ⟨_, _, _, _, (hW.ok (k0 (by decide))), rfl, rfl, rfl, rfl⟩ rfl (kR rfl) (by decide) (kR rfl) rfl dX10_queueMessage_78 ?_
      refine r_aload_n C (k := 0) rfl rfl dX10_queueMessage_81 ?_
      refine og_7_5 C (hW.ok k7) wm2_164 dX10_queueMessage_82 ?_
      refine r_iconst C (v := 0) rfl dX10_queueMessage_85 ?_
      obtain ⟨S9, eS9, hF⟩ := lt_e hF
      refine opN_5_1 C hW.x (Or.inl k5) (hW.fr k5) (congrFun (congrFun (show (S8, Ω.2).1 = S8 from rfl) 11) 4) wm1_238 dX10_queueMessage_86 (congrArg (fun z => (z, Ω.2)) eS9) ?_
      refine r_aload_n C (k := 0) rfl rfl dX10_queueMessage_89 ?_
      refine og_7_0 C (hW.ok k7) wm2_159 dX10_queueMessage_90 ?_
      refine r_iload_n C (k := 1) rfl rfl dX10_queueMessage_93 ?_
      refine r_callV C (d' := 0) [.int a1] (c_X5_gardener hW (by decide) a1) myX5_gardener wm4_96 ⟨_, _, _, _, (hW.ok (k0 (by decide))), rfl, rfl, rfl, rfl⟩ rfl (kR rfl) (by decide) (kR rfl) rfl dX10_queueMessage_94 ?_
      refine ogN_1_2 C (hW.ok (k1 (by decide) gsel_12)) (congrFun (congrFun (show (S9, Ω.2).1 = S9 from rfl) 0) (gsel a1)) wm1_65 dX10_queueMessage_97 ?_
      cases hF
      exact r_ireturn C dX10_queueMessage_100
    · rw [if_neg (b2i_f hc)] at hF
      cases hF
  · rw [if_neg (b2i_f hc)] at hF
    cases hF
theorem x_X10_queueMessage {w : WP} (hW : gW w) (hS : gS w) (hZ : gZ w) {Ω : OM}  {S : Nat → Nat → HV} (e : Ω.1 = S) (N : Nat) (a1 : Int32) {k9 : Nat} {S' : Nat → Nat → HV} (hF : F_X10_queueMessage N a1 S = some (.inr (k9, S'))) {Ω' : OM} (e2 : (S', Ω.2) = Ω') : gMx w 7 yX10_queueMessage cX10_queueMessage 2 (some .int) [.ref (wAd w (7, 11, 6, 0)), .int a1] (cA w Ω) (xN k9) (cA w Ω') := by
  refine gMx_of "HedgeMessages" rfl (by decide) (kR rfl) fun X C hT9 => ?_
  unfold F_X10_queueMessage at hF
  subst e2
  show gU w X _ _ 0 [(0, .ref (wAd w (7, 11, 6, 0))), (1, .int a1)] []
  refine r_ct (ct' := cA w (S, Ω.2)) (by rw [← e]) ?_
  refine r_iload_n C (k := 1) rfl rfl dX10_queueMessage_0 ?_
  rcases ox_e hF with ⟨u1, hu1, hF⟩ | ⟨kx2, hkx2, hF⟩
  rotate_left
  · cases hF
    exact x_callS C hT9 (d' := 6) [.int a1] (x_X10_requireGardener hS hZ a1 hkx2) myX10_requireGardener wm4_84 rfl (kR rfl) (by decide) (kR rfl) rfl dX10_queueMessage_1
  refine r_callS C (d' := 6) [.int a1] (c_X10_requireGardener hS a1 hu1) myX10_requireGardener wm4_84 rfl (kR rfl) (by decide) (kR rfl) rfl dX10_queueMessage_1 ?_
  refine r_aload_n C (k := 0) rfl rfl dX10_queueMessage_4 ?_
  refine og_7_5 C (hW.ok k7) wm2_164 dX10_queueMessage_5 ?_
  obtain ⟨v3, hv3, hF⟩ := ob1_e hF
  refine r_callV C (d' := 1) [] (c_X9_isOneWord hW (congrFun (congrFun (show (S, Ω.2).1 = S from rfl) 11) 4) N hv3) myX9_isOneWord wm4_88 ⟨_, _, _, _, (hW.ok k5), rfl, rfl, rfl, rfl⟩ rfl (kR rfl) (by decide) (kR rfl) rfl dX10_queueMessage_8 ?_
  refine r_if_ne C (tgt := 25) rfl dX10_queueMessage_11 (fun hc => ?_) (fun hc => ?_)
  · rw [if_pos (b2i_t hc)] at hF
    refine r_aload_n C (k := 0) rfl rfl dX10_queueMessage_25 ?_
    refine og_7_0 C (hW.ok k7) wm2_159 dX10_queueMessage_26 ?_
    refine r_iload_n C (k := 1) rfl rfl dX10_queueMessage_29 ?_
    refine r_callV C (d' := 1) [.int a1] (c_X5_mayQueue hW (by decide) (congrFun (show (S, Ω.2).1 = S from rfl) 0) a1 rfl) myX5_mayQueue wm4_93 ⟨_, _, _, _, (hW.ok (k0 (by decide))), rfl, rfl, rfl, rfl⟩ rfl (kR rfl) (by decide) (kR rfl) rfl dX10_queueMessage_30 ?_
    refine r_if_ne C (tgt := 47) rfl dX10_queueMessage_33 (fun hc => ?_) (fun hc => ?_)
    · rw [if_pos (b2i_t hc)] at hF
      refine r_aload_n C (k := 0) rfl rfl dX10_queueMessage_47 ?_
      refine og_7_4 C (hW.ok k7) wm2_163 dX10_queueMessage_48 ?_
      refine r_aload_n C (k := 0) rfl rfl dX10_queueMessage_51 ?_
      refine og_7_0 C (hW.ok k7) wm2_159 dX10_queueMessage_52 ?_
      obtain ⟨S5, hS5, hF⟩ := ob1_e hF
      refine r_callV C (d' := 5) [.ref (wAd w (0, 0, 0, 0))] (c_X6_remember hW (show (S, Ω.2).1 = S from rfl) 0 (by decide) hS5 rfl) myX6_remember wm4_2 ⟨_, _, _, _, (hW.ok k8), rfl, rfl, rfl, rfl⟩ rfl (kR rfl) (by decide) (kR rfl) rfl dX10_queueMessage_55 ?_
      refine r_aload_n C (k := 0) rfl rfl dX10_queueMessage_58 ?_
      refine og_7_0 C (hW.ok k7) wm2_159 dX10_queueMessage_59 ?_
      refine r_iload_n C (k := 1) rfl rfl dX10_queueMessage_62 ?_
      refine r_aload_n C (k := 0) rfl rfl dX10_queueMessage_63 ?_
      refine og_7_5 C (hW.ok k7) wm2_164 dX10_queueMessage_64 ?_
      refine ogN_5_0 C (hW.ok k5) wm1_237 dX10_queueMessage_67 ?_
      refine r_iconst C (v := 0) rfl dX10_queueMessage_70 ?_
      refine r_aload_n C (k := 0) rfl rfl dX10_queueMessage_71 ?_
      refine og_7_5 C (hW.ok k7) wm2_164 dX10_queueMessage_72 ?_
      refine ogN_5_1 C (hW.ok k5) (congrFun (congrFun (show (S5, Ω.2).1 = S5 from rfl) 11) 4) wm1_238 dX10_queueMessage_75 ?_
      obtain ⟨g7, hg7, hF⟩ := lt_e hF
      obtain ⟨S8, eS8, hF⟩ := lt_e hF
      refine r_callV C (d' := 3) [.int a1, .ref (wAd w (3, 11, 4, 0)), .int 0, .int ((S5 11 4).1 1)] (c_X5_receive hW (by decide) (congrFun (show (S5, Ω.2).1 = S5 from rfl) 0) a1 (hW.ok (i := (3, 11, 4, 0)) q4) (hW.ok (i := (4, 11, 4, 0)) q4) (show rlen 4 0 = 800 from rfl) (by decide) (congrArg (fun z => z.2 0) (congrFun (congrFun (show (S5, Ω.2).1 = S5 from rfl) 11) 4)) 0 ((S5 11 4).1 1) hg7 (congrArg (fun z => (z, Ω.2)) eS8)) myX5_receive wm4_95 ⟨_, _, _, _, (hW.ok (k0 (by decide))), rfl, rfl, rfl, rfl⟩ rfl (kR rfl) (by decide) (kR rfl) rfl dX10_queueMessage_78 ?_
      refine r_aload_n C (k := 0) rfl rfl dX10_queueMessage_81 ?_
      refine og_7_5 C (hW.ok k7) wm2_164 dX10_queueMessage_82 ?_
      refine r_iconst C (v := 0) rfl dX10_queueMessage_85 ?_
      obtain ⟨S9, eS9, hF⟩ := lt_e hF
      refine opN_5_1 C hW.x (Or.inl k5) (hW.fr k5) (congrFun (congrFun (show (S8, Ω.2).1 = S8 from rfl) 11) 4) wm1_238 dX10_queueMessage_86 (congrArg (fun z => (z, Ω.2)) eS9) ?_
      refine r_aload_n C (k := 0) rfl rfl dX10_queueMessage_89 ?_
      refine og_7_0 C (hW.ok k7) wm2_159 dX10_queueMessage_90 ?_
      refine r_iload_n C (k := 1) rfl rfl dX10_queueMessage_93 ?_
      refine r_callV C (d' := 0) [.int a1] (c_X5_gardener hW (by decide) a1) myX5_gardener wm4_96 ⟨_, _, _, _, (hW.ok (k0 (by decide))), rfl, rfl, rfl, rfl⟩ rfl (kR rfl) (by decide) (kR rfl) rfl dX10_queueMessage_94 ?_
      refine ogN_1_2 C (hW.ok (k1 (by decide) gsel_12)) (congrFun (congrFun (show (S9, Ω.2).1 = S9 from rfl) 0) (gsel a1)) wm1_65 dX10_queueMessage_97 ?_
      cases hF
    · rw [if_neg (b2i_f hc)] at hF
      cases hF
      exact x_throwSW C hZ hT9 (by decide +kernel) xK1 rfl xI1 xO1 ((hS.s C).imp fun _ _ _ h => h.2.2.1 21 (by decide)) (kR rfl) (kR rfl) dX10_queueMessage_36 dX10_queueMessage_39 dX10_queueMessage_40 dX10_queueMessage_43 dX10_queueMessage_46
  · rw [if_neg (b2i_f hc)] at hF
    cases hF
    exact x_throwSW C hZ hT9 (by decide +kernel) xK2 rfl xI2 xO2 ((hS.s C).imp fun _ _ _ h => h.2.2.1 20 (by decide)) (kR rfl) (kR rfl) dX10_queueMessage_14 dX10_queueMessage_17 dX10_queueMessage_18 dX10_queueMessage_21 dX10_queueMessage_24
theorem dX10_cancelMessage_0 : decode cX10_cancelMessage 0 = .ok (.iload_n 1, 1) := by decide +kernel
theorem dX10_cancelMessage_1 : decode cX10_cancelMessage 1 = .ok (.invokestatic 179, 3) := by decide +kernel
theorem dX10_cancelMessage_4 : decode cX10_cancelMessage 4 = .ok (.aload_n 0, 1) := by decide +kernel
theorem dX10_cancelMessage_5 : decode cX10_cancelMessage 5 = .ok (.getfield 10, 3) := by decide +kernel
theorem dX10_cancelMessage_8 : decode cX10_cancelMessage 8 = .ok (.iload_n 1, 1) := by decide +kernel
theorem dX10_cancelMessage_9 : decode cX10_cancelMessage 9 = .ok (.iload_n 2, 1) := by decide +kernel
theorem dX10_cancelMessage_10 : decode cX10_cancelMessage 10 = .ok (.invokevirtual 353, 3) := by decide +kernel
theorem dX10_cancelMessage_13 : decode cX10_cancelMessage 13 = .ok (.ifCond .ne 14, 3) := by decide +kernel
theorem dX10_cancelMessage_16 : decode cX10_cancelMessage 16 = .ok (.new 357, 3) := by decide +kernel
theorem dX10_cancelMessage_19 : decode cX10_cancelMessage 19 = .ok (.dup, 1) := by decide +kernel
theorem dX10_cancelMessage_20 : decode cX10_cancelMessage 20 = .ok (.ldc_w 359, 3) := by decide +kernel
theorem dX10_cancelMessage_23 : decode cX10_cancelMessage 23 = .ok (.invokespecial 361, 3) := by decide +kernel
theorem dX10_cancelMessage_26 : decode cX10_cancelMessage 26 = .ok (.athrow, 1) := by decide +kernel
theorem dX10_cancelMessage_27 : decode cX10_cancelMessage 27 = .ok (.aload_n 0, 1) := by decide +kernel
theorem dX10_cancelMessage_28 : decode cX10_cancelMessage 28 = .ok (.getfield 25, 3) := by decide +kernel
theorem dX10_cancelMessage_31 : decode cX10_cancelMessage 31 = .ok (.aload_n 0, 1) := by decide +kernel
theorem dX10_cancelMessage_32 : decode cX10_cancelMessage 32 = .ok (.getfield 10, 3) := by decide +kernel
theorem dX10_cancelMessage_35 : decode cX10_cancelMessage 35 = .ok (.invokevirtual 114, 3) := by decide +kernel
theorem dX10_cancelMessage_38 : decode cX10_cancelMessage 38 = .ok (.aload_n 0, 1) := by decide +kernel
theorem dX10_cancelMessage_39 : decode cX10_cancelMessage 39 = .ok (.getfield 10, 3) := by decide +kernel
theorem dX10_cancelMessage_42 : decode cX10_cancelMessage 42 = .ok (.iload_n 1, 1) := by decide +kernel
theorem dX10_cancelMessage_43 : decode cX10_cancelMessage 43 = .ok (.invokevirtual 182, 3) := by decide +kernel
theorem dX10_cancelMessage_46 : decode cX10_cancelMessage 46 = .ok (.iload_n 2, 1) := by decide +kernel
theorem dX10_cancelMessage_47 : decode cX10_cancelMessage 47 = .ok (.invokevirtual 214, 3) := by decide +kernel
theorem dX10_cancelMessage_50 : decode cX10_cancelMessage 50 = .ok (.istore_n 3, 1) := by decide +kernel
theorem dX10_cancelMessage_51 : decode cX10_cancelMessage 51 = .ok (.aload_n 0, 1) := by decide +kernel
theorem dX10_cancelMessage_52 : decode cX10_cancelMessage 52 = .ok (.getfield 10, 3) := by decide +kernel
theorem dX10_cancelMessage_55 : decode cX10_cancelMessage 55 = .ok (.iload_n 1, 1) := by decide +kernel
theorem dX10_cancelMessage_56 : decode cX10_cancelMessage 56 = .ok (.invokevirtual 182, 3) := by decide +kernel
theorem dX10_cancelMessage_59 : decode cX10_cancelMessage 59 = .ok (.iload_n 2, 1) := by decide +kernel
theorem dX10_cancelMessage_60 : decode cX10_cancelMessage 60 = .ok (.invokevirtual 362, 3) := by decide +kernel
theorem dX10_cancelMessage_63 : decode cX10_cancelMessage 63 = .ok (.iload_n 3, 1) := by decide +kernel
theorem dX10_cancelMessage_64 : decode cX10_cancelMessage 64 = .ok (.ireturn, 1) := by decide +kernel
def F_X10_cancelMessage (a1 : Int32) (a2 : Int32) (S : Nat → Nat → HV) : Option ((Int32 × (Nat → Nat → HV)) ⊕ (Nat × (Nat → Nat → HV))) := (ox (F_X10_requireGardener a1) (fun k9 => some (.inr (k9, S))) fun u1 => (if (F_X5_mayCancel a1 a2 (S 0)) = true then (ob1 (F_X6_remember 0 S) fun S4 => (lt (F_X4_cancel a2 (S4 0 (gsel a1))) fun g6 => (lt (up S4 0 (up (S4 0) (gsel a1) g6)) fun S7 => some (.inl ((F_X4_lengthOf a2 (S4 0 (gsel a1))), S7))))) else some (.inr (3, S))))
theorem c_X10_cancelMessage {w : WP} (hW : gW w) (hS : gS w) {Ω : OM}  {S : Nat → Nat → HV} (e : Ω.1 = S) (a1 : Int32) (a2 : Int32) {v : Int32} {S' : Nat → Nat → HV} (hF : F_X10_cancelMessage a1 a2 S = some (.inl (v, S'))) {Ω' : OM} (e2 : (S', Ω.2) = Ω') : gM w 7 yX10_cancelMessage cX10_cancelMessage 4 (some .int) [.ref (wAd w (7, 11, 6, 0)), .int a1, .int a2] (cA w Ω) (some (.int v)) (cA w Ω') := by
  refine gM_of "HedgeMessages" rfl (by decide) (kR rfl) fun X C => ?_
  unfold F_X10_cancelMessage at hF
  subst e2
  show gV w X _ _ 0 [(0, .ref (wAd w (7, 11, 6, 0))), (1, .int a1), (2, .int a2)] []
  refine r_ct (ct' := cA w (S, Ω.2)) (by rw [← e]) ?_
  refine r_iload_n C (k := 1) rfl rfl dX10_cancelMessage_0 ?_
  rcases ox_e hF with ⟨u1, hu1, hF⟩ | ⟨kx2, hkx2, hF⟩
  rotate_left
  · cases hF
  refine r_callS C (d' := 6) [.int a1] (c_X10_requireGardener hS a1 hu1) myX10_requireGardener wm4_84 rfl (kR rfl) (by decide) (kR rfl) rfl dX10_cancelMessage_1 ?_
  refine r_aload_n C (k := 0) rfl rfl dX10_cancelMessage_4 ?_
  refine og_7_0 C (hW.ok k7) wm2_159 dX10_cancelMessage_5 ?_
  refine r_iload_n C (k := 1) rfl rfl dX10_cancelMessage_8 ?_
  refine r_iload_n C (k := 2) rfl rfl dX10_cancelMessage_9 ?_
  refine r_callV C (d' := 1) [.int a1, .int a2] (c_X5_mayCancel hW (by decide) (congrFun (show (S, Ω.2).1 = S from rfl) 0) a1 a2 rfl) myX5_mayCancel wm4_101 ⟨_, _, _, _, (hW.ok (k0 (by decide))), rfl, rfl, rfl, rfl⟩ rfl (kR rfl) (by decide) (kR rfl) rfl dX10_cancelMessage_10 ?_
  refine r_if_ne C (tgt := 27) rfl dX10_cancelMessage_13 (fun hc => ?_) (fun hc => ?_)
  · rw [if_pos (b2i_t hc)] at hF
    refine r_aload_n C (k := 0) rfl rfl dX10_cancelMessage_27 ?_
    refine og_7_4 C (hW.ok k7) wm2_163 dX10_cancelMessage_28 ?_
    refine r_aload_n C (k := 0) rfl rfl dX10_cancelMessage_31 ?_
    refine og_7_0 C (hW.ok k7) wm2_159 dX10_cancelMessage_32 ?_
    obtain ⟨S4, hS4, hF⟩ := ob1_e hF
    refine r_callV C (d' := 5) [.ref (wAd w (0, 0, 0, 0))] (c_X6_remember hW (show (S, Ω.2).1 = S from rfl) 0 (by decide) hS4 rfl) myX6_remember wm4_2 ⟨_, _, _, _, (hW.ok k8), rfl, rfl, rfl, rfl⟩ rfl (kR rfl) (by decide) (kR rfl) rfl dX10_cancelMessage_35 ?_
    refine r_aload_n C (k := 0) rfl rfl dX10_cancelMessage_38 ?_
    refine og_7_0 C (hW.ok k7) wm2_159 dX10_cancelMessage_39 ?_
    refine r_iload_n C (k := 1) rfl rfl dX10_cancelMessage_42 ?_
    refine r_callV C (d' := 0) [.int a1] (c_X5_gardener hW (by decide) a1) myX5_gardener wm4_96 ⟨_, _, _, _, (hW.ok (k0 (by decide))), rfl, rfl, rfl, rfl⟩ rfl (kR rfl) (by decide) (kR rfl) rfl dX10_cancelMessage_43 ?_
    refine r_iload_n C (k := 2) rfl rfl dX10_cancelMessage_46 ?_
    refine r_callV C (d' := 1) [.int a2] (c_X4_lengthOf hW (by decide) gsel_12 (congrFun (congrFun (show (S4, Ω.2).1 = S4 from rfl) 0) (gsel a1)) a2 rfl) myX4_lengthOf wm4_110 ⟨_, _, _, _, (hW.ok (k1 (by decide) gsel_12)), rfl, rfl, rfl, rfl⟩ rfl (kR rfl) (by decide) (kR rfl) rfl dX10_cancelMessage_47 ?_
    refine r_istore_n C (lo' := [(3, .int (F_X4_lengthOf a2 (S4 0 (gsel a1)))), (0, .ref (wAd w (7, 11, 6, 0))), (1, .int a1), (2, .int a2)]) rfl (by decide) rfl dX10_cancelMessage_50 ?_
    refine r_aload_n C (k := 1) rfl rfl dX10_cancelMessage_51 ?_
    refine og_7_0 C (hW.ok k7) wm2_159 dX10_cancelMessage_52 ?_
    refine r_iload_n C (k := 2) rfl rfl dX10_cancelMessage_55 ?_
    refine r_callV C (d' := 0) [.int a1] (c_X5_gardener hW (by decide) a1) myX5_gardener wm4_96 ⟨_, _, _, _, (hW.ok (k0 (by decide))), rfl, rfl, rfl, rfl⟩ rfl (kR rfl) (by decide) (kR rfl) rfl dX10_cancelMessage_56 ?_
    refine r_iload_n C (k := 3) rfl rfl dX10_cancelMessage_59 ?_
    obtain ⟨g6, hg6, hF⟩ := lt_e hF
    obtain ⟨S7, eS7, hF⟩ := lt_e hF
    refine r_callV C (d' := 3) [.int a2] (c_X4_cancel hW (by decide) gsel_12 (congrFun (congrFun (show (S4, Ω.2).1 = S4 from rfl) 0) (gsel a1)) a2 hg6 (congrArg (fun z => (z, Ω.2)) eS7)) myX4_cancel wm4_116 ⟨_, _, _, _, (hW.ok (k1 (by decide) gsel_12)), rfl, rfl, rfl, rfl⟩ rfl (kR rfl) (by decide) (kR rfl) rfl dX10_cancelMessage_60 ?_
    refine r_iload_n C (k := 0) rfl rfl dX10_cancelMessage_63 ?_
    cases hF
    exact r_ireturn C dX10_cancelMessage_64
  · rw [if_neg (b2i_f hc)] at hF
    cases hF
theorem x_X10_cancelMessage {w : WP} (hW : gW w) (hS : gS w) (hZ : gZ w) {Ω : OM}  {S : Nat → Nat → HV} (e : Ω.1 = S) (a1 : Int32) (a2 : Int32) {k9 : Nat} {S' : Nat → Nat → HV} (hF : F_X10_cancelMessage a1 a2 S = some (.inr (k9, S'))) {Ω' : OM} (e2 : (S', Ω.2) = Ω') : gMx w 7 yX10_cancelMessage cX10_cancelMessage 4 (some .int) [.ref (wAd w (7, 11, 6, 0)), .int a1, .int a2] (cA w Ω) (xN k9) (cA w Ω') := by
  refine gMx_of "HedgeMessages" rfl (by decide) (kR rfl) fun X C hT9 => ?_
  unfold F_X10_cancelMessage at hF
  subst e2
  show gU w X _ _ 0 [(0, .ref (wAd w (7, 11, 6, 0))), (1, .int a1), (2, .int a2)] []
  refine r_ct (ct' := cA w (S, Ω.2)) (by rw [← e]) ?_
  refine r_iload_n C (k := 1) rfl rfl dX10_cancelMessage_0 ?_
  rcases ox_e hF with ⟨u1, hu1, hF⟩ | ⟨kx2, hkx2, hF⟩
  rotate_left
  · cases hF
    exact x_callS C hT9 (d' := 6) [.int a1] (x_X10_requireGardener hS hZ a1 hkx2) myX10_requireGardener wm4_84 rfl (kR rfl) (by decide) (kR rfl) rfl dX10_cancelMessage_1
  refine r_callS C (d' := 6) [.int a1] (c_X10_requireGardener hS a1 hu1) myX10_requireGardener wm4_84 rfl (kR rfl) (by decide) (kR rfl) rfl dX10_cancelMessage_1 ?_
  refine r_aload_n C (k := 0) rfl rfl dX10_cancelMessage_4 ?_
  refine og_7_0 C (hW.ok k7) wm2_159 dX10_cancelMessage_5 ?_
  refine r_iload_n C (k := 1) rfl rfl dX10_cancelMessage_8 ?_
  refine r_iload_n C (k := 2) rfl rfl dX10_cancelMessage_9 ?_
  refine r_callV C (d' := 1) [.int a1, .int a2] (c_X5_mayCancel hW (by decide) (congrFun (show (S, Ω.2).1 = S from rfl) 0) a1 a2 rfl) myX5_mayCancel wm4_101 ⟨_, _, _, _, (hW.ok (k0 (by decide))), rfl, rfl, rfl, rfl⟩ rfl (kR rfl) (by decide) (kR rfl) rfl dX10_cancelMessage_10 ?_
  refine r_if_ne C (tgt := 27) rfl dX10_cancelMessage_13 (fun hc => ?_) (fun hc => ?_)
  · rw [if_pos (b2i_t hc)] at hF
    refine r_aload_n C (k := 0) rfl rfl dX10_cancelMessage_27 ?_
    refine og_7_4 C (hW.ok k7) wm2_163 dX10_cancelMessage_28 ?_
    refine r_aload_n C (k := 0) rfl rfl dX10_cancelMessage_31 ?_
    refine og_7_0 C (hW.ok k7) wm2_159 dX10_cancelMessage_32 ?_
    obtain ⟨S4, hS4, hF⟩ := ob1_e hF
    refine r_callV C (d' := 5) [.ref (wAd w (0, 0, 0, 0))] (c_X6_remember hW (show (S, Ω.2).1 = S from rfl) 0 (by decide) hS4 rfl) myX6_remember wm4_2 ⟨_, _, _, _, (hW.ok k8), rfl, rfl, rfl, rfl⟩ rfl (kR rfl) (by decide) (kR rfl) rfl dX10_cancelMessage_35 ?_
    refine r_aload_n C (k := 0) rfl rfl dX10_cancelMessage_38 ?_
    refine og_7_0 C (hW.ok k7) wm2_159 dX10_cancelMessage_39 ?_
    refine r_iload_n C (k := 1) rfl rfl dX10_cancelMessage_42 ?_
    refine r_callV C (d' := 0) [.int a1] (c_X5_gardener hW (by decide) a1) myX5_gardener wm4_96 ⟨_, _, _, _, (hW.ok (k0 (by decide))), rfl, rfl, rfl, rfl⟩ rfl (kR rfl) (by decide) (kR rfl) rfl dX10_cancelMessage_43 ?_
    refine r_iload_n C (k := 2) rfl rfl dX10_cancelMessage_46 ?_
    refine r_callV C (d' := 1) [.int a2] (c_X4_lengthOf hW (by decide) gsel_12 (congrFun (congrFun (show (S4, Ω.2).1 = S4 from rfl) 0) (gsel a1)) a2 rfl) myX4_lengthOf wm4_110 ⟨_, _, _, _, (hW.ok (k1 (by decide) gsel_12)), rfl, rfl, rfl, rfl⟩ rfl (kR rfl) (by decide) (kR rfl) rfl dX10_cancelMessage_47 ?_
    refine r_istore_n C (lo' := [(3, .int (F_X4_lengthOf a2 (S4 0 (gsel a1)))), (0, .ref (wAd w (7, 11, 6, 0))), (1, .int a1), (2, .int a2)]) rfl (by decide) rfl dX10_cancelMessage_50 ?_
    refine r_aload_n C (k := 1) rfl rfl dX10_cancelMessage_51 ?_
    refine og_7_0 C (hW.ok k7) wm2_159 dX10_cancelMessage_52 ?_
    refine r_iload_n C (k := 2) rfl rfl dX10_cancelMessage_55 ?_
    refine r_callV C (d' := 0) [.int a1] (c_X5_gardener hW (by decide) a1) myX5_gardener wm4_96 ⟨_, _, _, _, (hW.ok (k0 (by decide))), rfl, rfl, rfl, rfl⟩ rfl (kR rfl) (by decide) (kR rfl) rfl dX10_cancelMessage_56 ?_
    refine r_iload_n C (k := 3) rfl rfl dX10_cancelMessage_59 ?_
    obtain ⟨g6, hg6, hF⟩ := lt_e hF
    obtain ⟨S7, eS7, hF⟩ := lt_e hF
    refine r_callV C (d' := 3) [.int a2] (c_X4_cancel hW (by decide) gsel_12 (congrFun (congrFun (show (S4, Ω.2).1 = S4 from rfl) 0) (gsel a1)) a2 hg6 (congrArg (fun z => (z, Ω.2)) eS7)) myX4_cancel wm4_116 ⟨_, _, _, _, (hW.ok (k1 (by decide) gsel_12)), rfl, rfl, rfl, rfl⟩ rfl (kR rfl) (by decide) (kR rfl) rfl dX10_cancelMessage_60 ?_
    refine r_iload_n C (k := 0) rfl rfl dX10_cancelMessage_63 ?_
    cases hF
  · rw [if_neg (b2i_f hc)] at hF
    cases hF
    exact x_throwSW C hZ hT9 (by decide +kernel) xK3 rfl xI3 xO3 ((hS.s C).imp fun _ _ _ h => h.2.2.1 22 (by decide)) (kR rfl) (kR rfl) dX10_cancelMessage_16 dX10_cancelMessage_19 dX10_cancelMessage_20 dX10_cancelMessage_23 dX10_cancelMessage_26
theorem dX10_setWorkLimit_0 : decode cX10_setWorkLimit 0 = .ok (.iload_n 1, 1) := by decide +kernel
theorem dX10_setWorkLimit_1 : decode cX10_setWorkLimit 1 = .ok (.iconst 1, 1) := by decide +kernel
theorem dX10_setWorkLimit_2 : decode cX10_setWorkLimit 2 = .ok (.if_icmp .lt 9, 3) := by decide +kernel
theorem dX10_setWorkLimit_5 : decode cX10_setWorkLimit 5 = .ok (.iload_n 1, 1) := by decide +kernel
theorem dX10_setWorkLimit_6 : decode cX10_setWorkLimit 6 = .ok (.bipush 12, 2) := by decide +kernel
theorem dX10_setWorkLimit_8 : decode cX10_setWorkLimit 8 = .ok (.if_icmp .le 14, 3) := by decide +kernel
theorem dX10_setWorkLimit_11 : decode cX10_setWorkLimit 11 = .ok (.new 88, 3) := by decide +kernel
theorem dX10_setWorkLimit_14 : decode cX10_setWorkLimit 14 = .ok (.dup, 1) := by decide +kernel
theorem dX10_setWorkLimit_15 : decode cX10_setWorkLimit 15 = .ok (.ldc_w 365, 3) := by decide +kernel
theorem dX10_setWorkLimit_18 : decode cX10_setWorkLimit 18 = .ok (.invokespecial 92, 3) := by decide +kernel
theorem dX10_setWorkLimit_21 : decode cX10_setWorkLimit 21 = .ok (.athrow, 1) := by decide +kernel
theorem dX10_setWorkLimit_22 : decode cX10_setWorkLimit 22 = .ok (.aload_n 0, 1) := by decide +kernel
theorem dX10_setWorkLimit_23 : decode cX10_setWorkLimit 23 = .ok (.getfield 25, 3) := by decide +kernel
theorem dX10_setWorkLimit_26 : decode cX10_setWorkLimit 26 = .ok (.aload_n 0, 1) := by decide +kernel
theorem dX10_setWorkLimit_27 : decode cX10_setWorkLimit 27 = .ok (.getfield 10, 3) := by decide +kernel
theorem dX10_setWorkLimit_30 : decode cX10_setWorkLimit 30 = .ok (.invokevirtual 114, 3) := by decide +kernel
theorem dX10_setWorkLimit_33 : decode cX10_setWorkLimit 33 = .ok (.aload_n 0, 1) := by decide +kernel
theorem dX10_setWorkLimit_34 : decode cX10_setWorkLimit 34 = .ok (.getfield 10, 3) := by decide +kernel
theorem dX10_setWorkLimit_37 : decode cX10_setWorkLimit 37 = .ok (.getfield 139, 3) := by decide +kernel
theorem dX10_setWorkLimit_40 : decode cX10_setWorkLimit 40 = .ok (.istore_n 2, 1) := by decide +kernel
theorem dX10_setWorkLimit_41 : decode cX10_setWorkLimit 41 = .ok (.aload_n 0, 1) := by decide +kernel
theorem dX10_setWorkLimit_42 : decode cX10_setWorkLimit 42 = .ok (.getfield 10, 3) := by decide +kernel
theorem dX10_setWorkLimit_45 : decode cX10_setWorkLimit 45 = .ok (.iload_n 1, 1) := by decide +kernel
theorem dX10_setWorkLimit_46 : decode cX10_setWorkLimit 46 = .ok (.putfield 139, 3) := by decide +kernel
theorem dX10_setWorkLimit_49 : decode cX10_setWorkLimit 49 = .ok (.iload_n 2, 1) := by decide +kernel
theorem dX10_setWorkLimit_50 : decode cX10_setWorkLimit 50 = .ok (.ireturn, 1) := by decide +kernel
def F_X10_setWorkLimit (a1 : Int32) (S : Nat → Nat → HV) : Option ((Int32 × (Nat → Nat → HV)) ⊕ (Nat × (Nat → Nat → HV))) := (if a1 < 1 then some (.inr (2, S)) else (if a1 ≤ 12 then (ob1 (F_X6_remember 0 S) fun S2 => (lt (up S2 0 (up (S2 0) 0 (sS (S2 0 0) 1 a1))) fun S3 => some (.inl (((S2 0 0).1 1), S3)))) else some (.inr (2, S))))
theorem c_X10_setWorkLimit {w : WP} (hW : gW w) (hS : gS w) {Ω : OM}  {S : Nat → Nat → HV} (e : Ω.1 = S) (a1 : Int32) {v : Int32} {S' : Nat → Nat → HV} (hF : F_X10_setWorkLimit a1 S = some (.inl (v, S'))) {Ω' : OM} (e2 : (S', Ω.2) = Ω') : gM w 6 yX10_setWorkLimit cX10_setWorkLimit 3 (some .int) [.ref (wAd w (7, 11, 6, 0)), .int a1] (cA w Ω) (some (.int v)) (cA w Ω') := by
  refine gM_of "HedgeMessages" rfl (by decide) (kR rfl) fun X C => ?_
  unfold F_X10_setWorkLimit at hF
  subst e2
  show gV w X _ _ 0 [(0, .ref (wAd w (7, 11, 6, 0))), (1, .int a1)] []
  refine r_ct (ct' := cA w (S, Ω.2)) (by rw [← e]) ?_
  refine r_iload_n C (k := 1) rfl rfl dX10_setWorkLimit_0 ?_
  refine r_iconst C (v := 1) rfl dX10_setWorkLimit_1 ?_
  refine r_icmp_lt C (tgt := 11) rfl dX10_setWorkLimit_2 (fun hc => ?_) (fun hc => ?_)
  · rw [if_pos hc] at hF
    cases hF
  · rw [if_neg hc] at hF
    refine r_iload_n C (k := 1) rfl rfl dX10_setWorkLimit_5 ?_
    refine r_bipush C (v := 12) rfl dX10_setWorkLimit_6 ?_
    refine r_icmp_le C (tgt := 22) rfl dX10_setWorkLimit_8 (fun hc => ?_) (fun hc => ?_)
    · rw [if_pos hc] at hF
      refine r_aload_n C (k := 0) rfl rfl dX10_setWorkLimit_22 ?_
      refine og_7_4 C (hW.ok k7) wm2_163 dX10_setWorkLimit_23 ?_
      refine r_aload_n C (k := 0) rfl rfl dX10_setWorkLimit_26 ?_
      refine og_7_0 C (hW.ok k7) wm2_159 dX10_setWorkLimit_27 ?_
      obtain ⟨S2, hS2, hF⟩ := ob1_e hF
      refine r_callV C (d' := 5) [.ref (wAd w (0, 0, 0, 0))] (c_X6_remember hW (show (S, Ω.2).1 = S from rfl) 0 (by decide) hS2 rfl) myX6_remember wm4_2 ⟨_, _, _, _, (hW.ok k8), rfl, rfl, rfl, rfl⟩ rfl (kR rfl) (by decide) (kR rfl) rfl dX10_setWorkLimit_30 ?_
      refine r_aload_n C (k := 0) rfl rfl dX10_setWorkLimit_33 ?_
      refine og_7_0 C (hW.ok k7) wm2_159 dX10_setWorkLimit_34 ?_
      refine ogN_0_1 C (hW.ok (k0 (by decide))) (congrFun (congrFun (show (S2, Ω.2).1 = S2 from rfl) 0) 0) wm1_137 dX10_setWorkLimit_37 ?_
      refine r_istore_n C (lo' := [(2, .int ((S2 0 0).1 1)), (0, .ref (wAd w (7, 11, 6, 0))), (1, .int a1)]) rfl (by decide) rfl dX10_setWorkLimit_40 ?_
      refine r_aload_n C (k := 1) rfl rfl dX10_setWorkLimit_41 ?_
      refine og_7_0 C (hW.ok k7) wm2_159 dX10_setWorkLimit_42 ?_
      refine r_iload_n C (k := 2) rfl rfl dX10_setWorkLimit_45 ?_
      obtain ⟨S3, eS3, hF⟩ := lt_e hF
      refine opN_0_1 C hW.x (Or.inl (k0 (by decide))) (hW.fr (k0 (by decide))) (congrFun (congrFun (show (S2, Ω.2).1 = S2 from rfl) 0) 0) wm1_137 dX10_setWorkLimit_46 (congrArg (fun z => (z, Ω.2)) eS3) ?_
      refine r_iload_n C (k := 0) rfl rfl dX10_setWorkLimit_49 ?_
      cases hF
      exact r_ireturn C dX10_setWorkLimit_50
    · rw [if_neg hc] at hF
      cases hF
theorem x_X10_setWorkLimit {w : WP} (hW : gW w) (hS : gS w) (hZ : gZ w) {Ω : OM}  {S : Nat → Nat → HV} (e : Ω.1 = S) (a1 : Int32) {k9 : Nat} {S' : Nat → Nat → HV} (hF : F_X10_setWorkLimit a1 S = some (.inr (k9, S'))) {Ω' : OM} (e2 : (S', Ω.2) = Ω') : gMx w 6 yX10_setWorkLimit cX10_setWorkLimit 3 (some .int) [.ref (wAd w (7, 11, 6, 0)), .int a1] (cA w Ω) (xN k9) (cA w Ω') := by
  refine gMx_of "HedgeMessages" rfl (by decide) (kR rfl) fun X C hT9 => ?_
  unfold F_X10_setWorkLimit at hF
  subst e2
  show gU w X _ _ 0 [(0, .ref (wAd w (7, 11, 6, 0))), (1, .int a1)] []
  refine r_ct (ct' := cA w (S, Ω.2)) (by rw [← e]) ?_
  refine r_iload_n C (k := 1) rfl rfl dX10_setWorkLimit_0 ?_
  refine r_iconst C (v := 1) rfl dX10_setWorkLimit_1 ?_
  refine r_icmp_lt C (tgt := 11) rfl dX10_setWorkLimit_2 (fun hc => ?_) (fun hc => ?_)
  · rw [if_pos hc] at hF
    cases hF
    exact x_throwSW C hZ hT9 (by decide +kernel) xK2 rfl xI2 xO2 ((hS.s C).imp fun _ _ _ h => h.2.2.1 23 (by decide)) (kR rfl) (kR rfl) dX10_setWorkLimit_11 dX10_setWorkLimit_14 dX10_setWorkLimit_15 dX10_setWorkLimit_18 dX10_setWorkLimit_21
  · rw [if_neg hc] at hF
    refine r_iload_n C (k := 1) rfl rfl dX10_setWorkLimit_5 ?_
    refine r_bipush C (v := 12) rfl dX10_setWorkLimit_6 ?_
    refine r_icmp_le C (tgt := 22) rfl dX10_setWorkLimit_8 (fun hc => ?_) (fun hc => ?_)
    · rw [if_pos hc] at hF
      refine r_aload_n C (k := 0) rfl rfl dX10_setWorkLimit_22 ?_
      refine og_7_4 C (hW.ok k7) wm2_163 dX10_setWorkLimit_23 ?_
      refine r_aload_n C (k := 0) rfl rfl dX10_setWorkLimit_26 ?_
      refine og_7_0 C (hW.ok k7) wm2_159 dX10_setWorkLimit_27 ?_
      obtain ⟨S2, hS2, hF⟩ := ob1_e hF
      refine r_callV C (d' := 5) [.ref (wAd w (0, 0, 0, 0))] (c_X6_remember hW (show (S, Ω.2).1 = S from rfl) 0 (by decide) hS2 rfl) myX6_remember wm4_2 ⟨_, _, _, _, (hW.ok k8), rfl, rfl, rfl, rfl⟩ rfl (kR rfl) (by decide) (kR rfl) rfl dX10_setWorkLimit_30 ?_
      refine r_aload_n C (k := 0) rfl rfl dX10_setWorkLimit_33 ?_
      refine og_7_0 C (hW.ok k7) wm2_159 dX10_setWorkLimit_34 ?_
      refine ogN_0_1 C (hW.ok (k0 (by decide))) (congrFun (congrFun (show (S2, Ω.2).1 = S2 from rfl) 0) 0) wm1_137 dX10_setWorkLimit_37 ?_
      refine r_istore_n C (lo' := [(2, .int ((S2 0 0).1 1)), (0, .ref (wAd w (7, 11, 6, 0))), (1, .int a1)]) rfl (by decide) rfl dX10_setWorkLimit_40 ?_
      refine r_aload_n C (k := 1) rfl rfl dX10_setWorkLimit_41 ?_
      refine og_7_0 C (hW.ok k7) wm2_159 dX10_setWorkLimit_42 ?_
      refine r_iload_n C (k := 2) rfl rfl dX10_setWorkLimit_45 ?_
      obtain ⟨S3, eS3, hF⟩ := lt_e hF
      refine opN_0_1 C hW.x (Or.inl (k0 (by decide))) (hW.fr (k0 (by decide))) (congrFun (congrFun (show (S2, Ω.2).1 = S2 from rfl) 0) 0) wm1_137 dX10_setWorkLimit_46 (congrArg (fun z => (z, Ω.2)) eS3) ?_
      refine r_iload_n C (k := 0) rfl rfl dX10_setWorkLimit_49 ?_
      cases hF
    · rw [if_neg hc] at hF
      cases hF
      exact x_throwSW C hZ hT9 (by decide +kernel) xK2 rfl xI2 xO2 ((hS.s C).imp fun _ _ _ h => h.2.2.1 23 (by decide)) (kR rfl) (kR rfl) dX10_setWorkLimit_11 dX10_setWorkLimit_14 dX10_setWorkLimit_15 dX10_setWorkLimit_18 dX10_setWorkLimit_21
