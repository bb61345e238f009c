/-! ===== 32.words: printed by wip/whole/gen.py ===== -/
theorem dX9_isWord_0 : decode cX9_isWord 0 = .ok (.aload_n 0, 1) := by decide +kernel
theorem dX9_isWord_1 : decode cX9_isWord 1 = .ok (.getfield 48, 3) := by decide +kernel
theorem dX9_isWord_4 : decode cX9_isWord 4 = .ok (.iconst 1, 1) := by decide +kernel
theorem dX9_isWord_5 : decode cX9_isWord 5 = .ok (.if_icmp .ne 14, 3) := by decide +kernel
theorem dX9_isWord_8 : decode cX9_isWord 8 = .ok (.aload_n 0, 1) := by decide +kernel
theorem dX9_isWord_9 : decode cX9_isWord 9 = .ok (.getfield 54, 3) := by decide +kernel
theorem dX9_isWord_12 : decode cX9_isWord 12 = .ok (.aload_n 1, 1) := by decide +kernel
theorem dX9_isWord_13 : decode cX9_isWord 13 = .ok (.invokevirtual 57, 3) := by decide +kernel
theorem dX9_isWord_16 : decode cX9_isWord 16 = .ok (.if_icmp .eq 5, 3) := by decide +kernel
theorem dX9_isWord_19 : decode cX9_isWord 19 = .ok (.iconst 0, 1) := by decide +kernel
theorem dX9_isWord_20 : decode cX9_isWord 20 = .ok (.ireturn, 1) := by decide +kernel
theorem dX9_isWord_21 : decode cX9_isWord 21 = .ok (.iconst 0, 1) := by decide +kernel
theorem dX9_isWord_22 : decode cX9_isWord 22 = .ok (.istore_n 2, 1) := by decide +kernel
theorem dX9_isWord_23 : decode cX9_isWord 23 = .ok (.iload_n 2, 1) := by decide +kernel
theorem dX9_isWord_24 : decode cX9_isWord 24 = .ok (.aload_n 1, 1) := by decide +kernel
theorem dX9_isWord_25 : decode cX9_isWord 25 = .ok (.invokevirtual 57, 3) := by decide +kernel
theorem dX9_isWord_28 : decode cX9_isWord 28 = .ok (.if_icmp .ge 32, 3) := by decide +kernel
theorem dX9_isWord_31 : decode cX9_isWord 31 = .ok (.aload_n 0, 1) := by decide +kernel
theorem dX9_isWord_32 : decode cX9_isWord 32 = .ok (.getfield 14, 3) := by decide +kernel
theorem dX9_isWord_35 : decode cX9_isWord 35 = .ok (.aload_n 0, 1) := by decide +kernel
theorem dX9_isWord_36 : decode cX9_isWord 36 = .ok (.getfield 45, 3) := by decide +kernel
theorem dX9_isWord_39 : decode cX9_isWord 39 = .ok (.iload_n 2, 1) := by decide +kernel
theorem dX9_isWord_40 : decode cX9_isWord 40 = .ok (.iadd, 1) := by decide +kernel
theorem dX9_isWord_41 : decode cX9_isWord 41 = .ok (.invokevirtual 31, 3) := by decide +kernel
theorem dX9_isWord_44 : decode cX9_isWord 44 = .ok (.aload_n 1, 1) := by decide +kernel
theorem dX9_isWord_45 : decode cX9_isWord 45 = .ok (.iload_n 2, 1) := by decide +kernel
theorem dX9_isWord_46 : decode cX9_isWord 46 = .ok (.invokevirtual 62, 3) := by decide +kernel
theorem dX9_isWord_49 : decode cX9_isWord 49 = .ok (.if_icmp .eq 5, 3) := by decide +kernel
theorem dX9_isWord_52 : decode cX9_isWord 52 = .ok (.iconst 0, 1) := by decide +kernel
theorem dX9_isWord_53 : decode cX9_isWord 53 = .ok (.ireturn, 1) := by decide +kernel
theorem dX9_isWord_54 : decode cX9_isWord 54 = .ok (.iinc 2 1, 3) := by decide +kernel
theorem dX9_isWord_57 : decode cX9_isWord 57 = .ok (.goto (-34), 3) := by decide +kernel
theorem dX9_isWord_60 : decode cX9_isWord 60 = .ok (.iconst 1, 1) := by decide +kernel
theorem dX9_isWord_61 : decode cX9_isWord 61 = .ok (.ireturn, 1) := by decide +kernel
def st_X9_isWord_23 (N : Nat) (sx : Nat) (l2 : Int32) (g : HV) : Option ((Int32) ⊕ (Bool)) := (if (nI (sTx sx).length) ≤ l2 then some (.inr true) else (if vpb l2 (sTx sx).length = true then (if (rget 800 (g.2 0) ((g.1 4) + l2)) = (sCh sx l2) then some (.inl (l2 + 1)) else some (.inr false)) else none))
def F_X9_isWord (N : Nat) (sx : Nat) (g : HV) : Option (Bool) := (if (g.1 3) = 1 then (if (g.1 5) = (nI (sTx sx).length) then (lpN N (fun z => st_X9_isWord_23 N sx z g) (0)) else some false) else some false)
theorem lp_X9_isWord_23 {w : WP} (hW : gW w) (hS : gS w) {Ω : OM}  {g : HV} (e : Ω.1 11 4 = g) (sx : Nat) (hsx : sx < 46)  {N : Nat} {X : CX} (C : gC w X cX9_isWord "HedgeMessages$Text" (some .boolean) 4 3) {v : Bool}  : ∀ (n : Nat) (l2 : Int32), lpN n (fun z : Int32 => st_X9_isWord_23 N sx z g) (l2) = some v → gV w X (some (.int (b2i v)), cA w Ω) (cA w Ω) 23 [(0, .ref (wAd w (5, 11, 4, 0))), (1, .ref (wAd w (15, sx, 0, 0))), (2, .int l2)] [] := by
  intro n
  induction n with
  | zero => intro l2 hL; exact lpN_0 hL
  | succ n ih =>
    intro l2 hL
    obtain ⟨q9, hF, hL⟩ := lpN_e hL
    change st_X9_isWord_23 N sx l2 g = some q9 at hF
    unfold st_X9_isWord_23 at hF
    refine r_iload_n C (k := 2) rfl rfl dX9_isWord_23 ?_
    refine r_aload_n C (k := 1) rfl rfl dX9_isWord_24 ?_
    refine r_callE C (d' := 1) [] (c_slen hS hsx) myJ0_length_8abf5 wm4_48 ((hS.s C).imp fun _ _ _ h => (h.2.2.2 sx hsx).1) rfl (kR rfl) (by decide) (kR rfl) rfl dX9_isWord_25 ?_
    refine r_icmp_ge C (tgt := 60) rfl dX9_isWord_28 (fun hc => ?_) (fun hc => ?_)
    · rw [if_pos hc] at hF
      refine r_iconst C (v := 1) rfl dX9_isWord_60 ?_
      cases hF
      change some _ = some _ at hL
      cases hL
      exact r_zreturn C true rfl dX9_isWord_61
    · rw [if_neg hc] at hF
      refine r_aload_n C (k := 0) rfl rfl dX9_isWord_31 ?_
      refine og_5_0 C (hW.ok k5) wm1_234 dX9_isWord_32 ?_
      refine r_aload_n C (k := 0) rfl rfl dX9_isWord_35 ?_
      refine og_5_4 C (hW.ok k5) e wm2_1 dX9_isWord_36 ?_
      refine r_iload_n C (k := 2) rfl rfl dX9_isWord_39 ?_
      refine r_iadd C dX9_isWord_40 ?_
      refine r_callV C (d' := 0) [.int ((g.1 4) + l2)] (c_rget (hW.ok (i := (3, 11, 4, 0)) q4) (hW.ok (i := (4, 11, 4, 0)) q4) (show rlen 4 0 = 800 from rfl) (by decide) (congrArg (fun z => z.2 0) e) rfl) myX8_get wm4_36 ⟨_, _, _, _, (hW.ok (i := (3, 11, 4, 0)) q4), rfl, rfl, rfl, rfl⟩ rfl (kR rfl) (by decide) (kR rfl) rfl dX9_isWord_41 ?_
      refine r_aload_n C (k := 1) rfl rfl dX9_isWord_44 ?_
      refine r_iload_n C (k := 2) rfl rfl dX9_isWord_45 ?_
      obtain ⟨b1, hF⟩ := gd_e hF
      refine r_callE C (d' := 3) [.int l2] (c_charAt hS hsx (vpb_in b1)) myJ0_charAt_5068e wm4_49 ((hS.s C).imp fun _ _ _ h => (h.2.2.2 sx hsx).1) rfl (kR rfl) (by decide) (kR rfl) rfl dX9_isWord_46 ?_
      refine r_icmp_eq C (tgt := 54) rfl dX9_isWord_49 (fun hc => ?_) (fun hc => ?_)
      · rw [if_pos hc] at hF
        refine r_iinc C (k := 2) (v := (l2 + 1)) (lo' := [(2, .int (l2 + 1)), (0, .ref (wAd w (5, 11, 4, 0))), (1, .ref (wAd w (15, sx, 0, 0)))]) rfl rfl (by decide) rfl dX9_isWord_54 ?_
        refine r_goto C (tgt := 23) rfl dX9_isWord_57 ?_
        cases hF
        change lpN n _ _ = some _ at hL
        refine r_lo [1, 2, 0] (lo' := [(0, .ref (wAd w (5, 11, 4, 0))), (1, .ref (wAd w (15, sx, 0, 0))), (2, .int (l2 + 1))]) rfl ?_
        exact ih (l2 + 1) hL
      · rw [if_neg hc] at hF
        refine r_iconst C (v := 0) rfl dX9_isWord_52 ?_
        cases hF
        change some _ = some _ at hL
        cases hL
        exact r_zreturn C false rfl dX9_isWord_53
theorem c_X9_isWord {w : WP} (hW : gW w) (hS : gS w) {Ω : OM}  {g : HV} (e : Ω.1 11 4 = g) (N : Nat) (sx : Nat) (hsx : sx < 46) {v : Bool} (hF : F_X9_isWord N sx g = some v) : gM w 4 yX9_isWord cX9_isWord 3 (some .boolean) [.ref (wAd w (5, 11, 4, 0)), .ref (wAd w (15, sx, 0, 0))] (cA w Ω) (some (.int (b2i v))) (cA w Ω) := by
  refine gM_of "HedgeMessages$Text" rfl (by decide) (kR rfl) fun X C => ?_
  unfold F_X9_isWord at hF
  show gV w X _ _ 0 [(0, .ref (wAd w (5, 11, 4, 0))), (1, .ref (wAd w (15, sx, 0, 0)))] []
  refine r_aload_n C (k := 0) rfl rfl dX9_isWord_0 ?_
  refine og_5_3 C (hW.ok k5) e wm2_0 dX9_isWord_1 ?_
  refine r_iconst C (v := 1) rfl dX9_isWord_4 ?_
  refine r_icmp_ne C (tgt := 19) rfl dX9_isWord_5 (fun hc => ?_) (fun hc => ?_)
  · rw [if_neg hc] at hF
    refine r_iconst C (v := 0) rfl dX9_isWord_19 ?_
    cases hF
    exact r_zreturn C false rfl dX9_isWord_20
  · rw [if_pos hc] at hF
    refine r_aload_n C (k := 0) rfl rfl dX9_isWord_8 ?_
    refine og_5_5 C (hW.ok k5) e wm2_5 dX9_isWord_9 ?_
    refine r_aload_n C (k := 1) rfl rfl dX9_isWord_12 ?_
    refine r_callE C (d' := 1) [] (c_slen hS hsx) myJ0_length_8abf5 wm4_48 ((hS.s C).imp fun _ _ _ h => (h.2.2.2 sx hsx).1) rfl (kR rfl) (by decide) (kR rfl) rfl dX9_isWord_13 ?_
    refine r_icmp_eq C (tgt := 21) rfl dX9_isWord_16 (fun hc => ?_) (fun hc => ?_)
    · rw [if_pos hc] at hF
      refine r_iconst C (v := 0) rfl dX9_isWord_21 ?_
      refine r_istore_n C (lo' := [(2, .int 0), (0, .ref (wAd w (5, 11, 4, 0))), (1, .ref (wAd w (15, sx, 0, 0)))]) rfl (by decide) rfl dX9_isWord_22 ?_
      refine r_lo [1, 2, 0] (lo' := [(0, .ref (wAd w (5, 11, 4, 0))), (1, .ref (wAd w (15, sx, 0, 0))), (2, .int 0)]) rfl ?_
      exact lp_X9_isWord_23 hW hS e sx hsx C N 0 hF
    · rw [if_neg hc] at hF
      refine r_iconst C (v := 0) rfl dX9_isWord_19 ?_
      cases hF
      exact r_zreturn C false rfl dX9_isWord_20
theorem dX11_sees_0 : decode cX11_sees 0 = .ok (.aload_n 0, 1) := by decide +kernel
theorem dX11_sees_1 : decode cX11_sees 1 = .ok (.invokevirtual 250, 3) := by decide +kernel
theorem dX11_sees_4 : decode cX11_sees 4 = .ok (.istore_n 2, 1) := by decide +kernel
theorem dX11_sees_5 : decode cX11_sees 5 = .ok (.aload_n 0, 1) := by decide +kernel
theorem dX11_sees_6 : decode cX11_sees 6 = .ok (.getfield 244, 3) := by decide +kernel
theorem dX11_sees_9 : decode cX11_sees 9 = .ok (.ifCond .ne 14, 3) := by decide +kernel
theorem dX11_sees_12 : decode cX11_sees 12 = .ok (.aload_n 0, 1) := by decide +kernel
theorem dX11_sees_13 : decode cX11_sees 13 = .ok (.getfield 237, 3) := by decide +kernel
theorem dX11_sees_16 : decode cX11_sees 16 = .ok (.aload_n 1, 1) := by decide +kernel
theorem dX11_sees_17 : decode cX11_sees 17 = .ok (.invokevirtual 43, 3) := by decide +kernel
theorem dX11_sees_20 : decode cX11_sees 20 = .ok (.if_icmp .eq 5, 3) := by decide +kernel
theorem dX11_sees_23 : decode cX11_sees 23 = .ok (.iconst 0, 1) := by decide +kernel
theorem dX11_sees_24 : decode cX11_sees 24 = .ok (.ireturn, 1) := by decide +kernel
theorem dX11_sees_25 : decode cX11_sees 25 = .ok (.iconst 0, 1) := by decide +kernel
theorem dX11_sees_26 : decode cX11_sees 26 = .ok (.istore_n 3, 1) := by decide +kernel
theorem dX11_sees_27 : decode cX11_sees 27 = .ok (.iload_n 3, 1) := by decide +kernel
theorem dX11_sees_28 : decode cX11_sees 28 = .ok (.aload_n 0, 1) := by decide +kernel
theorem dX11_sees_29 : decode cX11_sees 29 = .ok (.getfield 237, 3) := by decide +kernel
theorem dX11_sees_32 : decode cX11_sees 32 = .ok (.if_icmp .ge 29, 3) := by decide +kernel
theorem dX11_sees_35 : decode cX11_sees 35 = .ok (.aload_n 0, 1) := by decide +kernel
theorem dX11_sees_36 : decode cX11_sees 36 = .ok (.aload_n 0, 1) := by decide +kernel
theorem dX11_sees_37 : decode cX11_sees 37 = .ok (.getfield 234, 3) := by decide +kernel
theorem dX11_sees_40 : decode cX11_sees 40 = .ok (.iload_n 3, 1) := by decide +kernel
theorem dX11_sees_41 : decode cX11_sees 41 = .ok (.iadd, 1) := by decide +kernel
theorem dX11_sees_42 : decode cX11_sees 42 = .ok (.invokevirtual 231, 3) := by decide +kernel
theorem dX11_sees_45 : decode cX11_sees 45 = .ok (.aload_n 1, 1) := by decide +kernel
theorem dX11_sees_46 : decode cX11_sees 46 = .ok (.iload_n 3, 1) := by decide +kernel
theorem dX11_sees_47 : decode cX11_sees 47 = .ok (.invokevirtual 49, 3) := by decide +kernel
theorem dX11_sees_50 : decode cX11_sees 50 = .ok (.if_icmp .eq 5, 3) := by decide +kernel
theorem dX11_sees_53 : decode cX11_sees 53 = .ok (.iconst 0, 1) := by decide +kernel
theorem dX11_sees_54 : decode cX11_sees 54 = .ok (.ireturn, 1) := by decide +kernel
theorem dX11_sees_55 : decode cX11_sees 55 = .ok (.iinc 3 1, 3) := by decide +kernel
theorem dX11_sees_58 : decode cX11_sees 58 = .ok (.goto (-31), 3) := by decide +kernel
theorem dX11_sees_61 : decode cX11_sees 61 = .ok (.iconst 1, 1) := by decide +kernel
theorem dX11_sees_62 : decode cX11_sees 62 = .ok (.ireturn, 1) := by decide +kernel
def st_X11_sees_27 (N : Nat) (sx : Nat) (l3 : Int32) (t : HV) : Option ((Int32 × HV) ⊕ (Bool × (HV))) := (if (t.1 14) ≤ l3 then some (.inr (true, t)) else (ob1 (F_X11_byteAt ((t.1 13) + l3) t) fun v3 => (if vpb l3 (sTx sx).length = true then (if v3 = (sCh sx l3) then some (.inl ((l3 + 1), t)) else some (.inr (false, t))) else none)))
def F_X11_sees (N : Nat) (sx : Nat) (t : HV) : Option (Bool × (HV)) := (ob (F_X11_next N t) fun v1 t2 => (if (t2.1 15) = 0 then (if (t2.1 14) = (nI (sTx sx).length) then (lpN N (fun z => st_X11_sees_27 N sx z.1 z.2) (0, t2)) else some (false, t2)) else some (false, t2)))
theorem lp_X11_sees_27 {w : WP} (hW : gWM w) (hS : gS w) {Ω : OM}  (sx : Nat) (hsx : sx < 46)  {N : Nat} {X : CX} (C : gC w X cX11_sees "HedgeMessagesModel" (some .boolean) 4 4) {v : Bool} {t' : HV}  : ∀ (n : Nat) (l3 : Int32) (t : HV), lpN n (fun z : Int32 × HV => st_X11_sees_27 N sx z.1 z.2) (l3, t) = some (v, t') → gV w X (some (.int (b2i v)), cA w (sM Ω t')) (cA w (sM Ω t)) 27 [(0, .ref (wAd w (11, 12, 0, 0))), (1, .ref (wAd w (15, sx, 0, 0))), (3, .int l3)] [] := by
  intro n
  induction n with
  | zero => intro l3 t hL; exact lpN_0 hL
  | succ n ih =>
    intro l3 t hL
    obtain ⟨q9, hF, hL⟩ := lpN_e hL
    change st_X11_sees_27 N sx l3 t = some q9 at hF
    unfold st_X11_sees_27 at hF
    refine r_iload_n C (k := 2) rfl rfl dX11_sees_27 ?_
    refine r_aload_n C (k := 0) rfl rfl dX11_sees_28 ?_
    refine og_11_14 C (hW.ok k11) (show (sM Ω t).2.1 = t from rfl) wm7_81 dX11_sees_29 ?_
    refine r_icmp_ge C (tgt := 61) rfl dX11_sees_32 (fun hc => ?_) (fun hc => ?_)
    · rw [if_pos hc] at hF
      refine r_iconst C (v := 1) rfl dX11_sees_61 ?_
      cases hF
      change some _ = some _ at hL
      cases hL
      exact r_zreturn C true rfl dX11_sees_62
    · rw [if_neg hc] at hF
      refine r_aload_n C (k := 0) rfl rfl dX11_sees_35 ?_
      refine r_aload_n C (k := 0) rfl rfl dX11_sees_36 ?_
      refine og_11_13 C (hW.ok k11) (show (sM Ω t).2.1 = t from rfl) wm7_80 dX11_sees_37 ?_
      refine r_iload_n C (k := 2) rfl rfl dX11_sees_40 ?_
      refine r_iadd C dX11_sees_41 ?_
      obtain ⟨v3, hv3, hF⟩ := ob1_e hF
      refine r_callV C (d' := 0) [.int ((t.1 13) + l3)] (c_X11_byteAt hW (show (sM Ω t).2.1 = t from rfl) ((t.1 13) + l3) hv3) myX11_byteAt wm6_202 ⟨_, _, _, _, (hW.ok k11), rfl, rfl, rfl, rfl⟩ rfl (kR rfl) (by decide) (kR rfl) rfl dX11_sees_42 ?_
      refine r_aload_n C (k := 1) rfl rfl dX11_sees_45 ?_
      refine r_iload_n C (k := 2) rfl rfl dX11_sees_46 ?_
      obtain ⟨b4, hF⟩ := gd_e hF
      refine r_callE C (d' := 3) [.int l3] (c_charAt hS hsx (vpb_in b4)) myJ0_charAt_5068e wm6_177 ((hS.s C).imp fun _ _ _ h => (h.2.2.2 sx hsx).1) rfl (kR rfl) (by decide) (kR rfl) rfl dX11_sees_47 ?_
      refine r_icmp_eq C (tgt := 55) rfl dX11_sees_50 (fun hc => ?_) (fun hc => ?_)
      · rw [if_pos hc] at hF
        refine r_iinc C (k := 2) (v := (l3 + 1)) (lo' := [(3, .int (l3 + 1)), (0, .ref (wAd w (11, 12, 0, 0))), (1, .ref (wAd w (15, sx, 0, 0)))]) rfl rfl (by decide) rfl dX11_sees_55 ?_
        refine r_goto C (tgt := 27) rfl dX11_sees_58 ?_
        cases hF
        change lpN n _ _ = some _ at hL
        refine r_lo [1, 2, 0] (lo' := [(0, .ref (wAd w (11, 12, 0, 0))), (1, .ref (wAd w (15, sx, 0, 0))), (3, .int (l3 + 1))]) rfl ?_
        exact ih (l3 + 1) t hL
      · rw [if_neg hc] at hF
        refine r_iconst C (v := 0) rfl dX11_sees_53 ?_
        cases hF
        change some _ = some _ at hL
        cases hL
        exact r_zreturn C false rfl dX11_sees_54
theorem c_X11_sees {w : WP} (hW : gWM w) (hS : gS w) {Ω : OM}  {t : HV} (e : Ω.2.1 = t) (N : Nat) (sx : Nat) (hsx : sx < 46) {v : Bool} {t' : HV} (hF : F_X11_sees N sx t = some (v, t')) {Ω' : OM} (e2 : (sM Ω t') = Ω') : gM w 4 yX11_sees cX11_sees 4 (some .boolean) [.ref (wAd w (11, 12, 0, 0)), .ref (wAd w (15, sx, 0, 0))] (cA w Ω) (some (.int (b2i v))) (cA w Ω') := by
  refine gM_of "HedgeMessagesModel" rfl (by decide) (kR rfl) fun X C => ?_
  unfold F_X11_sees at hF
  subst e2
  show gV w X _ _ 0 [(0, .ref (wAd w (11, 12, 0, 0))), (1, .ref (wAd w (15, sx, 0, 0)))] []
  refine r_ct (ct' := cA w (sM Ω t)) (congrArg (cA w) (sM_i e).symm) ?_
  refine r_aload_n C (k := 0) rfl rfl dX11_sees_0 ?_
  obtain ⟨v1, t2, ht2, hF⟩ := ob_e hF
  refine r_callV C (d' := 1) [] (c_X11_next hW (show (sM Ω t).2.1 = t from rfl) N ht2 rfl) myX11_next wm6_198 ⟨_, _, _, _, (hW.ok k11), rfl, rfl, rfl, rfl⟩ rfl (kR rfl) (by decide) (kR rfl) rfl dX11_sees_1 ?_
  refine r_istore_n C (lo' := [(2, .int v1), (0, .ref (wAd w (11, 12, 0, 0))), (1, .ref (wAd w (15, sx, 0, 0)))]) rfl (by decide) rfl dX11_sees_4 ?_
  refine r_aload_n C (k := 1) rfl rfl dX11_sees_5 ?_
  refine og_11_15 C (hW.ok k11) (show (sM Ω t2).2.1 = t2 from rfl) wm7_82 dX11_sees_6 ?_
  refine r_if_ne C (tgt := 23) rfl dX11_sees_9 (fun hc => ?_) (fun hc => ?_)
  · rw [if_neg hc] at hF
    refine r_iconst C (v := 0) rfl dX11_sees_23 ?_
    cases hF
    exact r_zreturn C false rfl dX11_sees_24
  · rw [if_pos hc] at hF
    refine r_aload_n C (k := 1) rfl rfl dX11_sees_12 ?_
    refine og_11_14 C (hW.ok k11) (show (sM Ω t2).2.1 = t2 from rfl) wm7_81 dX11_sees_13 ?_
    refine r_aload_n C (k := 2) rfl rfl dX11_sees_16 ?_
    refine r_callE C (d' := 1) [] (c_slen hS hsx) myJ0_length_8abf5 wm6_176 ((hS.s C).imp fun _ _ _ h => (h.2.2.2 sx hsx).1) rfl (kR rfl) (by decide) (kR rfl) rfl dX11_sees_17 ?_
    refine r_icmp_eq C (tgt := 25) rfl dX11_sees_20 (fun hc => ?_) (fun hc => ?_)
    · rw [if_pos hc] at hF
      refine r_iconst C (v := 0) rfl dX11_sees_25 ?_
      refine r_istore_n C (lo' := [(3, .int 0), (2, .int v1), (0, .ref (wAd w (11, 12, 0, 0))), (1, .ref (wAd w (15, sx, 0, 0)))]) rfl (by decide) rfl dX11_sees_26 ?_
      refine r_lo [2, 3, 0] (lo' := [(0, .ref (wAd w (11, 12, 0, 0))), (1, .ref (wAd w (15, sx, 0, 0))), (3, .int 0)]) rfl ?_
      exact lp_X11_sees_27 hW hS sx hsx C N 0 t2 hF
    · rw [if_neg hc] at hF
      refine r_iconst C (v := 0) rfl dX11_sees_23 ?_
      cases hF
      exact r_zreturn C false rfl dX11_sees_24
theorem dX11_hedgeLine_0 : decode cX11_hedgeLine 0 = .ok (.aload_n 0, 1) := by decide +kernel
theorem dX11_hedgeLine_1 : decode cX11_hedgeLine 1 = .ok (.aload_n 0, 1) := by decide +kernel
theorem dX11_hedgeLine_2 : decode cX11_hedgeLine 2 = .ok (.ldc_w 272, 3) := by decide +kernel
theorem dX11_hedgeLine_5 : decode cX11_hedgeLine 5 = .ok (.invokevirtual 274, 3) := by decide +kernel
theorem dX11_hedgeLine_8 : decode cX11_hedgeLine 8 = .ok (.iconst 1, 1) := by decide +kernel
theorem dX11_hedgeLine_9 : decode cX11_hedgeLine 9 = .ok (.invokevirtual 253, 3) := by decide +kernel
theorem dX11_hedgeLine_12 : decode cX11_hedgeLine 12 = .ok (.aload_n 0, 1) := by decide +kernel
theorem dX11_hedgeLine_13 : decode cX11_hedgeLine 13 = .ok (.getfield 244, 3) := by decide +kernel
theorem dX11_hedgeLine_16 : decode cX11_hedgeLine 16 = .ok (.ifCond .eq 4, 3) := by decide +kernel
theorem dX11_hedgeLine_19 : decode cX11_hedgeLine 19 = .ok (.return_, 1) := by decide +kernel
theorem dX11_hedgeLine_20 : decode cX11_hedgeLine 20 = .ok (.aload_n 0, 1) := by decide +kernel
theorem dX11_hedgeLine_21 : decode cX11_hedgeLine 21 = .ok (.invokevirtual 261, 3) := by decide +kernel
theorem dX11_hedgeLine_24 : decode cX11_hedgeLine 24 = .ok (.aload_n 0, 1) := by decide +kernel
theorem dX11_hedgeLine_25 : decode cX11_hedgeLine 25 = .ok (.getfield 7, 3) := by decide +kernel
theorem dX11_hedgeLine_28 : decode cX11_hedgeLine 28 = .ok (.iconst 0, 1) := by decide +kernel
theorem dX11_hedgeLine_29 : decode cX11_hedgeLine 29 = .ok (.aload_n 0, 1) := by decide +kernel
theorem dX11_hedgeLine_30 : decode cX11_hedgeLine 30 = .ok (.iconst 4, 1) := by decide +kernel
theorem dX11_hedgeLine_31 : decode cX11_hedgeLine 31 = .ok (.bipush 40, 2) := by decide +kernel
theorem dX11_hedgeLine_33 : decode cX11_hedgeLine 33 = .ok (.invokevirtual 278, 3) := by decide +kernel
theorem dX11_hedgeLine_36 : decode cX11_hedgeLine 36 = .ok (.iastore, 1) := by decide +kernel
theorem dX11_hedgeLine_37 : decode cX11_hedgeLine 37 = .ok (.aload_n 0, 1) := by decide +kernel
theorem dX11_hedgeLine_38 : decode cX11_hedgeLine 38 = .ok (.getfield 7, 3) := by decide +kernel
theorem dX11_hedgeLine_41 : decode cX11_hedgeLine 41 = .ok (.iconst 1, 1) := by decide +kernel
theorem dX11_hedgeLine_42 : decode cX11_hedgeLine 42 = .ok (.aload_n 0, 1) := by decide +kernel
theorem dX11_hedgeLine_43 : decode cX11_hedgeLine 43 = .ok (.iconst 1, 1) := by decide +kernel
theorem dX11_hedgeLine_44 : decode cX11_hedgeLine 44 = .ok (.bipush 12, 2) := by decide +kernel
theorem dX11_hedgeLine_46 : decode cX11_hedgeLine 46 = .ok (.invokevirtual 278, 3) := by decide +kernel
theorem dX11_hedgeLine_49 : decode cX11_hedgeLine 49 = .ok (.iastore, 1) := by decide +kernel
theorem dX11_hedgeLine_50 : decode cX11_hedgeLine 50 = .ok (.aload_n 0, 1) := by decide +kernel
theorem dX11_hedgeLine_51 : decode cX11_hedgeLine 51 = .ok (.getfield 7, 3) := by decide +kernel
theorem dX11_hedgeLine_54 : decode cX11_hedgeLine 54 = .ok (.iconst 2, 1) := by decide +kernel
theorem dX11_hedgeLine_55 : decode cX11_hedgeLine 55 = .ok (.aload_n 0, 1) := by decide +kernel
theorem dX11_hedgeLine_56 : decode cX11_hedgeLine 56 = .ok (.iconst 0, 1) := by decide +kernel
theorem dX11_hedgeLine_57 : decode cX11_hedgeLine 57 = .ok (.bipush 9, 2) := by decide +kernel
theorem dX11_hedgeLine_59 : decode cX11_hedgeLine 59 = .ok (.invokevirtual 278, 3) := by decide +kernel
theorem dX11_hedgeLine_62 : decode cX11_hedgeLine 62 = .ok (.iastore, 1) := by decide +kernel
theorem dX11_hedgeLine_63 : decode cX11_hedgeLine 63 = .ok (.aload_n 0, 1) := by decide +kernel
theorem dX11_hedgeLine_64 : decode cX11_hedgeLine 64 = .ok (.getfield 7, 3) := by decide +kernel
theorem dX11_hedgeLine_67 : decode cX11_hedgeLine 67 = .ok (.iconst 3, 1) := by decide +kernel
theorem dX11_hedgeLine_68 : decode cX11_hedgeLine 68 = .ok (.aload_n 0, 1) := by decide +kernel
theorem dX11_hedgeLine_69 : decode cX11_hedgeLine 69 = .ok (.iconst 1, 1) := by decide +kernel
theorem dX11_hedgeLine_70 : decode cX11_hedgeLine 70 = .ok (.bipush 99, 2) := by decide +kernel
theorem dX11_hedgeLine_72 : decode cX11_hedgeLine 72 = .ok (.invokevirtual 278, 3) := by decide +kernel
theorem dX11_hedgeLine_75 : decode cX11_hedgeLine 75 = .ok (.iastore, 1) := by decide +kernel
theorem dX11_hedgeLine_76 : decode cX11_hedgeLine 76 = .ok (.aload_n 0, 1) := by decide +kernel
theorem dX11_hedgeLine_77 : decode cX11_hedgeLine 77 = .ok (.getfield 7, 3) := by decide +kernel
theorem dX11_hedgeLine_80 : decode cX11_hedgeLine 80 = .ok (.iconst 4, 1) := by decide +kernel
theorem dX11_hedgeLine_81 : decode cX11_hedgeLine 81 = .ok (.aload_n 0, 1) := by decide +kernel
theorem dX11_hedgeLine_82 : decode cX11_hedgeLine 82 = .ok (.iconst 1, 1) := by decide +kernel
theorem dX11_hedgeLine_83 : decode cX11_hedgeLine 83 = .ok (.bipush 30, 2) := by decide +kernel
theorem dX11_hedgeLine_85 : decode cX11_hedgeLine 85 = .ok (.invokevirtual 278, 3) := by decide +kernel
theorem dX11_hedgeLine_88 : decode cX11_hedgeLine 88 = .ok (.iastore, 1) := by decide +kernel
theorem dX11_hedgeLine_89 : decode cX11_hedgeLine 89 = .ok (.aload_n 0, 1) := by decide +kernel
theorem dX11_hedgeLine_90 : decode cX11_hedgeLine 90 = .ok (.getfield 7, 3) := by decide +kernel
theorem dX11_hedgeLine_93 : decode cX11_hedgeLine 93 = .ok (.iconst 5, 1) := by decide +kernel
theorem dX11_hedgeLine_94 : decode cX11_hedgeLine 94 = .ok (.aload_n 0, 1) := by decide +kernel
theorem dX11_hedgeLine_95 : decode cX11_hedgeLine 95 = .ok (.iconst 1, 1) := by decide +kernel
theorem dX11_hedgeLine_96 : decode cX11_hedgeLine 96 = .ok (.bipush 40, 2) := by decide +kernel
theorem dX11_hedgeLine_98 : decode cX11_hedgeLine 98 = .ok (.invokevirtual 278, 3) := by decide +kernel
theorem dX11_hedgeLine_101 : decode cX11_hedgeLine 101 = .ok (.iastore, 1) := by decide +kernel
theorem dX11_hedgeLine_102 : decode cX11_hedgeLine 102 = .ok (.aload_n 0, 1) := by decide +kernel
theorem dX11_hedgeLine_103 : decode cX11_hedgeLine 103 = .ok (.invokevirtual 281, 3) := by decide +kernel
theorem dX11_hedgeLine_106 : decode cX11_hedgeLine 106 = .ok (.return_, 1) := by decide +kernel
def F_X11_hedgeLine (N : Nat) (t : HV) : Option (HV) := (ob (F_X11_sees N 28 t) fun v1 t2 => (lt (F_X11_must v1 1 t2) fun t4 => (if (t4.1 15) = 0 then (lt (F_X11_goesPast t4) fun t6 => (ob (F_X11_number N 4 40 t6) fun v7 t8 => (if vpb 0 760 = true then (lt (aw t8 0 0 v7) fun t10 => (ob (F_X11_number N 1 12 t10) fun v11 t12 => (if vpb 1 760 = true then (lt (aw t12 0 1 v11) fun t14 => (ob (F_X11_number N 0 9 t14) fun v15 t16 => (if vpb 2 760 = true then (lt (aw t16 0 2 v15) fun t18 => (ob (F_X11_number N 1 99 t18) fun v19 t20 => (if vpb 3 760 = true then (lt (aw t20 0 3 v19) fun t22 => (ob (F_X11_number N 1 30 t22) fun v23 t24 => (if vpb 4 760 = true then (lt (aw t24 0 4 v23) fun t26 => (ob (F_X11_number N 1 40 t26) fun v27 t28 => (if vpb 5 760 = true then (lt (aw t28 0 5 v27) fun t30 => (ob1 (F_X11_semicolon N t30) fun t32 => some t32)) else none))) else none))) else none))) else none))) else none))) else none))) else some t4)))
theorem c_X11_hedgeLine {w : WP} (hW : gWM w) (hS : gS w) {Ω : OM}  {t : HV} (e : Ω.2.1 = t) (N : Nat)  {t' : HV} (hF : F_X11_hedgeLine N t = some t') {Ω' : OM} (e2 : (sM Ω t') = Ω') : gM w 5 yX11_hedgeLine cX11_hedgeLine 1 none [.ref (wAd w (11, 12, 0, 0))] (cA w Ω) none (cA w Ω') := by
  refine gM_of "HedgeMessagesModel" rfl (by decide) (kR rfl) fun X C => ?_
  unfold F_X11_hedgeLine at hF
  subst e2
  show gV w X _ _ 0 [(0, .ref (wAd w (11, 12, 0, 0)))] []
  refine r_ct (ct' := cA w (sM Ω t)) (congrArg (cA w) (sM_i e).symm) ?_
  refine r_aload_n C (k := 0) rfl rfl dX11_hedgeLine_0 ?_
  refine r_aload_n C (k := 0) rfl rfl dX11_hedgeLine_1 ?_
  refine r_ldcwS C ((hS.s C).imp fun _ _ _ h => h.2.2.1 28 (by decide)) dX11_hedgeLine_2 ?_
  obtain ⟨v1, t2, ht2, hF⟩ := ob_e hF
  refine r_callV C (d' := 4) [.ref (wAd w (15, 28, 0, 0))] (c_X11_sees hW hS (show (sM Ω t).2.1 = t from rfl) N 28 (show 28 < 46 by decide) ht2 rfl) myX11_sees wm6_194 ⟨_, _, _, _, (hW.ok k11), rfl, rfl, rfl, rfl⟩ rfl (kR rfl) (by decide) (kR rfl) rfl dX11_hedgeLine_5 ?_
  refine r_iconst C (v := 1) rfl dX11_hedgeLine_8 ?_
  obtain ⟨t4, ht4, hF⟩ := lt_e hF
  refine r_callV C (d' := 0) [.int (b2i v1), .int 1] (c_X11_must hW (show (sM Ω t2).2.1 = t2 from rfl) v1 1 ht4 rfl) myX11_must wm6_211 ⟨_, _, _, _, (hW.ok k11), rfl, rfl, rfl, rfl⟩ rfl (kR rfl) (by decide) (kR rfl) rfl dX11_hedgeLine_9 ?_
  refine r_aload_n C (k := 0) rfl rfl dX11_hedgeLine_12 ?_
  refine og_11_15 C (hW.ok k11) (show (sM Ω t4).2.1 = t4 from rfl) wm7_82 dX11_hedgeLine_13 ?_
  refine r_if_eq C (tgt := 20) rfl dX11_hedgeLine_16 (fun hc => ?_) (fun hc => ?_)
  · rw [if_pos hc] at hF
    refine r_aload_n C (k := 0) rfl rfl dX11_hedgeLine_20 ?_
    obtain ⟨t6, ht6, hF⟩ := lt_e hF
    refine r_callV C (d' := 0) [] (c_X11_goesPast hW (show (sM Ω t4).2.1 = t4 from rfl) ht6 rfl) myX11_goesPast wm6_215 ⟨_, _, _, _, (hW.ok k11), rfl, rfl, rfl, rfl⟩ rfl (kR rfl) (by decide) (kR rfl) rfl dX11_hedgeLine_21 ?_
    refine r_aload_n C (k := 0) rfl rfl dX11_hedgeLine_24 ?_
    refine og_11_0 C (hW.ok k11) wm7_67 dX11_hedgeLine_25 ?_
    refine r_iconst C (v := 0) rfl dX11_hedgeLine_28 ?_
    refine r_aload_n C (k := 0) rfl rfl dX11_hedgeLine_29 ?_
    refine r_iconst C (v := 4) rfl dX11_hedgeLine_30 ?_
    refine r_bipush C (v := 40) rfl dX11_hedgeLine_31 ?_
    obtain ⟨v7, t8, ht8, hF⟩ := ob_e hF
    refine r_callV C (d' := 2) [.int 4, .int 40] (c_X11_number hW (show (sM Ω t6).2.1 = t6 from rfl) N 4 40 ht8 rfl) myX11_number wm6_219 ⟨_, _, _, _, (hW.ok k11), rfl, rfl, rfl, rfl⟩ rfl (kR rfl) (by decide) (kR rfl) rfl dX11_hedgeLine_33 ?_
    obtain ⟨b9, hF⟩ := gd_e hF
    obtain ⟨t10, et10, hF⟩ := lt_e hF
    refine m_ast C hW.x (hW.fr (k12 (a := 0) (by unfold okMa; decide))) (show (sM Ω t8).2.1 = t8 from rfl) rfl b9 dX11_hedgeLine_36 (congrArg (sM Ω) et10) ?_
    refine r_aload_n C (k := 0) rfl rfl dX11_hedgeLine_37 ?_
    refine og_11_0 C (hW.ok k11) wm7_67 dX11_hedgeLine_38 ?_
    refine r_iconst C (v := 1) rfl dX11_hedgeLine_41 ?_
    refine r_aload_n C (k := 0) rfl rfl dX11_hedgeLine_42 ?_
    refine r_iconst C (v := 1) rfl dX11_hedgeLine_43 ?_
    refine r_bipush C (v := 12) rfl dX11_hedgeLine_44 ?_
    obtain ⟨v11, t12, ht12, hF⟩ := ob_e hF
    refine r_callV C (d' := 2) [.int 1, .int 12] (c_X11_number hW (show (sM Ω t10).2.1 = t10 from rfl) N 1 12 ht12 rfl) myX11_number wm6_219 ⟨_, _, _, _, (hW.ok k11), rfl, rfl, rfl, rfl⟩ rfl (kR rfl) (by decide) (kR rfl) rfl dX11_hedgeLine_46 ?_
    obtain ⟨b13, hF⟩ := gd_e hF
    obtain ⟨t14, et14, hF⟩ := lt_e hF
    refine m_ast C hW.x (hW.fr (k12 (a := 0) (by unfold okMa; decide))) (show (sM Ω t12).2.1 = t12 from rfl) rfl b13 dX11_hedgeLine_49 (congrArg (sM Ω) et14) ?_
    refine r_aload_n C (k := 0) rfl rfl dX11_hedgeLine_50 ?_
    refine og_11_0 C (hW.ok k11) wm7_67 dX11_hedgeLine_51 ?_
    refine r_iconst C (v := 2) rfl dX11_hedgeLine_54 ?_
    refine r_aload_n C (k := 0) rfl rfl dX11_hedgeLine_55 ?_
    refine r_iconst C (v := 0) rfl dX11_hedgeLine_56 ?_
    refine r_bipush C (v := 9) rfl dX11_hedgeLine_57 ?_
    obtain ⟨v15, t16, ht16, hF⟩ := ob_e hF
    refine r_callV C (d' := 2) [.int 0, .int 9] (c_X11_number hW (show (sM Ω t14).2.1 = t14 from rfl) N 0 9 ht16 rfl) myX11_number wm6_219 ⟨_, _, _, _, (hW.ok k11), rfl, rfl, rfl, rfl⟩ rfl (kR rfl) (by decide) (kR rfl) rfl dX11_hedgeLine_59 ?_
    obtain ⟨b17, hF⟩ := gd_e hF
    obtain ⟨t18, et18, hF⟩ := lt_e hF
    refine m_ast C hW.x (hW.fr (k12 (a := 0) (by unfold okMa; decide))) (show (sM Ω t16).2.1 = t16 from rfl) rfl b17 dX11_hedgeLine_62 (congrArg (sM Ω) et18) ?_
    refine r_aload_n C (k := 0) rfl rfl dX11_hedgeLine_63 ?_
    refine og_11_0 C (hW.ok k11) wm7_67 dX11_hedgeLine_64 ?_
    refine r_iconst C (v := 3) rfl dX11_hedgeLine_67 ?_
    refine r_aload_n C (k := 0) rfl rfl dX11_hedgeLine_68 ?_
    refine r_iconst C (v := 1) rfl dX11_hedgeLine_69 ?_
    refine r_bipush C (v := 99) rfl dX11_hedgeLine_70 ?_
    obtain ⟨v19, t20, ht20, hF⟩ := ob_e hF
    refine r_callV C (d' := 2) [.int 1, .int 99] (c_X11_number hW (show (sM Ω t18).2.1 = t18 from rfl) N 1 99 ht20 rfl) myX11_number wm6_219 ⟨_, _, _, _, (hW.ok k11), rfl, rfl, rfl, rfl⟩ rfl (kR rfl) (by decide) (kR rfl) rfl dX11_hedgeLine_72 ?_
    obtain ⟨b21, hF⟩ := gd_e hF
    obtain ⟨t22, et22, hF⟩ := lt_e hF
    refine m_ast C hW.x (hW.fr (k12 (a := 0) (by unfold okMa; decide))) (show (sM Ω t20).2.1 = t20 from rfl) rfl b21 dX11_hedgeLine_75 (congrArg (sM Ω) et22) ?_
    refine r_aload_n C (k := 0) rfl rfl dX11_hedgeLine_76 ?_
    refine og_11_0 C (hW.ok k11) wm7_67 dX11_hedgeLine_77 ?_
    refine r_iconst C (v := 4) rfl dX11_hedgeLine_80 ?_
    refine r_aload_n C (k := 0) rfl rfl dX11_hedgeLine_81 ?_
    refine r_iconst C (v := 1) rfl dX11_hedgeLine_82 ?_
    refine r_bipush C (v := 30) rfl dX11_hedgeLine_83 ?_
    obtain ⟨v23, t24, ht24, hF⟩ := ob_e hF
    refine r_callV C (d' := 2) [.int 1, .int 30] (c_X11_number hW (show (sM Ω t22).2.1 = t22 from rfl) N 1 30 ht24 rfl) myX11_number wm6_219 ⟨_, _, _, _, (hW.ok k11), rfl, rfl, rfl, rfl⟩ rfl (kR rfl) (by decide) (kR rfl) rfl dX11_hedgeLine_85 ?_
    obtain ⟨b25, hF⟩ := gd_e hF
    obtain ⟨t26, et26, hF⟩ := lt_e hF
    refine m_ast C hW.x (hW.fr (k12 (a := 0) (by unfold okMa; decide))) (show (sM Ω t24).2.1 = t24 from rfl) rfl b25 dX11_hedgeLine_88 (congrArg (sM Ω) et26) ?_
    refine r_aload_n C (k := 0) rfl rfl dX11_hedgeLine_89 ?_
    refine og_11_0 C (hW.ok k11) wm7_67 dX11_hedgeLine_90 ?_
    refine r_iconst C (v := 5) rfl dX11_hedgeLine_93 ?_
    refine r_aload_n C (k := 0) rfl rfl dX11_hedgeLine_94 ?_
    refine r_iconst C (v := 1) rfl dX11_hedgeLine_95 ?_
    refine r_bipush C (v := 40) rfl dX11_hedgeLine_96 ?_
    obtain ⟨v27, t28, ht28, hF⟩ := ob_e hF
    refine r_callV C (d' := 2) [.int 1, .int 40] (c_X11_number hW (show (sM Ω t26).2.1 = t26 from rfl) N 1 40 ht28 rfl) myX11_number wm6_219 ⟨_, _, _, _, (hW.ok k11), rfl, rfl, rfl, rfl⟩ rfl (kR rfl) (by decide) (kR rfl) rfl dX11_hedgeLine_98 ?_
    obtain ⟨b29, hF⟩ := gd_e hF
    obtain ⟨t30, et30, hF⟩ := lt_e hF
    refine m_ast C hW.x (hW.fr (k12 (a := 0) (by unfold okMa; decide))) (show (sM Ω t28).2.1 = t28 from rfl) rfl b29 dX11_hedgeLine_101 (congrArg (sM Ω) et30) ?_
    refine r_aload_n C (k := 0) rfl rfl dX11_hedgeLine_102 ?_
    obtain ⟨t32, ht32, hF⟩ := ob1_e hF
    refine r_callV C (d' := 2) [] (c_X11_semicolon hW (show (sM Ω t30).2.1 = t30 from rfl) N ht32 rfl) myX11_semicolon wm6_225 ⟨_, _, _, _, (hW.ok k11), rfl, rfl, rfl, rfl⟩ rfl (kR rfl) (by decide) (kR rfl) rfl dX11_hedgeLine_103 ?_
    cases hF
    exact r_return C dX11_hedgeLine_106
  · rw [if_neg hc] at hF
    cases hF
    exact r_return C dX11_hedgeLine_19
theorem dX11_statement_0 : decode cX11_statement 0 = .ok (.aload_n 0, 1) := by decide +kernel
theorem dX11_statement_1 : decode cX11_statement 1 = .ok (.ldc_w 293, 3) := by decide +kernel
theorem dX11_statement_4 : decode cX11_statement 4 = .ok (.invokevirtual 274, 3) := by decide +kernel
theorem dX11_statement_7 : decode cX11_statement 7 = .ok (.ifCond .eq 10, 3) := by decide +kernel
theorem dX11_statement_10 : decode cX11_statement 10 = .ok (.aload_n 0, 1) := by decide +kernel
theorem dX11_statement_11 : decode cX11_statement 11 = .ok (.invokevirtual 295, 3) := by decide +kernel
theorem dX11_statement_14 : decode cX11_statement 14 = .ok (.goto 48, 3) := by decide +kernel
theorem dX11_statement_17 : decode cX11_statement 17 = .ok (.aload_n 0, 1) := by decide +kernel
theorem dX11_statement_18 : decode cX11_statement 18 = .ok (.ldc_w 298, 3) := by decide +kernel
theorem dX11_statement_21 : decode cX11_statement 21 = .ok (.invokevirtual 274, 3) := by decide +kernel
theorem dX11_statement_24 : decode cX11_statement 24 = .ok (.ifCond .eq 10, 3) := by decide +kernel
theorem dX11_statement_27 : decode cX11_statement 27 = .ok (.aload_n 0, 1) := by decide +kernel
theorem dX11_statement_28 : decode cX11_statement 28 = .ok (.invokevirtual 300, 3) := by decide +kernel
theorem dX11_statement_31 : decode cX11_statement 31 = .ok (.goto 31, 3) := by decide +kernel
theorem dX11_statement_34 : decode cX11_statement 34 = .ok (.aload_n 0, 1) := by decide +kernel
theorem dX11_statement_35 : decode cX11_statement 35 = .ok (.ldc_w 303, 3) := by decide +kernel
theorem dX11_statement_38 : decode cX11_statement 38 = .ok (.invokevirtual 274, 3) := by decide +kernel
theorem dX11_statement_41 : decode cX11_statement 41 = .ok (.ifCond .eq 10, 3) := by decide +kernel
theorem dX11_statement_44 : decode cX11_statement 44 = .ok (.aload_n 0, 1) := by decide +kernel
theorem dX11_statement_45 : decode cX11_statement 45 = .ok (.invokevirtual 305, 3) := by decide +kernel
theorem dX11_statement_48 : decode cX11_statement 48 = .ok (.goto 14, 3) := by decide +kernel
theorem dX11_statement_51 : decode cX11_statement 51 = .ok (.aload_n 0, 1) := by decide +kernel
theorem dX11_statement_52 : decode cX11_statement 52 = .ok (.invokevirtual 250, 3) := by decide +kernel
theorem dX11_statement_55 : decode cX11_statement 55 = .ok (.istore_n 1, 1) := by decide +kernel
theorem dX11_statement_56 : decode cX11_statement 56 = .ok (.aload_n 0, 1) := by decide +kernel
theorem dX11_statement_57 : decode cX11_statement 57 = .ok (.iconst 0, 1) := by decide +kernel
theorem dX11_statement_58 : decode cX11_statement 58 = .ok (.iconst 1, 1) := by decide +kernel
theorem dX11_statement_59 : decode cX11_statement 59 = .ok (.invokevirtual 253, 3) := by decide +kernel
theorem dX11_statement_62 : decode cX11_statement 62 = .ok (.aload_n 0, 1) := by decide +kernel
theorem dX11_statement_63 : decode cX11_statement 63 = .ok (.invokevirtual 281, 3) := by decide +kernel
theorem dX11_statement_66 : decode cX11_statement 66 = .ok (.return_, 1) := by decide +kernel
def F_X11_statement (N : Nat) (t : HV) : Option (HV) := (ob (F_X11_sees N 29 t) fun v1 t2 => (if v1 = true then (ob1 (F_X11_twigLine N t2) fun t22 => (ob1 (F_X11_semicolon N t22) fun t24 => some t24)) else (ob (F_X11_sees N 30 t2) fun v3 t4 => (if v3 = true then (ob1 (F_X11_nestLine N t4) fun t18 => (ob1 (F_X11_semicolon N t18) fun t20 => some t20)) else (ob (F_X11_sees N 31 t4) fun v5 t6 => (if v5 = true then (ob1 (F_X11_messageLine N t6) fun t14 => (ob1 (F_X11_semicolon N t14) fun t16 => some t16)) else (ob (F_X11_next N t6) fun v7 t8 => (lt (F_X11_must false 1 t8) fun t10 => (ob1 (F_X11_semicolon N t10) fun t12 => some t12)))))))))
theorem c_X11_statement {w : WP} (hW : gWM w) (hS : gS w) {Ω : OM}  {t : HV} (e : Ω.2.1 = t) (N : Nat)  {t' : HV} (hF : F_X11_statement N t = some t') {Ω' : OM} (e2 : (sM Ω t') = Ω') : gM w 5 yX11_statement cX11_statement 2 none [.ref (wAd w (11, 12, 0, 0))] (cA w Ω) none (cA w Ω') := by
  refine gM_of "HedgeMessagesModel" rfl (by decide) (kR rfl) fun X C => ?_
  unfold F_X11_statement at hF
  subst e2
  show gV w X _ _ 0 [(0, .ref (wAd w (11, 12, 0, 0)))] []
  refine r_ct (ct' := cA w (sM Ω t)) (congrArg (cA w) (sM_i e).symm) ?_
  refine r_aload_n C (k := 0) rfl rfl dX11_statement_0 ?_
  refine r_ldcwS C ((hS.s C).imp fun _ _ _ h => h.2.2.1 29 (by decide)) dX11_statement_1 ?_
  obtain ⟨v1, t2, ht2, hF⟩ := ob_e hF
  refine r_callV C (d' := 4) [.ref (wAd w (15, 29, 0, 0))] (c_X11_sees hW hS (show (sM Ω t).2.1 = t from rfl) N 29 (show 29 < 46 by decide) ht2 rfl) myX11_sees wm6_194 ⟨_, _, _, _, (hW.ok k11), rfl, rfl, rfl, rfl⟩ rfl (kR rfl) (by decide) (kR rfl) rfl dX11_statement_4 ?_
  refine r_if_eq C (tgt := 17) rfl dX11_statement_7 (fun hc => ?_) (fun hc => ?_)
  · rw [if_neg (b2i_f hc)] at hF
    refine r_aload_n C (k := 0) rfl rfl dX11_statement_17 ?_
    refine r_ldcwS C ((hS.s C).imp fun _ _ _ h => h.2.2.1 30 (by decide)) dX11_statement_18 ?_
    obtain ⟨v3, t4, ht4, hF⟩ := ob_e hF
    refine r_callV C (d' := 4) [.ref (wAd w (15, 30, 0, 0))] (c_X11_sees hW hS (show (sM Ω t2).2.1 = t2 from rfl) N 30 (show 30 < 46 by decide) ht4 rfl) myX11_sees wm6_194 ⟨_, _, _, _, (hW.ok k11), rfl, rfl, rfl, rfl⟩ rfl (kR rfl) (by decide) (kR rfl) rfl dX11_statement_21 ?_
    refine r_if_eq C (tgt := 34) rfl dX11_statement_24 (fun hc => ?_) (fun hc => ?_)
    · rw [if_neg (b2i_f hc)] at hF
      refine r_aload_n C (k := 0) rfl rfl dX11_statement_34 ?_
      refine r_ldcwS C ((hS.s C).imp fun _ _ _ h => h.2.2.1 31 (by decide)) dX11_statement_35 ?_
      obtain ⟨v5, t6, ht6, hF⟩ := ob_e hF
      refine r_callV C (d' := 4) [.ref (wAd w (15, 31, 0, 0))] (c_X11_sees hW hS (show (sM Ω t4).2.1 = t4 from rfl) N 31 (show 31 < 46 by decide) ht6 rfl) myX11_sees wm6_194 ⟨_, _, _, _, (hW.ok k11), rfl, rfl, rfl, rfl⟩ rfl (kR rfl) (by decide) (kR rfl) rfl dX11_statement_38 ?_
      refine r_if_eq C (tgt := 51) rfl dX11_statement_41 (fun hc => ?_) (fun hc => ?_)
      · rw [if_neg (b2i_f hc)] at hF
        refine r_aload_n C (k := 0) rfl rfl dX11_statement_51 ?_
        obtain ⟨v7, t8, ht8, hF⟩ := ob_e hF
        refine r_callV C (d' := 1) [] (c_X11_next hW (show (sM Ω t6).2.1 = t6 from rfl) N ht8 rfl) myX11_next wm6_198 ⟨_, _, _, _, (hW.ok k11), rfl, rfl, rfl, rfl⟩ rfl (kR rfl) (by decide) (kR rfl) rfl dX11_statement_52 ?_
        refine r_istore_n C (lo' := [(1, .int v7), (0, .ref (wAd w (11, 12, 0, 0)))]) rfl (by decide) rfl dX11_statement_55 ?_
        refine r_aload_n C (k := 1) rfl rfl dX11_statement_56 ?_
        refine r_iconst C (v := 0) rfl dX11_statement_57 ?_
        refine r_iconst C (v := 1) rfl dX11_statement_58 ?_
        obtain ⟨t10, ht10, hF⟩ := lt_e hF
        refine r_callV C (d' := 0) [.int (b2i false), .int 1] (c_X11_must hW (show (sM Ω t8).2.1 = t8 from rfl) false 1 ht10 rfl) myX11_must wm6_211 ⟨_, _, _, _, (hW.ok k11), rfl, rfl, rfl, rfl⟩ rfl (kR rfl) (by decide) (kR rfl) rfl dX11_statement_59 ?_
        refine r_aload_n C (k := 1) rfl rfl dX11_statement_62 ?_
        obtain ⟨t12, ht12, hF⟩ := ob1_e hF
        refine r_callV C (d' := 2) [] (c_X11_semicolon hW (show (sM Ω t10).2.1 = t10 from rfl) N ht12 rfl) myX11_semicolon wm6_225 ⟨_, _, _, _, (hW.ok k11), rfl, rfl, rfl, rfl⟩ rfl (kR rfl) (by decide) (kR rfl) rfl dX11_statement_63 ?_
        cases hF
        exact r_return C dX11_statement_66
      · rw [if_pos (b2i_t hc)] at hF
        refine r_aload_n C (k := 0) rfl rfl dX11_statement_44 ?_
        obtain ⟨t14, ht14, hF⟩ := ob1_e hF
        refine r_callV C (d' := 3) [] (c_X11_messageLine hW (show (sM Ω t6).2.1 = t6 from rfl) N ht14 rfl) myX11_messageLine wm7_39 ⟨_, _, _, _, (hW.ok k11), rfl, rfl, rfl, rfl⟩ rfl (kR rfl) (by decide) (kR rfl) rfl dX11_statement_45 ?_
        refine r_goto C (tgt := 62) rfl dX11_statement_48 ?_
        refine r_aload_n C (k := 0) rfl rfl dX11_statement_62 ?_
        obtain ⟨t16, ht16, hF⟩ := ob1_e hF
        refine r_callV C (d' := 2) [] (c_X11_semicolon hW (show (sM Ω t14).2.1 = t14 from rfl) N ht16 rfl) myX11_semicolon wm6_225 ⟨_, _, _, _, (hW.ok k11), rfl, rfl, rfl, rfl⟩ rfl (kR rfl) (by decide) (kR rfl) rfl dX11_statement_63 ?_
        cases hF
        exact r_return C dX11_statement_66
    · rw [if_pos (b2i_t hc)] at hF
      refine r_aload_n C (k := 0) rfl rfl dX11_statement_27 ?_
      obtain ⟨t18, ht18, hF⟩ := ob1_e hF
      refine r_callV C (d' := 3) [] (c_X11_nestLine hW (show (sM Ω t4).2.1 = t4 from rfl) N ht18 rfl) myX11_nestLine wm7_19 ⟨_, _, _, _, (hW.ok k11), rfl, rfl, rfl, rfl⟩ rfl (kR rfl) (by decide) (kR rfl) rfl dX11_statement_28 ?_
      refine r_goto C (tgt := 62) rfl dX11_statement_31 ?_
      refine r_aload_n C (k := 0) rfl rfl dX11_statement_62 ?_
      obtain ⟨t20, ht20, hF⟩ := ob1_e hF
      refine r_callV C (d' := 2) [] (c_X11_semicolon hW (show (sM Ω t18).2.1 = t18 from rfl) N ht20 rfl) myX11_semicolon wm6_225 ⟨_, _, _, _, (hW.ok k11), rfl, rfl, rfl, rfl⟩ rfl (kR rfl) (by decide) (kR rfl) rfl dX11_statement_63 ?_
      cases hF
      exact r_return C dX11_statement_66
  · rw [if_pos (b2i_t hc)] at hF
    refine r_aload_n C (k := 0) rfl rfl dX11_statement_10 ?_
    obtain ⟨t22, ht22, hF⟩ := ob1_e hF
    refine r_callV C (d' := 3) [] (c_X11_twigLine hW (show (sM Ω t2).2.1 = t2 from rfl) N ht22 rfl) myX11_twigLine wm6_234 ⟨_, _, _, _, (hW.ok k11), rfl, rfl, rfl, rfl⟩ rfl (kR rfl) (by decide) (kR rfl) rfl dX11_statement_11 ?_
    refine r_goto C (tgt := 62) rfl dX11_statement_14 ?_
    refine r_aload_n C (k := 0) rfl rfl dX11_statement_62 ?_
    obtain ⟨t24, ht24, hF⟩ := ob1_e hF
    refine r_callV C (d' := 2) [] (c_X11_semicolon hW (show (sM Ω t22).2.1 = t22 from rfl) N ht24 rfl) myX11_semicolon wm6_225 ⟨_, _, _, _, (hW.ok k11), rfl, rfl, rfl, rfl⟩ rfl (kR rfl) (by decide) (kR rfl) rfl dX11_statement_63 ?_
    cases hF
    exact r_return C dX11_statement_66
theorem dX11_otherCommand_0 : decode cX11_otherCommand 0 = .ok (.aload_n 0, 1) := by decide +kernel
theorem dX11_otherCommand_1 : decode cX11_otherCommand 1 = .ok (.ldc_w 303, 3) := by decide +kernel
theorem dX11_otherCommand_4 : decode cX11_otherCommand 4 = .ok (.invokevirtual 274, 3) := by decide +kernel
theorem dX11_otherCommand_7 : decode cX11_otherCommand 7 = .ok (.ifCond .eq 5, 3) := by decide +kernel
theorem dX11_otherCommand_10 : decode cX11_otherCommand 10 = .ok (.iconst 4, 1) := by decide +kernel
theorem dX11_otherCommand_11 : decode cX11_otherCommand 11 = .ok (.ireturn, 1) := by decide +kernel
theorem dX11_otherCommand_12 : decode cX11_otherCommand 12 = .ok (.aload_n 0, 1) := by decide +kernel
theorem dX11_otherCommand_13 : decode cX11_otherCommand 13 = .ok (.ldc_w 324, 3) := by decide +kernel
theorem dX11_otherCommand_16 : decode cX11_otherCommand 16 = .ok (.invokevirtual 274, 3) := by decide +kernel
theorem dX11_otherCommand_19 : decode cX11_otherCommand 19 = .ok (.ifCond .eq 5, 3) := by decide +kernel
theorem dX11_otherCommand_22 : decode cX11_otherCommand 22 = .ok (.iconst 5, 1) := by decide +kernel
theorem dX11_otherCommand_23 : decode cX11_otherCommand 23 = .ok (.ireturn, 1) := by decide +kernel
theorem dX11_otherCommand_24 : decode cX11_otherCommand 24 = .ok (.aload_n 0, 1) := by decide +kernel
theorem dX11_otherCommand_25 : decode cX11_otherCommand 25 = .ok (.ldc_w 326, 3) := by decide +kernel
theorem dX11_otherCommand_28 : decode cX11_otherCommand 28 = .ok (.invokevirtual 274, 3) := by decide +kernel
theorem dX11_otherCommand_31 : decode cX11_otherCommand 31 = .ok (.ifCond .eq 6, 3) := by decide +kernel
theorem dX11_otherCommand_34 : decode cX11_otherCommand 34 = .ok (.bipush 6, 2) := by decide +kernel
theorem dX11_otherCommand_36 : decode cX11_otherCommand 36 = .ok (.ireturn, 1) := by decide +kernel
theorem dX11_otherCommand_37 : decode cX11_otherCommand 37 = .ok (.aload_n 0, 1) := by decide +kernel
theorem dX11_otherCommand_38 : decode cX11_otherCommand 38 = .ok (.ldc_w 328, 3) := by decide +kernel
theorem dX11_otherCommand_41 : decode cX11_otherCommand 41 = .ok (.invokevirtual 274, 3) := by decide +kernel
theorem dX11_otherCommand_44 : decode cX11_otherCommand 44 = .ok (.ifCond .eq 8, 3) := by decide +kernel
theorem dX11_otherCommand_47 : decode cX11_otherCommand 47 = .ok (.bipush 7, 2) := by decide +kernel
theorem dX11_otherCommand_49 : decode cX11_otherCommand 49 = .ok (.goto 4, 3) := by decide +kernel
theorem dX11_otherCommand_52 : decode cX11_otherCommand 52 = .ok (.iconst (-1), 1) := by decide +kernel
theorem dX11_otherCommand_53 : decode cX11_otherCommand 53 = .ok (.ireturn, 1) := by decide +kernel
def F_X11_otherCommand (N : Nat) (t : HV) : Option (Int32 × (HV)) := (ob (F_X11_sees N 31 t) fun v1 t2 => (if v1 = true then some (4, t2) else (ob (F_X11_sees N 35 t2) fun v3 t4 => (if v3 = true then some (5, t4) else (ob (F_X11_sees N 36 t4) fun v5 t6 => (if v5 = true then some (6, t6) else (ob (F_X11_sees N 37 t6) fun v7 t8 => (if v7 = true then some (7, t8) else some ((-1), t8)))))))))
theorem c_X11_otherCommand {w : WP} (hW : gWM w) (hS : gS w) {Ω : OM}  {t : HV} (e : Ω.2.1 = t) (N : Nat)  {v : Int32} {t' : HV} (hF : F_X11_otherCommand N t = some (v, t')) {Ω' : OM} (e2 : (sM Ω t') = Ω') : gM w 5 yX11_otherCommand cX11_otherCommand 1 (some .int) [.ref (wAd w (11, 12, 0, 0))] (cA w Ω) (some (.int v)) (cA w Ω') := by
  refine gM_of "HedgeMessagesModel" rfl (by decide) (kR rfl) fun X C => ?_
  unfold F_X11_otherCommand at hF
  subst e2
  show gV w X _ _ 0 [(0, .ref (wAd w (11, 12, 0, 0)))] []
  refine r_ct (ct' := cA w (sM Ω t)) (congrArg (cA w) (sM_i e).symm) ?_
  refine r_aload_n C (k := 0) rfl rfl dX11_otherCommand_0 ?_
  refine r_ldcwS C ((hS.s C).imp fun _ _ _ h => h.2.2.1 31 (by decide)) dX11_otherCommand_1 ?_
  obtain ⟨v1, t2, ht2, hF⟩ := ob_e hF
  refine r_callV C (d' := 4) [.ref (wAd w (15, 31, 0, 0))] (c_X11_sees hW hS (show (sM Ω t).2.1 = t from rfl) N 31 (show 31 < 46 by decide) ht2 rfl) myX11_sees wm6_194 ⟨_, _, _, _, (hW.ok k11), rfl, rfl, rfl, rfl⟩ rfl (kR rfl) (by decide) (kR rfl) rfl dX11_otherCommand_4 ?_
  refine r_if_eq C (tgt := 12) rfl dX11_otherCommand_7 (fun hc => ?_) (fun hc => ?_)
  · rw [if_neg (b2i_f hc)] at hF
    refine r_aload_n C (k := 0) rfl rfl dX11_otherCommand_12 ?_
    refine r_ldcwS C ((hS.s C).imp fun _ _ _ h => h.2.2.1 35 (by decide)) dX11_otherCommand_13 ?_
    obtain ⟨v3, t4, ht4, hF⟩ := ob_e hF
    refine r_callV C (d' := 4) [.ref (wAd w (15, 35, 0, 0))] (c_X11_sees hW hS (show (sM Ω t2).2.1 = t2 from rfl) N 35 (show 35 < 46 by decide) ht4 rfl) myX11_sees wm6_194 ⟨_, _, _, _, (hW.ok k11), rfl, rfl, rfl, rfl⟩ rfl (kR rfl) (by decide) (kR rfl) rfl dX11_otherCommand_16 ?_
    refine r_if_eq C (tgt := 24) rfl dX11_otherCommand_19 (fun hc => ?_) (fun hc => ?_)
    · rw [if_neg (b2i_f hc)] at hF
      refine r_aload_n C (k := 0) rfl rfl dX11_otherCommand_24 ?_
      refine r_ldcwS C ((hS.s C).imp fun _ _ _ h => h.2.2.1 36 (by decide)) dX11_otherCommand_25 ?_
      obtain ⟨v5, t6, ht6, hF⟩ := ob_e hF
      refine r_callV C (d' := 4) [.ref (wAd w (15, 36, 0, 0))] (c_X11_sees hW hS (show (sM Ω t4).2.1 = t4 from rfl) N 36 (show 36 < 46 by decide) ht6 rfl) myX11_sees wm6_194 ⟨_, _, _, _, (hW.ok k11), rfl, rfl, rfl, rfl⟩ rfl (kR rfl) (by decide) (kR rfl) rfl dX11_otherCommand_28 ?_
      refine r_if_eq C (tgt := 37) rfl dX11_otherCommand_31 (fun hc => ?_) (fun hc => ?_)
      · rw [if_neg (b2i_f hc)] at hF
        refine r_aload_n C (k := 0) rfl rfl dX11_otherCommand_37 ?_
        refine r_ldcwS C ((hS.s C).imp fun _ _ _ h => h.2.2.1 37 (by decide)) dX11_otherCommand_38 ?_
        obtain ⟨v7, t8, ht8, hF⟩ := ob_e hF
        refine r_callV C (d' := 4) [.ref (wAd w (15, 37, 0, 0))] (c_X11_sees hW hS (show (sM Ω t6).2.1 = t6 from rfl) N 37 (show 37 < 46 by decide) ht8 rfl) myX11_sees wm6_194 ⟨_, _, _, _, (hW.ok k11), rfl, rfl, rfl, rfl⟩ rfl (kR rfl) (by decide) (kR rfl) rfl dX11_otherCommand_41 ?_
        refine r_if_eq C (tgt := 52) rfl dX11_otherCommand_44 (fun hc => ?_) (fun hc => ?_)
        · rw [if_neg (b2i_f hc)] at hF
          refine r_iconst C (v := (-1)) (by decide) dX11_otherCommand_52 ?_
          cases hF
          exact r_ireturn C dX11_otherCommand_53
        · rw [if_pos (b2i_t hc)] at hF
          refine r_bipush C (v := 7) rfl dX11_otherCommand_47 ?_
          refine r_goto C (tgt := 53) rfl dX11_otherCommand_49 ?_
          cases hF
          exact r_ireturn C dX11_otherCommand_53
      · rw [if_pos (b2i_t hc)] at hF
        refine r_bipush C (v := 6) rfl dX11_otherCommand_34 ?_
        cases hF
        exact r_ireturn C dX11_otherCommand_36
    · rw [if_pos (b2i_t hc)] at hF
      refine r_iconst C (v := 5) rfl dX11_otherCommand_22 ?_
      cases hF
      exact r_ireturn C dX11_otherCommand_23
  · rw [if_pos (b2i_t hc)] at hF
    refine r_iconst C (v := 4) rfl dX11_otherCommand_10 ?_
    cases hF
    exact r_ireturn C dX11_otherCommand_11
theorem dX11_commandHere_0 : decode cX11_commandHere 0 = .ok (.aload_n 0, 1) := by decide +kernel
theorem dX11_commandHere_1 : decode cX11_commandHere 1 = .ok (.ldc_w 330, 3) := by decide +kernel
theorem dX11_commandHere_4 : decode cX11_commandHere 4 = .ok (.invokevirtual 274, 3) := by decide +kernel
theorem dX11_commandHere_7 : decode cX11_commandHere 7 = .ok (.ifCond .eq 5, 3) := by decide +kernel
theorem dX11_commandHere_10 : decode cX11_commandHere 10 = .ok (.iconst 0, 1) := by decide +kernel
theorem dX11_commandHere_11 : decode cX11_commandHere 11 = .ok (.ireturn, 1) := by decide +kernel
theorem dX11_commandHere_12 : decode cX11_commandHere 12 = .ok (.aload_n 0, 1) := by decide +kernel
theorem dX11_commandHere_13 : decode cX11_commandHere 13 = .ok (.ldc_w 332, 3) := by decide +kernel
theorem dX11_commandHere_16 : decode cX11_commandHere 16 = .ok (.invokevirtual 274, 3) := by decide +kernel
theorem dX11_commandHere_19 : decode cX11_commandHere 19 = .ok (.ifCond .eq 5, 3) := by decide +kernel
theorem dX11_commandHere_22 : decode cX11_commandHere 22 = .ok (.iconst 1, 1) := by decide +kernel
theorem dX11_commandHere_23 : decode cX11_commandHere 23 = .ok (.ireturn, 1) := by decide +kernel
theorem dX11_commandHere_24 : decode cX11_commandHere 24 = .ok (.aload_n 0, 1) := by decide +kernel
theorem dX11_commandHere_25 : decode cX11_commandHere 25 = .ok (.ldc_w 334, 3) := by decide +kernel
theorem dX11_commandHere_28 : decode cX11_commandHere 28 = .ok (.invokevirtual 274, 3) := by decide +kernel
theorem dX11_commandHere_31 : decode cX11_commandHere 31 = .ok (.ifCond .eq 5, 3) := by decide +kernel
theorem dX11_commandHere_34 : decode cX11_commandHere 34 = .ok (.iconst 2, 1) := by decide +kernel
theorem dX11_commandHere_35 : decode cX11_commandHere 35 = .ok (.ireturn, 1) := by decide +kernel
theorem dX11_commandHere_36 : decode cX11_commandHere 36 = .ok (.aload_n 0, 1) := by decide +kernel
theorem dX11_commandHere_37 : decode cX11_commandHere 37 = .ok (.ldc_w 298, 3) := by decide +kernel
theorem dX11_commandHere_40 : decode cX11_commandHere 40 = .ok (.invokevirtual 274, 3) := by decide +kernel
theorem dX11_commandHere_43 : decode cX11_commandHere 43 = .ok (.ifCond .eq 7, 3) := by decide +kernel
theorem dX11_commandHere_46 : decode cX11_commandHere 46 = .ok (.iconst 3, 1) := by decide +kernel
theorem dX11_commandHere_47 : decode cX11_commandHere 47 = .ok (.goto 7, 3) := by decide +kernel
theorem dX11_commandHere_50 : decode cX11_commandHere 50 = .ok (.aload_n 0, 1) := by decide +kernel
theorem dX11_commandHere_51 : decode cX11_commandHere 51 = .ok (.invokevirtual 336, 3) := by decide +kernel
theorem dX11_commandHere_54 : decode cX11_commandHere 54 = .ok (.ireturn, 1) := by decide +kernel
def F_X11_commandHere (N : Nat) (t : HV) : Option (Int32 × (HV)) := (ob (F_X11_sees N 32 t) fun v1 t2 => (if v1 = true then some (0, t2) else (ob (F_X11_sees N 33 t2) fun v3 t4 => (if v3 = true then some (1, t4) else (ob (F_X11_sees N 34 t4) fun v5 t6 => (if v5 = true then some (2, t6) else (ob (F_X11_sees N 30 t6) fun v7 t8 => (if v7 = true then some (3, t8) else (ob (F_X11_otherCommand N t8) fun v9 t10 => some (v9, t10))))))))))
theorem c_X11_commandHere {w : WP} (hW : gWM w) (hS : gS w) {Ω : OM}  {t : HV} (e : Ω.2.1 = t) (N : Nat)  {v : Int32} {t' : HV} (hF : F_X11_commandHere N t = some (v, t')) {Ω' : OM} (e2 : (sM Ω t') = Ω') : gM w 6 yX11_commandHere cX11_commandHere 1 (some .int) [.ref (wAd w (11, 12, 0, 0))] (cA w Ω) (some (.int v)) (cA w Ω') := by
  refine gM_of "HedgeMessagesModel" rfl (by decide) (kR rfl) fun X C => ?_
  unfold F_X11_commandHere at hF
  subst e2
  show gV w X _ _ 0 [(0, .ref (wAd w (11, 12, 0, 0)))] []
  refine r_ct (ct' := cA w (sM Ω t)) (congrArg (cA w) (sM_i e).symm) ?_
  refine r_aload_n C (k := 0) rfl rfl dX11_commandHere_0 ?_
  refine r_ldcwS C ((hS.s C).imp fun _ _ _ h => h.2.2.1 32 (by decide)) dX11_commandHere_1 ?_
  obtain ⟨v1, t2, ht2, hF⟩ := ob_e hF
  refine r_callV C (d' := 4) [.ref (wAd w (15, 32, 0, 0))] (c_X11_sees hW hS (show (sM Ω t).2.1 = t from rfl) N 32 (show 32 < 46 by decide) ht2 rfl) myX11_sees wm6_194 ⟨_, _, _, _, (hW.ok k11), rfl, rfl, rfl, rfl⟩ rfl (kR rfl) (by decide) (kR rfl) rfl dX11_commandHere_4 ?_
  refine r_if_eq C (tgt := 12) rfl dX11_commandHere_7 (fun hc => ?_) (fun hc => ?_)
  · rw [if_neg (b2i_f hc)] at hF
    refine r_aload_n C (k := 0) rfl rfl dX11_commandHere_12 ?_
    refine r_ldcwS C ((hS.s C).imp fun _ _ _ h => h.2.2.1 33 (by decide)) dX11_commandHere_13 ?_
    obtain ⟨v3, t4, ht4, hF⟩ := ob_e hF
    refine r_callV C (d' := 4) [.ref (wAd w (15, 33, 0, 0))] (c_X11_sees hW hS (show (sM Ω t2).2.1 = t2 from rfl) N 33 (show 33 < 46 by decide) ht4 rfl) myX11_sees wm6_194 ⟨_, _, _, _, (hW.ok k11), rfl, rfl, rfl, rfl⟩ rfl (kR rfl) (by decide) (kR rfl) rfl dX11_commandHere_16 ?_
    refine r_if_eq C (tgt := 24) rfl dX11_commandHere_19 (fun hc => ?_) (fun hc => ?_)
    · rw [if_neg (b2i_f hc)] at hF
      refine r_aload_n C (k := 0) rfl rfl dX11_commandHere_24 ?_
      refine r_ldcwS C ((hS.s C).imp fun _ _ _ h => h.2.2.1 34 (by decide)) dX11_commandHere_25 ?_
      obtain ⟨v5, t6, ht6, hF⟩ := ob_e hF
      refine r_callV C (d' := 4) [.ref (wAd w (15, 34, 0, 0))] (c_X11_sees hW hS (show (sM Ω t4).2.1 = t4 from rfl) N 34 (show 34 < 46 by decide) ht6 rfl) myX11_sees wm6_194 ⟨_, _, _, _, (hW.ok k11), rfl, rfl, rfl, rfl⟩ rfl (kR rfl) (by decide) (kR rfl) rfl dX11_commandHere_28 ?_
      refine r_if_eq C (tgt := 36) rfl dX11_commandHere_31 (fun hc => ?_) (fun hc => ?_)
      · rw [if_neg (b2i_f hc)] at hF
        refine r_aload_n C (k := 0) rfl rfl dX11_commandHere_36 ?_
        refine r_ldcwS C ((hS.s C).imp fun _ _ _ h => h.2.2.1 30 (by decide)) dX11_commandHere_37 ?_
        obtain ⟨v7, t8, ht8, hF⟩ := ob_e hF
        refine r_callV C (d' := 4) [.ref (wAd w (15, 30, 0, 0))] (c_X11_sees hW hS (show (sM Ω t6).2.1 = t6 from rfl) N 30 (show 30 < 46 by decide) ht8 rfl) myX11_sees wm6_194 ⟨_, _, _, _, (hW.ok k11), rfl, rfl, rfl, rfl⟩ rfl (kR rfl) (by decide) (kR rfl) rfl dX11_commandHere_40 ?_
        refine r_if_eq C (tgt := 50) rfl dX11_commandHere_43 (fun hc => ?_) (fun hc => ?_)
        · rw [if_neg (b2i_f hc)] at hF
          refine r_aload_n C (k := 0) rfl rfl dX11_commandHere_50 ?_
          obtain ⟨v9, t10, ht10, hF⟩ := ob_e hF
          refine r_callV C (d' := 5) [] (c_X11_otherCommand hW hS (show (sM Ω t8).2.1 = t8 from rfl) N ht10 rfl) myX11_otherCommand wm7_177 ⟨_, _, _, _, (hW.ok k11), rfl, rfl, rfl, rfl⟩ rfl (kR rfl) (by decide) (kR rfl) rfl dX11_commandHere_51 ?_
          cases hF
          exact r_ireturn C dX11_commandHere_54
        · rw [if_pos (b2i_t hc)] at hF
          refine r_iconst C (v := 3) rfl dX11_commandHere_46 ?_
          refine r_goto C (tgt := 54) rfl dX11_commandHere_47 ?_
          cases hF
          exact r_ireturn C dX11_commandHere_54
      · rw [if_pos (b2i_t hc)] at hF
        refine r_iconst C (v := 2) rfl dX11_commandHere_34 ?_
        cases hF
        exact r_ireturn C dX11_commandHere_35
    · rw [if_pos (b2i_t hc)] at hF
      refine r_iconst C (v := 1) rfl dX11_commandHere_22 ?_
      cases hF
      exact r_ireturn C dX11_commandHere_23
  · rw [if_pos (b2i_t hc)] at hF
    refine r_iconst C (v := 0) rfl dX11_commandHere_10 ?_
    cases hF
    exact r_ireturn C dX11_commandHere_11
theorem dX11_readsOne_0 : decode cX11_readsOne 0 = .ok (.aload_n 0, 1) := by decide +kernel
theorem dX11_readsOne_1 : decode cX11_readsOne 1 = .ok (.invokevirtual 345, 3) := by decide +kernel
theorem dX11_readsOne_4 : decode cX11_readsOne 4 = .ok (.istore_n 1, 1) := by decide +kernel
theorem dX11_readsOne_5 : decode cX11_readsOne 5 = .ok (.aload_n 0, 1) := by decide +kernel
theorem dX11_readsOne_6 : decode cX11_readsOne 6 = .ok (.iload_n 1, 1) := by decide +kernel
theorem dX11_readsOne_7 : decode cX11_readsOne 7 = .ok (.iconst (-1), 1) := by decide +kernel
theorem dX11_readsOne_8 : decode cX11_readsOne 8 = .ok (.if_icmp .eq 7, 3) := by decide +kernel
theorem dX11_readsOne_11 : decode cX11_readsOne 11 = .ok (.iconst 1, 1) := by decide +kernel
theorem dX11_readsOne_12 : decode cX11_readsOne 12 = .ok (.goto 4, 3) := by decide +kernel
theorem dX11_readsOne_15 : decode cX11_readsOne 15 = .ok (.iconst 0, 1) := by decide +kernel
theorem dX11_readsOne_16 : decode cX11_readsOne 16 = .ok (.iconst 1, 1) := by decide +kernel
theorem dX11_readsOne_17 : decode cX11_readsOne 17 = .ok (.invokevirtual 253, 3) := by decide +kernel
theorem dX11_readsOne_20 : decode cX11_readsOne 20 = .ok (.aload_n 0, 1) := by decide +kernel
theorem dX11_readsOne_21 : decode cX11_readsOne 21 = .ok (.aload_n 0, 1) := by decide +kernel
theorem dX11_readsOne_22 : decode cX11_readsOne 22 = .ok (.getfield 348, 3) := by decide +kernel
theorem dX11_readsOne_25 : decode cX11_readsOne 25 = .ok (.bipush 30, 2) := by decide +kernel
theorem dX11_readsOne_27 : decode cX11_readsOne 27 = .ok (.if_icmp .ge 7, 3) := by decide +kernel
theorem dX11_readsOne_30 : decode cX11_readsOne 30 = .ok (.iconst 1, 1) := by decide +kernel
theorem dX11_readsOne_31 : decode cX11_readsOne 31 = .ok (.goto 4, 3) := by decide +kernel
theorem dX11_readsOne_34 : decode cX11_readsOne 34 = .ok (.iconst 0, 1) := by decide +kernel
theorem dX11_readsOne_35 : decode cX11_readsOne 35 = .ok (.iconst 4, 1) := by decide +kernel
theorem dX11_readsOne_36 : decode cX11_readsOne 36 = .ok (.invokevirtual 253, 3) := by decide +kernel
theorem dX11_readsOne_39 : decode cX11_readsOne 39 = .ok (.aload_n 0, 1) := by decide +kernel
theorem dX11_readsOne_40 : decode cX11_readsOne 40 = .ok (.getfield 244, 3) := by decide +kernel
theorem dX11_readsOne_43 : decode cX11_readsOne 43 = .ok (.ifCond .eq 4, 3) := by decide +kernel
theorem dX11_readsOne_46 : decode cX11_readsOne 46 = .ok (.return_, 1) := by decide +kernel
theorem dX11_readsOne_47 : decode cX11_readsOne 47 = .ok (.aload_n 0, 1) := by decide +kernel
theorem dX11_readsOne_48 : decode cX11_readsOne 48 = .ok (.invokevirtual 261, 3) := by decide +kernel
theorem dX11_readsOne_51 : decode cX11_readsOne 51 = .ok (.aload_n 0, 1) := by decide +kernel
theorem dX11_readsOne_52 : decode cX11_readsOne 52 = .ok (.getfield 35, 3) := by decide +kernel
theorem dX11_readsOne_55 : decode cX11_readsOne 55 = .ok (.bipush 16, 2) := by decide +kernel
theorem dX11_readsOne_57 : decode cX11_readsOne 57 = .ok (.aload_n 0, 1) := by decide +kernel
theorem dX11_readsOne_58 : decode cX11_readsOne 58 = .ok (.getfield 348, 3) := by decide +kernel
theorem dX11_readsOne_61 : decode cX11_readsOne 61 = .ok (.imul, 1) := by decide +kernel
theorem dX11_readsOne_62 : decode cX11_readsOne 62 = .ok (.iload_n 1, 1) := by decide +kernel
theorem dX11_readsOne_63 : decode cX11_readsOne 63 = .ok (.iastore, 1) := by decide +kernel
theorem dX11_readsOne_64 : decode cX11_readsOne 64 = .ok (.aload_n 0, 1) := by decide +kernel
theorem dX11_readsOne_65 : decode cX11_readsOne 65 = .ok (.iload_n 1, 1) := by decide +kernel
theorem dX11_readsOne_66 : decode cX11_readsOne 66 = .ok (.bipush 16, 2) := by decide +kernel
theorem dX11_readsOne_68 : decode cX11_readsOne 68 = .ok (.aload_n 0, 1) := by decide +kernel
theorem dX11_readsOne_69 : decode cX11_readsOne 69 = .ok (.getfield 348, 3) := by decide +kernel
theorem dX11_readsOne_72 : decode cX11_readsOne 72 = .ok (.imul, 1) := by decide +kernel
theorem dX11_readsOne_73 : decode cX11_readsOne 73 = .ok (.iconst 1, 1) := by decide +kernel
theorem dX11_readsOne_74 : decode cX11_readsOne 74 = .ok (.iadd, 1) := by decide +kernel
theorem dX11_readsOne_75 : decode cX11_readsOne 75 = .ok (.invokevirtual 351, 3) := by decide +kernel
theorem dX11_readsOne_78 : decode cX11_readsOne 78 = .ok (.aload_n 0, 1) := by decide +kernel
theorem dX11_readsOne_79 : decode cX11_readsOne 79 = .ok (.dup, 1) := by decide +kernel
theorem dX11_readsOne_80 : decode cX11_readsOne 80 = .ok (.getfield 348, 3) := by decide +kernel
theorem dX11_readsOne_83 : decode cX11_readsOne 83 = .ok (.iconst 1, 1) := by decide +kernel
theorem dX11_readsOne_84 : decode cX11_readsOne 84 = .ok (.iadd, 1) := by decide +kernel
theorem dX11_readsOne_85 : decode cX11_readsOne 85 = .ok (.putfield 348, 3) := by decide +kernel
theorem dX11_readsOne_88 : decode cX11_readsOne 88 = .ok (.aload_n 0, 1) := by decide +kernel
theorem dX11_readsOne_89 : decode cX11_readsOne 89 = .ok (.invokevirtual 281, 3) := by decide +kernel
theorem dX11_readsOne_92 : decode cX11_readsOne 92 = .ok (.return_, 1) := by decide +kernel
def F_X11_readsOne (N : Nat) (t : HV) : Option (HV) := (ob (F_X11_commandHere N t) fun v1 t2 => (if v1 = (-1) then (lt (F_X11_must false 1 t2) fun t4 => (if 30 ≤ (t4.1 20) then (lt (F_X11_must false 4 t4) fun t6 => (if (t6.1 15) = 0 then (lt (F_X11_goesPast t6) fun t8 => (if vpb (16 * (t8.1 20)) 480 = true then (lt (aw t8 19 (16 * (t8.1 20)) v1) fun t10 => (ob1 (F_X11_partsOf N v1 ((16 * (t10.1 20)) + 1) t10) fun t12 => (lt (sS t12 20 ((t12.1 20) + 1)) fun t13 => (ob1 (F_X11_semicolon N t13) fun t15 => some t15)))) else none)) else some t6)) else (lt (F_X11_must true 4 t4) fun t17 => (if (t17.1 15) = 0 then (lt (F_X11_goesPast t17) fun t19 => (if vpb (16 * (t19.1 20)) 480 = true then (lt (aw t19 19 (16 * (t19.1 20)) v1) fun t21 => (ob1 (F_X11_partsOf N v1 ((16 * (t21.1 20)) + 1) t21) fun t23 => (lt (sS t23 20 ((t23.1 20) + 1)) fun t24 => (ob1 (F_X11_semicolon N t24) fun t26 => some t26)))) else none)) else some t17)))) else (lt (F_X11_must true 1 t2) fun t28 => (if 30 ≤ (t28.1 20) then (lt (F_X11_must false 4 t28) fun t30 => (if (t30.1 15) = 0 then (lt (F_X11_goesPast t30) fun t32 => (if vpb (16 * (t32.1 20)) 480 = true then (lt (aw t32 19 (16 * (t32.1 20)) v1) fun t34 => (ob1 (F_X11_partsOf N v1 ((16 * (t34.1 20)) + 1) t34) fun t36 => (lt (sS t36 20 ((t36.1 20) + 1)) fun t37 => (ob1 (F_X11_semicolon N t37) fun t39 => some t39)))) else none)) else some t30)) else (lt (F_X11_must true 4 t28) fun t41 => (if (t41.1 15) = 0 then (lt (F_X11_goesPast t41) fun t43 => (if vpb (16 * (t43.1 20)) 480 = true then (lt (aw t43 19 (16 * (t43.1 20)) v1) fun t45 => (ob1 (F_X11_partsOf N v1 ((16 * (t45.1 20)) + 1) t45) fun t47 => (lt (sS t47 20 ((t47.1 20) + 1)) fun t48 => (ob1 (F_X11_semicolon N t48) fun t50 => some t50)))) else none)) else some t41))))))
theorem c_X11_readsOne {w : WP} (hW : gWM w) (hS : gS w) {Ω : OM}  {t : HV} (e : Ω.2.1 = t) (N : Nat)  {t' : HV} (hF : F_X11_readsOne N t = some t') {Ω' : OM} (e2 : (sM Ω t') = Ω') : gM w 7 yX11_readsOne cX11_readsOne 2 none [.ref (wAd w (11, 12, 0, 0))] (cA w Ω) none (cA w Ω') := by
  refine gM_of "HedgeMessagesModel" rfl (by decide) (kR rfl) fun X C => ?_
  unfold F_X11_readsOne at hF
  subst e2
  show gV w X _ _ 0 [(0, .ref (wAd w (11, 12, 0, 0)))] []
  refine r_ct (ct' := cA w (sM Ω t)) (congrArg (cA w) (sM_i e).symm) ?_
  refine r_aload_n C (k := 0) rfl rfl dX11_readsOne_0 ?_
  obtain ⟨v1, t2, ht2, hF⟩ := ob_e hF
  refine r_callV C (d' := 6) [] (c_X11_commandHere hW hS (show (sM Ω t).2.1 = t from rfl) N ht2 rfl) myX11_commandHere wm7_170 ⟨_, _, _, _, (hW.ok k11), rfl, rfl, rfl, rfl⟩ rfl (kR rfl) (by decide) (kR rfl) rfl dX11_readsOne_1 ?_
  refine r_istore_n C (lo' := [(1, .int v1), (0, .ref (wAd w (11, 12, 0, 0)))]) rfl (by decide) rfl dX11_readsOne_4 ?_
  refine r_aload_n C (k := 1) rfl rfl dX11_readsOne_5 ?_
  refine r_iload_n C (k := 0) rfl rfl dX11_readsOne_6 ?_
  refine r_iconst C (v := (-1)) (by decide) dX11_readsOne_7 ?_
  refine r_icmp_eq C (tgt := 15) rfl dX11_readsOne_8 (fun hc => ?_) (fun hc => ?_)
  · rw [if_pos hc] at hF
    refine r_iconst C (v := 0) rfl dX11_readsOne_15 ?_
    refine r_iconst C (v := 1) rfl dX11_readsOne_16 ?_
    obtain ⟨t4, ht4, hF⟩ := lt_e hF
    refine r_callV C (d' := 0) [.int (b2i false), .int 1] (c_X11_must hW (show (sM Ω t2).2.1 = t2 from rfl) false 1 ht4 rfl) myX11_must wm6_211 ⟨_, _, _, _, (hW.ok k11), rfl, rfl, rfl, rfl⟩ rfl (kR rfl) (by decide) (kR rfl) rfl dX11_readsOne_17 ?_
    refine r_aload_n C (k := 1) rfl rfl dX11_readsOne_20 ?_
    refine r_aload_n C (k := 1) rfl rfl dX11_readsOne_21 ?_
    refine og_11_20 C (hW.ok k11) (show (sM Ω t4).2.1 = t4 from rfl) wm7_87 dX11_readsOne_22 ?_
    refine r_bipush C (v := 30) rfl dX11_readsOne_25 ?_
    refine r_icmp_ge C (tgt := 34) rfl dX11_readsOne_27 (fun hc => ?_) (fun hc => ?_)
    · rw [if_pos hc] at hF
      refine r_iconst C (v := 0) rfl dX11_readsOne_34 ?_
      refine r_iconst C (v := 4) rfl dX11_readsOne_35 ?_
      obtain ⟨t6, ht6, hF⟩ := lt_e hF
      refine r_callV C (d' := 0) [.int (b2i false), .int 4] (c_X11_must hW (show (sM Ω t4).2.1 = t4 from rfl) false 4 ht6 rfl) myX11_must wm6_211 ⟨_, _, _, _, (hW.ok k11), rfl, rfl, rfl, rfl⟩ rfl (kR rfl) (by decide) (kR rfl) rfl dX11_readsOne_36 ?_
      refine r_aload_n C (k := 1) rfl rfl dX11_readsOne_39 ?_
      refine og_11_15 C (hW.ok k11) (show (sM Ω t6).2.1 = t6 from rfl) wm7_82 dX11_readsOne_40 ?_
      refine r_if_eq C (tgt := 47) rfl dX11_readsOne_43 (fun hc => ?_) (fun hc => ?_)
      · rw [if_pos hc] at hF
        refine r_aload_n C (k := 1) rfl rfl dX11_readsOne_47 ?_
        obtain ⟨t8, ht8, hF⟩ := lt_e hF
        refine r_callV C (d' := 0) [] (c_X11_goesPast hW (show (sM Ω t6).2.1 = t6 from rfl) ht8 rfl) myX11_goesPast wm6_215 ⟨_, _, _, _, (hW.ok k11), rfl, rfl, rfl, rfl⟩ rfl (kR rfl) (by decide) (kR rfl) rfl dX11_readsOne_48 ?_
        refine r_aload_n C (k := 1) rfl rfl dX11_readsOne_51 ?_
        refine og_11_19 C (hW.ok k11) wm7_86 dX11_readsOne_52 ?_
        refine r_bipush C (v := 16) rfl dX11_readsOne_55 ?_
        refine r_aload_n C (k := 1) rfl rfl dX11_readsOne_57 ?_
        refine og_11_20 C (hW.ok k11) (show (sM Ω t8).2.1 = t8 from rfl) wm7_87 dX11_readsOne_58 ?_
        refine r_imul C dX11_readsOne_61 ?_
        refine r_iload_n C (k := 0) rfl rfl dX11_readsOne_62 ?_
        obtain ⟨b9, hF⟩ := gd_e hF
        obtain ⟨t10, et10, hF⟩ := lt_e hF
        refine m_ast C hW.x (hW.fr (k12 (a := 19) (by unfold okMa; decide))) (show (sM Ω t8).2.1 = t8 from rfl) rfl b9 dX11_readsOne_63 (congrArg (sM Ω) et10) ?_
        refine r_aload_n C (k := 1) rfl rfl dX11_readsOne_64 ?_
        refine r_iload_n C (k := 0) rfl rfl dX11_readsOne_65 ?_
        refine r_bipush C (v := 16) rfl dX11_readsOne_66 ?_
        refine r_aload_n C (k := 1) rfl rfl dX11_readsOne_68 ?_
        refine og_11_20 C (hW.ok k11) (show (sM Ω t10).2.1 = t10 from rfl) wm7_87 dX11_readsOne_69 ?_
        refine r_imul C dX11_readsOne_72 ?_
        refine r_iconst C (v := 1) rfl dX11_readsOne_73 ?_
        refine r_iadd C dX11_readsOne_74 ?_
        obtain ⟨t12, ht12, hF⟩ := ob1_e hF
        refine r_callV C (d' := 4) [.int v1, .int ((16 * (t10.1 20)) + 1)] (c_X11_partsOf hW (show (sM Ω t10).2.1 = t10 from rfl) N v1 ((16 * (t10.1 20)) + 1) ht12 rfl) myX11_partsOf wm7_184 ⟨_, _, _, _, (hW.ok k11), rfl, rfl, rfl, rfl⟩ rfl (kR rfl) (by decide) (kR rfl) rfl dX11_readsOne_75 ?_
        refine r_aload_n C (k := 1) rfl rfl dX11_readsOne_78 ?_
        refine r_dup C rfl dX11_readsOne_79 ?_
        refine og_11_20 C (hW.ok k11) (show (sM Ω t12).2.1 = t12 from rfl) wm7_87 dX11_readsOne_80 ?_
        refine r_iconst C (v := 1) rfl dX11_readsOne_83 ?_
        refine r_iadd C dX11_readsOne_84 ?_
        obtain ⟨t13, et13, hF⟩ := lt_e hF
        refine op_11_20 C hW.x (hW.fr k11) (show (sM Ω t12).2.1 = t12 from rfl) wm7_87 dX11_readsOne_85 (congrArg (sM Ω) et13) ?_
        refine r_aload_n C (k := 1) rfl rfl dX11_readsOne_88 ?_
        obtain ⟨t15, ht15, hF⟩ := ob1_e hF
        refine r_callV C (d' := 2) [] (c_X11_semicolon hW (show (sM Ω t13).2.1 = t13 from rfl) N ht15 rfl) myX11_semicolon wm6_225 ⟨_, _, _, _, (hW.ok k11), rfl, rfl, rfl, rfl⟩ rfl (kR rfl) (by decide) (kR rfl) rfl dX11_readsOne_89 ?_
        cases hF
        exact r_return C dX11_readsOne_92
      · rw [if_neg hc] at hF
        cases hF
        exact r_return C dX11_readsOne_46
    · rw [if_neg hc] at hF
      refine r_iconst C (v := 1) rfl dX11_readsOne_30 ?_
      refine r_goto C (tgt := 35) rfl dX11_readsOne_31 ?_
      refine r_iconst C (v := 4) rfl dX11_readsOne_35 ?_
      obtain ⟨t17, ht17, hF⟩ := lt_e hF
      refine r_callV C (d' := 0) [.int (b2i true), .int 4] (c_X11_must hW (show (sM Ω t4).2.1 = t4 from rfl) true 4 ht17 rfl) myX11_must wm6_211 ⟨_, _, _, _, (hW.ok k11), rfl, rfl, rfl, rfl⟩ rfl (kR rfl) (by decide) (kR rfl) rfl dX11_readsOne_36 ?_
      refine r_aload_n C (k := 1) rfl rfl dX11_readsOne_39 ?_
      refine og_11_15 C (hW.ok k11) (show (sM Ω t17).2.1 = t17 from rfl) wm7_82 dX11_readsOne_40 ?_
      refine r_if_eq C (tgt := 47) rfl dX11_readsOne_43 (fun hc => ?_) (fun hc => ?_)
      · rw [if_pos hc] at hF
        refine r_aload_n C (k := 1) rfl rfl dX11_readsOne_47 ?_
        obtain ⟨t19, ht19, hF⟩ := lt_e hF
        refine r_callV C (d' := 0) [] (c_X11_goesPast hW (show (sM Ω t17).2.1 = t17 from rfl) ht19 rfl) myX11_goesPast wm6_215 ⟨_, _, _, _, (hW.ok k11), rfl, rfl, rfl, rfl⟩ rfl (kR rfl) (by decide) (kR rfl) rfl dX11_readsOne_48 ?_
        refine r_aload_n C (k := 1) rfl rfl dX11_readsOne_51 ?_
        refine og_11_19 C (hW.ok k11) wm7_86 dX11_readsOne_52 ?_
        refine r_bipush C (v := 16) rfl dX11_readsOne_55 ?_
        refine r_aload_n C (k := 1) rfl rfl dX11_readsOne_57 ?_
        refine og_11_20 C (hW.ok k11) (show (sM Ω t19).2.1 = t19 from rfl) wm7_87 dX11_readsOne_58 ?_
        refine r_imul C dX11_readsOne_61 ?_
        refine r_iload_n C (k := 0) rfl rfl dX11_readsOne_62 ?_
        obtain ⟨b20, hF⟩ := gd_e hF
        obtain ⟨t21, et21, hF⟩ := lt_e hF
        refine m_ast C hW.x (hW.fr (k12 (a := 19) (by unfold okMa; decide))) (show (sM Ω t19).2.1 = t19 from rfl) rfl b20 dX11_readsOne_63 (congrArg (sM Ω) et21) ?_
        refine r_aload_n C (k := 1) rfl rfl dX11_readsOne_64 ?_
        refine r_iload_n C (k := 0) rfl rfl dX11_readsOne_65 ?_
        refine r_bipush C (v := 16) rfl dX11_readsOne_66 ?_
        refine r_aload_n C (k := 1) rfl rfl dX11_readsOne_68 ?_
        refine og_11_20 C (hW.ok k11) (show (sM Ω t21).2.1 = t21 from rfl) wm7_87 dX11_readsOne_69 ?_
        refine r_imul C dX11_readsOne_72 ?_
        refine r_iconst C (v := 1) rfl dX11_readsOne_73 ?_
        refine r_iadd C dX11_readsOne_74 ?_
        obtain ⟨t23, ht23, hF⟩ := ob1_e hF
        refine r_callV C (d' := 4) [.int v1, .int ((16 * (t21.1 20)) + 1)] (c_X11_partsOf hW (show (sM Ω t21).2.1 = t21 from rfl) N v1 ((16 * (t21.1 20)) + 1) ht23 rfl) myX11_partsOf wm7_184 ⟨_, _, _, _, (hW.ok k11), rfl, rfl, rfl, rfl⟩ rfl (kR rfl) (by decide) (kR rfl) rfl dX11_readsOne_75 ?_
        refine r_aload_n C (k := 1) rfl rfl dX11_readsOne_78 ?_
        refine r_dup C rfl dX11_readsOne_79 ?_
        refine og_11_20 C (hW.ok k11) (show (sM Ω t23).2.1 = t23 from rfl) wm7_87 dX11_readsOne_80 ?_
        refine r_iconst C (v := 1) rfl dX11_readsOne_83 ?_
        refine r_iadd C dX11_readsOne_84 ?_
        obtain ⟨t24, et24, hF⟩ := lt_e hF
        refine op_11_20 C hW.x (hW.fr k11) (show (sM Ω t23).2.1 = t23 from rfl) wm7_87 dX11_readsOne_85 (congrArg (sM Ω) et24) ?_
        refine r_aload_n C (k := 1) rfl rfl dX11_readsOne_88 ?_
        obtain ⟨t26, ht26, hF⟩ := ob1_e hF
        refine r_callV C (d' := 2) [] (c_X11_semicolon hW (show (sM Ω t24).2.1 = t24 from rfl) N ht26 rfl) myX11_semicolon wm6_225 ⟨_, _, _, _, (hW.ok k11), rfl, rfl, rfl, rfl⟩ rfl (kR rfl) (by decide) (kR rfl) rfl dX11_readsOne_89 ?_
        cases hF
        exact r_return C dX11_readsOne_92
      · rw [if_neg hc] at hF
        cases hF
        exact r_return C dX11_readsOne_46
  · rw [if_neg hc] at hF
    refine r_iconst C (v := 1) rfl dX11_readsOne_11 ?_
    refine r_goto C (tgt := 16) rfl dX11_readsOne_12 ?_
    refine r_iconst C (v := 1) rfl dX11_readsOne_16 ?_
    obtain ⟨t28, ht28, hF⟩ := lt_e hF
    refine r_callV C (d' := 0) [.int (b2i true), .int 1] (c_X11_must hW (show (sM Ω t2).2.1 = t2 from rfl) true 1 ht28 rfl) myX11_must wm6_211 ⟨_, _, _, _, (hW.ok k11), rfl, rfl, rfl, rfl⟩ rfl (kR rfl) (by decide) (kR rfl) rfl dX11_readsOne_17 ?_
    refine r_aload_n C (k := 1) rfl rfl dX11_readsOne_20 ?_
    refine r_aload_n C (k := 1) rfl rfl dX11_readsOne_21 ?_
    refine og_11_20 C (hW.ok k11) (show (sM Ω t28).2.1 = t28 from rfl) wm7_87 dX11_readsOne_22 ?_
    refine r_bipush C (v := 30) rfl dX11_readsOne_25 ?_
    refine r_icmp_ge C (tgt := 34) rfl dX11_readsOne_27 (fun hc => ?_) (fun hc => ?_)
    · rw [if_pos hc] at hF
      refine r_iconst C (v := 0) rfl dX11_readsOne_34 ?_
      refine r_iconst C (v := 4) rfl dX11_readsOne_35 ?_
      obtain ⟨t30, ht30, hF⟩ := lt_e hF
      refine r_callV C (d' := 0) [.int (b2i false), .int 4] (c_X11_must hW (show (sM Ω t28).2.1 = t28 from rfl) false 4 ht30 rfl) myX11_must wm6_211 ⟨_, _, _, _, (hW.ok k11), rfl, rfl, rfl, rfl⟩ rfl (kR rfl) (by decide) (kR rfl) rfl dX11_readsOne_36 ?_
      refine r_aload_n C (k := 1) rfl rfl dX11_readsOne_39 ?_
      refine og_11_15 C (hW.ok k11) (show (sM Ω t30).2.1 = t30 from rfl) wm7_82 dX11_readsOne_40 ?_
      refine r_if_eq C (tgt := 47) rfl dX11_readsOne_43 (fun hc => ?_) (fun hc => ?_)
      · rw [if_pos hc] at hF
        refine r_aload_n C (k := 1) rfl rfl dX11_readsOne_47 ?_
        obtain ⟨t32, ht32, hF⟩ := lt_e hF
        refine r_callV C (d' := 0) [] (c_X11_goesPast hW (show (sM Ω t30).2.1 = t30 from rfl) ht32 rfl) myX11_goesPast wm6_215 ⟨_, _, _, _, (hW.ok k11), rfl, rfl, rfl, rfl⟩ rfl (kR rfl) (by decide) (kR rfl) rfl dX11_readsOne_48 ?_
        refine r_aload_n C (k := 1) rfl rfl dX11_readsOne_51 ?_
        refine og_11_19 C (hW.ok k11) wm7_86 dX11_readsOne_52 ?_
        refine r_bipush C (v := 16) rfl dX11_readsOne_55 ?_
        refine r_aload_n C (k := 1) rfl rfl dX11_readsOne_57 ?_
        refine og_11_20 C (hW.ok k11) (show (sM Ω t32).2.1 = t32 from rfl) wm7_87 dX11_readsOne_58 ?_
        refine r_imul C dX11_readsOne_61 ?_
        refine r_iload_n C (k := 0) rfl rfl dX11_readsOne_62 ?_
        obtain ⟨b33, hF⟩ := gd_e hF
        obtain ⟨t34, et34, hF⟩ := lt_e hF
        refine m_ast C hW.x (hW.fr (k12 (a := 19) (by unfold okMa; decide))) (show (sM Ω t32).2.1 = t32 from rfl) rfl b33 dX11_readsOne_63 (congrArg (sM Ω) et34) ?_
        refine r_aload_n C (k := 1) rfl rfl dX11_readsOne_64 ?_
        refine r_iload_n C (k := 0) rfl rfl dX11_readsOne_65 ?_
        refine r_bipush C (v := 16) rfl dX11_readsOne_66 ?_
        refine r_aload_n C (k := 1) rfl rfl dX11_readsOne_68 ?_
        refine og_11_20 C (hW.ok k11) (show (sM Ω t34).2.1 = t34 from rfl) wm7_87 dX11_readsOne_69 ?_
        refine r_imul C dX11_readsOne_72 ?_
        refine r_iconst C (v := 1) rfl dX11_readsOne_73 ?_
        refine r_iadd C dX11_readsOne_74 ?_
        obtain ⟨t36, ht36, hF⟩ := ob1_e hF
        refine r_callV C (d' := 4) [.int v1, .int ((16 * (t34.1 20)) + 1)] (c_X11_partsOf hW (show (sM Ω t34).2.1 = t34 from rfl) N v1 ((16 * (t34.1 20)) + 1) ht36 rfl) myX11_partsOf wm7_184 ⟨_, _, _, _, (hW.ok k11), rfl, rfl, rfl, rfl⟩ rfl (kR rfl) (by decide) (kR rfl) rfl dX11_readsOne_75 ?_
        refine r_aload_n C (k := 1) rfl rfl dX11_readsOne_78 ?_
        refine r_dup C rfl dX11_readsOne_79 ?_
        refine og_11_20 C (hW.ok k11) (show (sM Ω t36).2.1 = t36 from rfl) wm7_87 dX11_readsOne_80 ?_
        refine r_iconst C (v := 1) rfl dX11_readsOne_83 ?_
        refine r_iadd C dX11_readsOne_84 ?_
        obtain ⟨t37, et37, hF⟩ := lt_e hF
        refine op_11_20 C hW.x (hW.fr k11) (show (sM Ω t36).2.1 = t36 from rfl) wm7_87 dX11_readsOne_85 (congrArg (sM Ω) et37) ?_
        refine r_aload_n C (k := 1) rfl rfl dX11_readsOne_88 ?_
        obtain ⟨t39, ht39, hF⟩ := ob1_e hF
        refine r_callV C (d' := 2) [] (c_X11_semicolon hW (show (sM Ω t37).2.1 = t37 from rfl) N ht39 rfl) myX11_semicolon wm6_225 ⟨_, _, _, _, (hW.ok k11), rfl, rfl, rfl, rfl⟩ rfl (kR rfl) (by decide) (kR rfl) rfl dX11_readsOne_89 ?_
        cases hF
        exact r_return C dX11_readsOne_92
      · rw [if_neg hc] at hF
        cases hF
        exact r_return C dX11_readsOne_46
    · rw [if_neg hc] at hF
      refine r_iconst C (v := 1) rfl dX11_readsOne_30 ?_
      refine r_goto C (tgt := 35) rfl dX11_readsOne_31 ?_
      refine r_iconst C (v := 4) rfl dX11_readsOne_35 ?_
      obtain ⟨t41, ht41, hF⟩ := lt_e hF
      refine r_callV C (d' := 0) [.int (b2i true), .int 4] (c_X11_must hW (show (sM Ω t28).2.1 = t28 from rfl) true 4 ht41 rfl) myX11_must wm6_211 ⟨_, _, _, _, (hW.ok k11), rfl, rfl, rfl, rfl⟩ rfl (kR rfl) (by decide) (kR rfl) rfl dX11_readsOne_36 ?_
      refine r_aload_n C (k := 1) rfl rfl dX11_readsOne_39 ?_
      refine og_11_15 C (hW.ok k11) (show (sM Ω t41).2.1 = t41 from rfl) wm7_82 dX11_readsOne_40 ?_
      refine r_if_eq C (tgt := 47) rfl dX11_readsOne_43 (fun hc => ?_) (fun hc => ?_)
      · rw [if_pos hc] at hF
        refine r_aload_n C (k := 1) rfl rfl dX11_readsOne_47 ?_
        obtain ⟨t43, ht43, hF⟩ := lt_e hF
        refine r_callV C (d' := 0) [] (c_X11_goesPast hW (show (sM Ω t41).2.1 = t41 from rfl) ht43 rfl) myX11_goesPast wm6_215 ⟨_, _, _, _, (hW.ok k11), rfl, rfl, rfl, rfl⟩ rfl (kR rfl) (by decide) (kR rfl) rfl dX11_readsOne_48 ?_
        refine r_aload_n C (k := 1) rfl rfl dX11_readsOne_51 ?_
        refine og_11_19 C (hW.ok k11) wm7_86 dX11_readsOne_52 ?_
        refine r_bipush C (v := 16) rfl dX11_readsOne_55 ?_
        refine r_aload_n C (k := 1) rfl rfl dX11_readsOne_57 ?_
        refine og_11_20 C (hW.ok k11) (show (sM Ω t43).2.1 = t43 from rfl) wm7_87 dX11_readsOne_58 ?_
        refine r_imul C dX11_readsOne_61 ?_
        refine r_iload_n C (k := 0) rfl rfl dX11_readsOne_62 ?_
        obtain ⟨b44, hF⟩ := gd_e hF
        obtain ⟨t45, et45, hF⟩ := lt_e hF
        refine m_ast C hW.x (hW.fr (k12 (a := 19) (by unfold okMa; decide))) (show (sM Ω t43).2.1 = t43 from rfl) rfl b44 dX11_readsOne_63 (congrArg (sM Ω) et45) ?_
        refine r_aload_n C (k := 1) rfl rfl dX11_readsOne_64 ?_
        refine r_iload_n C (k := 0) rfl rfl dX11_readsOne_65 ?_
        refine r_bipush C (v := 16) rfl dX11_readsOne_66 ?_
        refine r_aload_n C (k := 1) rfl rfl dX11_readsOne_68 ?_
        refine og_11_20 C (hW.ok k11) (show (sM Ω t45).2.1 = t45 from rfl) wm7_87 dX11_readsOne_69 ?_
        refine r_imul C dX11_readsOne_72 ?_
        refine r_iconst C (v := 1) rfl dX11_readsOne_73 ?_
        refine r_iadd C dX11_readsOne_74 ?_
        obtain ⟨t47, ht47, hF⟩ := ob1_e hF
        refine r_callV C (d' := 4) [.int v1, .int ((16 * (t45.1 20)) + 1)] (c_X11_partsOf hW (show (sM Ω t45).2.1 = t45 from rfl) N v1 ((16 * (t45.1 20)) + 1) ht47 rfl) myX11_partsOf wm7_184 ⟨_, _, _, _, (hW.ok k11), rfl, rfl, rfl, rfl⟩ rfl (kR rfl) (by decide) (kR rfl) rfl dX11_readsOne_75 ?_
        refine r_aload_n C (k := 1) rfl rfl dX11_readsOne_78 ?_
        refine r_dup C rfl dX11_readsOne_79 ?_
        refine og_11_20 C (hW.ok k11) (show (sM Ω t47).2.1 = t47 from rfl) wm7_87 dX11_readsOne_80 ?_
        refine r_iconst C (v := 1) rfl dX11_readsOne_83 ?_
        refine r_iadd C dX11_readsOne_84 ?_
        obtain ⟨t48, et48, hF⟩ := lt_e hF
        refine op_11_20 C hW.x (hW.fr k11) (show (sM Ω t47).2.1 = t47 from rfl) wm7_87 dX11_readsOne_85 (congrArg (sM Ω) et48) ?_
        refine r_aload_n C (k := 1) rfl rfl dX11_readsOne_88 ?_
        obtain ⟨t50, ht50, hF⟩ := ob1_e hF
        refine r_callV C (d' := 2) [] (c_X11_semicolon hW (show (sM Ω t48).2.1 = t48 from rfl) N ht50 rfl) myX11_semicolon wm6_225 ⟨_, _, _, _, (hW.ok k11), rfl, rfl, rfl, rfl⟩ rfl (kR rfl) (by decide) (kR rfl) rfl dX11_readsOne_89 ?_
        cases hF
        exact r_return C dX11_readsOne_92
      · rw [if_neg hc] at hF
        cases hF
        exact r_return C dX11_readsOne_46
theorem dX11_load_0 : decode cX11_load 0 = .ok (.aload_n 0, 1) := by decide +kernel
theorem dX11_load_1 : decode cX11_load 1 = .ok (.getfield 7, 3) := by decide +kernel
theorem dX11_load_4 : decode cX11_load 4 = .ok (.iconst 0, 1) := by decide +kernel
theorem dX11_load_5 : decode cX11_load 5 = .ok (.aload_n 0, 1) := by decide +kernel
theorem dX11_load_6 : decode cX11_load 6 = .ok (.getfield 16, 3) := by decide +kernel
theorem dX11_load_9 : decode cX11_load 9 = .ok (.iconst 0, 1) := by decide +kernel
theorem dX11_load_10 : decode cX11_load 10 = .ok (.invokestatic 61, 3) := by decide +kernel
theorem dX11_load_13 : decode cX11_load 13 = .ok (.iconst 0, 1) := by decide +kernel
theorem dX11_load_14 : decode cX11_load 14 = .ok (.istore_n 1, 1) := by decide +kernel
theorem dX11_load_15 : decode cX11_load 15 = .ok (.iload_n 1, 1) := by decide +kernel
theorem dX11_load_16 : decode cX11_load 16 = .ok (.sipush 760, 3) := by decide +kernel
theorem dX11_load_19 : decode cX11_load 19 = .ok (.if_icmp .ge 16, 3) := by decide +kernel
theorem dX11_load_22 : decode cX11_load 22 = .ok (.aload_n 0, 1) := by decide +kernel
theorem dX11_load_23 : decode cX11_load 23 = .ok (.getfield 7, 3) := by decide +kernel
theorem dX11_load_26 : decode cX11_load 26 = .ok (.iload_n 1, 1) := by decide +kernel
theorem dX11_load_27 : decode cX11_load 27 = .ok (.iconst 0, 1) := by decide +kernel
theorem dX11_load_28 : decode cX11_load 28 = .ok (.iastore, 1) := by decide +kernel
theorem dX11_load_29 : decode cX11_load 29 = .ok (.iinc 1 1, 3) := by decide +kernel
theorem dX11_load_32 : decode cX11_load 32 = .ok (.goto (-17), 3) := by decide +kernel
theorem dX11_load_35 : decode cX11_load 35 = .ok (.aload_n 0, 1) := by decide +kernel
theorem dX11_load_36 : decode cX11_load 36 = .ok (.invokevirtual 308, 3) := by decide +kernel
theorem dX11_load_39 : decode cX11_load 39 = .ok (.aload_n 0, 1) := by decide +kernel
theorem dX11_load_40 : decode cX11_load 40 = .ok (.invokevirtual 311, 3) := by decide +kernel
theorem dX11_load_43 : decode cX11_load 43 = .ok (.aload_n 0, 1) := by decide +kernel
theorem dX11_load_44 : decode cX11_load 44 = .ok (.getfield 244, 3) := by decide +kernel
theorem dX11_load_47 : decode cX11_load 47 = .ok (.ifCond .ne 18, 3) := by decide +kernel
theorem dX11_load_50 : decode cX11_load 50 = .ok (.aload_n 0, 1) := by decide +kernel
theorem dX11_load_51 : decode cX11_load 51 = .ok (.invokevirtual 250, 3) := by decide +kernel
theorem dX11_load_54 : decode cX11_load 54 = .ok (.iconst (-1), 1) := by decide +kernel
theorem dX11_load_55 : decode cX11_load 55 = .ok (.if_icmp .eq 10, 3) := by decide +kernel
theorem dX11_load_58 : decode cX11_load 58 = .ok (.aload_n 0, 1) := by decide +kernel
theorem dX11_load_59 : decode cX11_load 59 = .ok (.invokevirtual 314, 3) := by decide +kernel
theorem dX11_load_62 : decode cX11_load 62 = .ok (.goto (-19), 3) := by decide +kernel
theorem dX11_load_65 : decode cX11_load 65 = .ok (.aload_n 0, 1) := by decide +kernel
theorem dX11_load_66 : decode cX11_load 66 = .ok (.aload_n 0, 1) := by decide +kernel
theorem dX11_load_67 : decode cX11_load 67 = .ok (.invokevirtual 317, 3) := by decide +kernel
theorem dX11_load_70 : decode cX11_load 70 = .ok (.invokevirtual 221, 3) := by decide +kernel
theorem dX11_load_73 : decode cX11_load 73 = .ok (.ifCond .ne 18, 3) := by decide +kernel
theorem dX11_load_76 : decode cX11_load 76 = .ok (.aload_n 0, 1) := by decide +kernel
theorem dX11_load_77 : decode cX11_load 77 = .ok (.getfield 16, 3) := by decide +kernel
theorem dX11_load_80 : decode cX11_load 80 = .ok (.iconst 0, 1) := by decide +kernel
theorem dX11_load_81 : decode cX11_load 81 = .ok (.aload_n 0, 1) := by decide +kernel
theorem dX11_load_82 : decode cX11_load 82 = .ok (.getfield 7, 3) := by decide +kernel
theorem dX11_load_85 : decode cX11_load 85 = .ok (.iconst 0, 1) := by decide +kernel
theorem dX11_load_86 : decode cX11_load 86 = .ok (.invokestatic 61, 3) := by decide +kernel
theorem dX11_load_89 : decode cX11_load 89 = .ok (.iconst 0, 1) := by decide +kernel
theorem dX11_load_90 : decode cX11_load 90 = .ok (.ireturn, 1) := by decide +kernel
theorem dX11_load_91 : decode cX11_load 91 = .ok (.aload_n 0, 1) := by decide +kernel
theorem dX11_load_92 : decode cX11_load 92 = .ok (.getfield 7, 3) := by decide +kernel
theorem dX11_load_95 : decode cX11_load 95 = .ok (.bipush 7, 2) := by decide +kernel
theorem dX11_load_97 : decode cX11_load 97 = .ok (.aload_n 0, 1) := by decide +kernel
theorem dX11_load_98 : decode cX11_load 98 = .ok (.getfield 7, 3) := by decide +kernel
theorem dX11_load_101 : decode cX11_load 101 = .ok (.iconst 1, 1) := by decide +kernel
theorem dX11_load_102 : decode cX11_load 102 = .ok (.iaload, 1) := by decide +kernel
theorem dX11_load_103 : decode cX11_load 103 = .ok (.iastore, 1) := by decide +kernel
theorem dX11_load_104 : decode cX11_load 104 = .ok (.aload_n 0, 1) := by decide +kernel
theorem dX11_load_105 : decode cX11_load 105 = .ok (.iconst 0, 1) := by decide +kernel
theorem dX11_load_106 : decode cX11_load 106 = .ok (.putfield 321, 3) := by decide +kernel
theorem dX11_load_109 : decode cX11_load 109 = .ok (.aload_n 0, 1) := by decide +kernel
theorem dX11_load_110 : decode cX11_load 110 = .ok (.getfield 7, 3) := by decide +kernel
theorem dX11_load_113 : decode cX11_load 113 = .ok (.iconst 0, 1) := by decide +kernel
theorem dX11_load_114 : decode cX11_load 114 = .ok (.iaload, 1) := by decide +kernel
theorem dX11_load_115 : decode cX11_load 115 = .ok (.ireturn, 1) := by decide +kernel
def st_X11_load_43 (N : Nat) (t : HV) : Option ((HV) ⊕ (Int32 × (HV))) := (if (t.1 15) = 0 then (ob (F_X11_next N t) fun v18 t19 => (if v18 = (-1) then (lt2 (F_X11_endsText t19) fun v20 t21 => (lt2 (F_X11_passes v20 t21) fun v22 t23 => (if v22 = true then (if vpb 1 760 = true then (if vpb 7 760 = true then (lt (aw t23 0 7 (ag t23 0 1)) fun t26 => (lt (sS t26 5 0) fun t27 => (if vpb 0 760 = true then some (.inr ((ag t27 0 0), t27)) else none))) else none) else none) else (ob1 (F_X11_copies N 2 0 0 0 t23) fun t30 => some (.inr (0, t30)))))) else (ob1 (F_X11_statement N t19) fun t32 => some (.inl t32)))) else (lt2 (F_X11_endsText t) fun v7 t8 => (lt2 (F_X11_passes v7 t8) fun v9 t10 => (if v9 = true then (if vpb 1 760 = true then (if vpb 7 760 = true then (lt (aw t10 0 7 (ag t10 0 1)) fun t13 => (lt (sS t13 5 0) fun t14 => (if vpb 0 760 = true then some (.inr ((ag t14 0 0), t14)) else none))) else none) else none) else (ob1 (F_X11_copies N 2 0 0 0 t10) fun t17 => some (.inr (0, t17)))))))
def st_X11_load_15 (N : Nat) (l1 : Int32) (t : HV) : Option ((Int32 × HV) ⊕ (Int32 × (HV))) := (if 760 ≤ l1 then (lt (F_X11_startsText t) fun t4 => (ob1 (F_X11_hedgeLine N t4) fun t6 => (ob1 (lpN N (fun z => st_X11_load_43 N z) (t6)) fun q9 => some (.inr q9)))) else (if vpb l1 760 = true then (lt (aw t 0 l1 0) fun t34 => some (.inl ((l1 + 1), t34))) else none))
def F_X11_load (N : Nat) (t : HV) : Option (Int32 × (HV)) := (ob1 (F_X11_copies N 0 0 2 0 t) fun t2 => (lpN N (fun z => st_X11_load_15 N z.1 z.2) (0, t2)))
theorem lp_X11_load_43 {w : WP} (hW : gWM w) (hS : gS w) {Ω : OM}    {N : Nat} {X : CX} (C : gC w X cX11_load "HedgeMessagesModel" (some .int) 6 2) {v : Int32} {t' : HV}  : ∀ (n : Nat) (t : HV), lpN n (fun z : HV => st_X11_load_43 N z) (t) = some (v, t') → gV w X (some (.int v), cA w (sM Ω t')) (cA w (sM Ω t)) 43 [(0, .ref (wAd w (11, 12, 0, 0)))] [] := by
  intro n
  induction n with
  | zero => intro t hL; exact lpN_0 hL
  | succ n ih =>
    intro t hL
    obtain ⟨q9, hF, hL⟩ := lpN_e hL
    change st_X11_load_43 N t = some q9 at hF
    unfold st_X11_load_43 at hF
    refine r_aload_n C (k := 0) rfl rfl dX11_load_43 ?_
    refine og_11_15 C (hW.ok k11) (show (sM Ω t).2.1 = t from rfl) wm7_82 dX11_load_44 ?_
    refine r_if_ne C (tgt := 65) rfl dX11_load_47 (fun hc => ?_) (fun hc => ?_)
    · rw [if_neg hc] at hF
      refine r_aload_n C (k := 0) rfl rfl dX11_load_65 ?_
      refine r_aload_n C (k := 0) rfl rfl dX11_load_66 ?_
      obtain ⟨v7, t8, ht8, hF⟩ := lt2_e hF
      refine r_callV C (d' := 0) [] (c_X11_endsText hW (show (sM Ω t).2.1 = t from rfl) ht8 rfl) myX11_endsText wm7_59 ⟨_, _, _, _, (hW.ok k11), rfl, rfl, rfl, rfl⟩ rfl (kR rfl) (by decide) (kR rfl) rfl dX11_load_67 ?_
      obtain ⟨v9, t10, ht10, hF⟩ := lt2_e hF
      refine r_callV C (d' := 0) [.int (b2i v7)] (c_X11_passes hW (show (sM Ω t8).2.1 = t8 from rfl) v7 ht10 rfl) myX11_passes wm7_63 ⟨_, _, _, _, (hW.ok k11), rfl, rfl, rfl, rfl⟩ rfl (kR rfl) (by decide) (kR rfl) rfl dX11_load_70 ?_
      refine r_if_ne C (tgt := 91) rfl dX11_load_73 (fun hc => ?_) (fun hc => ?_)
      · rw [if_pos (b2i_t hc)] at hF
        refine r_aload_n C (k := 0) rfl rfl dX11_load_91 ?_
        refine og_11_0 C (hW.ok k11) wm7_67 dX11_load_92 ?_
        refine r_bipush C (v := 7) rfl dX11_load_95 ?_
        refine r_aload_n C (k := 0) rfl rfl dX11_load_97 ?_
        refine og_11_0 C (hW.ok k11) wm7_67 dX11_load_98 ?_
        refine r_iconst C (v := 1) rfl dX11_load_101 ?_
        obtain ⟨b11, hF⟩ := gd_e hF
        refine m_ald C (hW.ok (k12 (a := 0) (by unfold okMa; decide))) (show (sM Ω t10).2.1 = t10 from rfl) rfl b11 dX11_load_102 ?_
        obtain ⟨b12, hF⟩ := gd_e hF
        obtain ⟨t13, et13, hF⟩ := lt_e hF
        refine m_ast C hW.x (hW.fr (k12 (a := 0) (by unfold okMa; decide))) (show (sM Ω t10).2.1 = t10 from rfl) rfl b12 dX11_load_103 (congrArg (sM Ω) et13) ?_
        refine r_aload_n C (k := 0) rfl rfl dX11_load_104 ?_
        refine r_iconst C (v := 0) rfl dX11_load_105 ?_
        obtain ⟨t14, et14, hF⟩ := lt_e hF
        refine op_11_5 C hW.x (hW.fr k11) (show (sM Ω t13).2.1 = t13 from rfl) wm7_72 dX11_load_106 (congrArg (sM Ω) et14) ?_
        refine r_aload_n C (k := 0) rfl rfl dX11_load_109 ?_
        refine og_11_0 C (hW.ok k11) wm7_67 dX11_load_110 ?_
        refine r_iconst C (v := 0) rfl dX11_load_113 ?_
        obtain ⟨b15, hF⟩ := gd_e hF
        refine m_ald C (hW.ok (k12 (a := 0) (by unfold okMa; decide))) (show (sM Ω t14).2.1 = t14 from rfl) rfl b15 dX11_load_114 ?_
        cases hF
        change some _ = some _ at hL
        cases hL
        exact r_ireturn C dX11_load_115
      · rw [if_neg (b2i_f hc)] at hF
        refine r_aload_n C (k := 0) rfl rfl dX11_load_76 ?_
        refine og_11_2 C (hW.ok k11) wm7_69 dX11_load_77 ?_
        refine r_iconst C (v := 0) rfl dX11_load_80 ?_
        refine r_aload_n C (k := 0) rfl rfl dX11_load_81 ?_
        refine og_11_0 C (hW.ok k11) wm7_67 dX11_load_82 ?_
        refine r_iconst C (v := 0) rfl dX11_load_85 ?_
        obtain ⟨t17, ht17, hF⟩ := ob1_e hF
        refine r_callS C (d' := 0) [.ref (wAd w (12, 12, 0, 2)), .int 0, .ref (wAd w (12, 12, 0, 0)), .int 0] (c_X11_copies hW (show (sM Ω t10).2.1 = t10 from rfl) N 2 (by unfold okMa; decide) 0 0 (by unfold okMa; decide) 0 ht17 rfl) myX11_copies wm6_182 rfl (kR rfl) (by decide) (kR rfl) rfl dX11_load_86 ?_
        refine r_iconst C (v := 0) rfl dX11_load_89 ?_
        cases hF
        change some _ = some _ at hL
        cases hL
        exact r_ireturn C dX11_load_90
    · rw [if_pos hc] at hF
      refine r_aload_n C (k := 0) rfl rfl dX11_load_50 ?_
      obtain ⟨v18, t19, ht19, hF⟩ := ob_e hF
      refine r_callV C (d' := 1) [] (c_X11_next hW (show (sM Ω t).2.1 = t from rfl) N ht19 rfl) myX11_next wm6_198 ⟨_, _, _, _, (hW.ok k11), rfl, rfl, rfl, rfl⟩ rfl (kR rfl) (by decide) (kR rfl) rfl dX11_load_51 ?_
      refine r_iconst C (v := (-1)) (by decide) dX11_load_54 ?_
      refine r_icmp_eq C (tgt := 65) rfl dX11_load_55 (fun hc => ?_) (fun hc => ?_)
      · rw [if_pos hc] at hF
        refine r_aload_n C (k := 0) rfl rfl dX11_load_65 ?_
        refine r_aload_n C (k := 0) rfl rfl dX11_load_66 ?_
        obtain ⟨v20, t21, ht21, hF⟩ := lt2_e hF
        refine r_callV C (d' := 0) [] (c_X11_endsText hW (show (sM Ω t19).2.1 = t19 from rfl) ht21 rfl) myX11_endsText wm7_59 ⟨_, _, _, _, (hW.ok k11), rfl, rfl, rfl, rfl⟩ rfl (kR rfl) (by decide) (kR rfl) rfl dX11_load_67 ?_
        obtain ⟨v22, t23, ht23, hF⟩ := lt2_e hF
        refine r_callV C (d' := 0) [.int (b2i v20)] (c_X11_passes hW (show (sM Ω t21).2.1 = t21 from rfl) v20 ht23 rfl) myX11_passes wm7_63 ⟨_, _, _, _, (hW.ok k11), rfl, rfl, rfl, rfl⟩ rfl (kR rfl) (by decide) (kR rfl) rfl dX11_load_70 ?_
        refine r_if_ne C (tgt := 91) rfl dX11_load_73 (fun hc => ?_) (fun hc => ?_)
        · rw [if_pos (b2i_t hc)] at hF
          refine r_aload_n C (k := 0) rfl rfl dX11_load_91 ?_
          refine og_11_0 C (hW.ok k11) wm7_67 dX11_load_92 ?_
          refine r_bipush C (v := 7) rfl dX11_load_95 ?_
          refine r_aload_n C (k := 0) rfl rfl dX11_load_97 ?_
          refine og_11_0 C (hW.ok k11) wm7_67 dX11_load_98 ?_
          refine r_iconst C (v := 1) rfl dX11_load_101 ?_
          obtain ⟨b24, hF⟩ := gd_e hF
          refine m_ald C (hW.ok (k12 (a := 0) (by unfold okMa; decide))) (show (sM Ω t23).2.1 = t23 from rfl) rfl b24 dX11_load_102 ?_
          obtain ⟨b25, hF⟩ := gd_e hF
          obtain ⟨t26, et26, hF⟩ := lt_e hF
          refine m_ast C hW.x (hW.fr (k12 (a := 0) (by unfold okMa; decide))) (show (sM Ω t23).2.1 = t23 from rfl) rfl b25 dX11_load_103 (congrArg (sM Ω) et26) ?_
          refine r_aload_n C (k := 0) rfl rfl dX11_load_104 ?_
          refine r_iconst C (v := 0) rfl dX11_load_105 ?_
          obtain ⟨t27, et27, hF⟩ := lt_e hF
          refine op_11_5 C hW.x (hW.fr k11) (show (sM Ω t26).2.1 = t26 from rfl) wm7_72 dX11_load_106 (congrArg (sM Ω) et27) ?_
          refine r_aload_n C (k := 0) rfl rfl dX11_load_109 ?_
          refine og_11_0 C (hW.ok k11) wm7_67 dX11_load_110 ?_
          refine r_iconst C (v := 0) rfl dX11_load_113 ?_
          obtain ⟨b28, hF⟩ := gd_e hF
          refine m_ald C (hW.ok (k12 (a := 0) (by unfold okMa; decide))) (show (sM Ω t27).2.1 = t27 from rfl) rfl b28 dX11_load_114 ?_
          cases hF
          change some _ = some _ at hL
          cases hL
          exact r_ireturn C dX11_load_115
        · rw [if_neg (b2i_f hc)] at hF
          refine r_aload_n C (k := 0) rfl rfl dX11_load_76 ?_
          refine og_11_2 C (hW.ok k11) wm7_69 dX11_load_77 ?_
          refine r_iconst C (v := 0) rfl dX11_load_80 ?_
          refine r_aload_n C (k := 0) rfl rfl dX11_load_81 ?_
          refine og_11_0 C (hW.ok k11) wm7_67 dX11_load_82 ?_
          refine r_iconst C (v := 0) rfl dX11_load_85 ?_
          obtain ⟨t30, ht30, hF⟩ := ob1_e hF
          refine r_callS C (d' := 0) [.ref (wAd w (12, 12, 0, 2)), .int 0, .ref (wAd w (12, 12, 0, 0)), .int 0] (c_X11_copies hW (show (sM Ω t23).2.1 = t23 from rfl) N 2 (by unfold okMa; decide) 0 0 (by unfold okMa; decide) 0 ht30 rfl) myX11_copies wm6_182 rfl (kR rfl) (by decide) (kR rfl) rfl dX11_load_86 ?_
          refine r_iconst C (v := 0) rfl dX11_load_89 ?_
          cases hF
          change some _ = some _ at hL
          cases hL
          exact r_ireturn C dX11_load_90
      · rw [if_neg hc] at hF
        refine r_aload_n C (k := 0) rfl rfl dX11_load_58 ?_
        obtain ⟨t32, ht32, hF⟩ := ob1_e hF
        refine r_callV C (d' := 5) [] (c_X11_statement hW hS (show (sM Ω t19).2.1 = t19 from rfl) N ht32 rfl) myX11_statement wm6_229 ⟨_, _, _, _, (hW.ok k11), rfl, rfl, rfl, rfl⟩ rfl (kR rfl) (by decide) (kR rfl) rfl dX11_load_59 ?_
        refine r_goto C (tgt := 43) rfl dX11_load_62 ?_
        cases hF
        change lpN n _ _ = some _ at hL
        refine r_lo [0] (lo' := [(0, .ref (wAd w (11, 12, 0, 0)))]) rfl ?_
        exact ih t32 hL
theorem lp_X11_load_15 {w : WP} (hW : gWM w) (hS : gS w) {Ω : OM}    {N : Nat} {X : CX} (C : gC w X cX11_load "HedgeMessagesModel" (some .int) 6 2) {v : Int32} {t' : HV}  : ∀ (n : Nat) (l1 : Int32) (t : HV), lpN n (fun z : Int32 × HV => st_X11_load_15 N z.1 z.2) (l1, t) = some (v, t') → gV w X (some (.int v), cA w (sM Ω t')) (cA w (sM Ω t)) 15 [(0, .ref (wAd w (11, 12, 0, 0))), (1, .int l1)] [] := by
  intro n
  induction n with
  | zero => intro l1 t hL; exact lpN_0 hL
  | succ n ih =>
    intro l1 t hL
    obtain ⟨q9, hF, hL⟩ := lpN_e hL
    change st_X11_load_15 N l1 t = some q9 at hF
    unfold st_X11_load_15 at hF
    refine r_iload_n C (k := 1) rfl rfl dX11_load_15 ?_
    refine r_sipush C (v := 760) rfl dX11_load_16 ?_
    refine r_icmp_ge C (tgt := 35) rfl dX11_load_19 (fun hc => ?_) (fun hc => ?_)
    · rw [if_pos hc] at hF
      refine r_aload_n C (k := 0) rfl rfl dX11_load_35 ?_
      obtain ⟨t4, ht4, hF⟩ := lt_e hF
      refine r_callV C (d' := 0) [] (c_X11_startsText hW (show (sM Ω t).2.1 = t from rfl) ht4 rfl) myX11_startsText wm6_185 ⟨_, _, _, _, (hW.ok k11), rfl, rfl, rfl, rfl⟩ rfl (kR rfl) (by decide) (kR rfl) rfl dX11_load_36 ?_
      refine r_aload_n C (k := 0) rfl rfl dX11_load_39 ?_
      obtain ⟨t6, ht6, hF⟩ := ob1_e hF
      refine r_callV C (d' := 5) [] (c_X11_hedgeLine hW hS (show (sM Ω t4).2.1 = t4 from rfl) N ht6 rfl) myX11_hedgeLine wm6_189 ⟨_, _, _, _, (hW.ok k11), rfl, rfl, rfl, rfl⟩ rfl (kR rfl) (by decide) (kR rfl) rfl dX11_load_40 ?_
      obtain ⟨q9, h9, hF⟩ := ob1_e hF
      cases hF
      change some _ = some _ at hL
      cases hL
      refine r_lo [0] (lo' := [(0, .ref (wAd w (11, 12, 0, 0)))]) rfl ?_
      exact lp_X11_load_43 hW hS C N t6 h9
    · rw [if_neg hc] at hF
      refine r_aload_n C (k := 0) rfl rfl dX11_load_22 ?_
      refine og_11_0 C (hW.ok k11) wm7_67 dX11_load_23 ?_
      refine r_iload_n C (k := 1) rfl rfl dX11_load_26 ?_
      refine r_iconst C (v := 0) rfl dX11_load_27 ?_
      obtain ⟨b33, hF⟩ := gd_e hF
      obtain ⟨t34, et34, hF⟩ := lt_e hF
      refine m_ast C hW.x (hW.fr (k12 (a := 0) (by unfold okMa; decide))) (show (sM Ω t).2.1 = t from rfl) rfl b33 dX11_load_28 (congrArg (sM Ω) et34) ?_
      refine r_iinc C (k := 1) (v := (l1 + 1)) (lo' := [(1, .int (l1 + 1)), (0, .ref (wAd w (11, 12, 0, 0)))]) rfl rfl (by decide) rfl dX11_load_29 ?_
      refine r_goto C (tgt := 15) rfl dX11_load_32 ?_
      cases hF
      change lpN n _ _ = some _ at hL
      refine r_lo [1, 0] (lo' := [(0, .ref (wAd w (11, 12, 0, 0))), (1, .int (l1 + 1))]) rfl ?_
      exact ih (l1 + 1) t34 hL
theorem c_X11_load {w : WP} (hW : gWM w) (hS : gS w) {Ω : OM}  {t : HV} (e : Ω.2.1 = t) (N : Nat)  {v : Int32} {t' : HV} (hF : F_X11_load N t = some (v, t')) {Ω' : OM} (e2 : (sM Ω t') = Ω') : gM w 6 yX11_load cX11_load 2 (some .int) [.ref (wAd w (11, 12, 0, 0))] (cA w Ω) (some (.int v)) (cA w Ω') := by
  refine gM_of "HedgeMessagesModel" rfl (by decide) (kR rfl) fun X C => ?_
  unfold F_X11_load at hF
  subst e2
  show gV w X _ _ 0 [(0, .ref (wAd w (11, 12, 0, 0)))] []
  refine r_ct (ct' := cA w (sM Ω t)) (congrArg (cA w) (sM_i e).symm) ?_
  refine r_aload_n C (k := 0) rfl rfl dX11_load_0 ?_
  refine og_11_0 C (hW.ok k11) wm7_67 dX11_load_1 ?_
  refine r_iconst C (v := 0) rfl dX11_load_4 ?_
  refine r_aload_n C (k := 0) rfl rfl dX11_load_5 ?_
  refine og_11_2 C (hW.ok k11) wm7_69 dX11_load_6 ?_
  refine r_iconst C (v := 0) rfl dX11_load_9 ?_
  obtain ⟨t2, ht2, hF⟩ := ob1_e hF
  refine r_callS C (d' := 0) [.ref (wAd w (12, 12, 0, 0)), .int 0, .ref (wAd w (12, 12, 0, 2)), .int 0] (c_X11_copies hW (show (sM Ω t).2.1 = t from rfl) N 0 (by unfold okMa; decide) 0 2 (by unfold okMa; decide) 0 ht2 rfl) myX11_copies wm6_182 rfl (kR rfl) (by decide) (kR rfl) rfl dX11_load_10 ?_
  refine r_iconst C (v := 0) rfl dX11_load_13 ?_
  refine r_istore_n C (lo' := [(1, .int 0), (0, .ref (wAd w (11, 12, 0, 0)))]) rfl (by decide) rfl dX11_load_14 ?_
  refine r_lo [1, 0] (lo' := [(0, .ref (wAd w (11, 12, 0, 0))), (1, .int 0)]) rfl ?_
  exact lp_X11_load_15 hW hS C N 0 t2 hF
theorem dX11_executeCommands_0 : decode cX11_executeCommands 0 = .ok (.aload_n 0, 1) := by decide +kernel
theorem dX11_executeCommands_1 : decode cX11_executeCommands 1 = .ok (.invokevirtual 308, 3) := by decide +kernel
theorem dX11_executeCommands_4 : decode cX11_executeCommands 4 = .ok (.aload_n 0, 1) := by decide +kernel
theorem dX11_executeCommands_5 : decode cX11_executeCommands 5 = .ok (.iconst 0, 1) := by decide +kernel
theorem dX11_executeCommands_6 : decode cX11_executeCommands 6 = .ok (.putfield 348, 3) := by decide +kernel
theorem dX11_executeCommands_9 : decode cX11_executeCommands 9 = .ok (.aload_n 0, 1) := by decide +kernel
theorem dX11_executeCommands_10 : decode cX11_executeCommands 10 = .ok (.getfield 244, 3) := by decide +kernel
theorem dX11_executeCommands_13 : decode cX11_executeCommands 13 = .ok (.ifCond .ne 18, 3) := by decide +kernel
theorem dX11_executeCommands_16 : decode cX11_executeCommands 16 = .ok (.aload_n 0, 1) := by decide +kernel
theorem dX11_executeCommands_17 : decode cX11_executeCommands 17 = .ok (.invokevirtual 250, 3) := by decide +kernel
theorem dX11_executeCommands_20 : decode cX11_executeCommands 20 = .ok (.iconst (-1), 1) := by decide +kernel
theorem dX11_executeCommands_21 : decode cX11_executeCommands 21 = .ok (.if_icmp .eq 10, 3) := by decide +kernel
theorem dX11_executeCommands_24 : decode cX11_executeCommands 24 = .ok (.aload_n 0, 1) := by decide +kernel
theorem dX11_executeCommands_25 : decode cX11_executeCommands 25 = .ok (.invokevirtual 375, 3) := by decide +kernel
theorem dX11_executeCommands_28 : decode cX11_executeCommands 28 = .ok (.goto (-19), 3) := by decide +kernel
theorem dX11_executeCommands_31 : decode cX11_executeCommands 31 = .ok (.aload_n 0, 1) := by decide +kernel
theorem dX11_executeCommands_32 : decode cX11_executeCommands 32 = .ok (.aload_n 0, 1) := by decide +kernel
theorem dX11_executeCommands_33 : decode cX11_executeCommands 33 = .ok (.invokevirtual 317, 3) := by decide +kernel
theorem dX11_executeCommands_36 : decode cX11_executeCommands 36 = .ok (.invokevirtual 221, 3) := by decide +kernel
theorem dX11_executeCommands_39 : decode cX11_executeCommands 39 = .ok (.ifCond .ne 5, 3) := by decide +kernel
theorem dX11_executeCommands_42 : decode cX11_executeCommands 42 = .ok (.iconst 0, 1) := by decide +kernel
theorem dX11_executeCommands_43 : decode cX11_executeCommands 43 = .ok (.ireturn, 1) := by decide +kernel
theorem dX11_executeCommands_44 : decode cX11_executeCommands 44 = .ok (.aload_n 0, 1) := by decide +kernel
theorem dX11_executeCommands_45 : decode cX11_executeCommands 45 = .ok (.aload_n 0, 1) := by decide +kernel
theorem dX11_executeCommands_46 : decode cX11_executeCommands 46 = .ok (.getfield 7, 3) := by decide +kernel
theorem dX11_executeCommands_49 : decode cX11_executeCommands 49 = .ok (.invokevirtual 378, 3) := by decide +kernel
theorem dX11_executeCommands_52 : decode cX11_executeCommands 52 = .ok (.iconst 0, 1) := by decide +kernel
theorem dX11_executeCommands_53 : decode cX11_executeCommands 53 = .ok (.istore_n 1, 1) := by decide +kernel
theorem dX11_executeCommands_54 : decode cX11_executeCommands 54 = .ok (.iload_n 1, 1) := by decide +kernel
theorem dX11_executeCommands_55 : decode cX11_executeCommands 55 = .ok (.aload_n 0, 1) := by decide +kernel
theorem dX11_executeCommands_56 : decode cX11_executeCommands 56 = .ok (.getfield 348, 3) := by decide +kernel
theorem dX11_executeCommands_59 : decode cX11_executeCommands 59 = .ok (.if_icmp .ge 20, 3) := by decide +kernel
theorem dX11_executeCommands_62 : decode cX11_executeCommands 62 = .ok (.aload_n 0, 1) := by decide +kernel
theorem dX11_executeCommands_63 : decode cX11_executeCommands 63 = .ok (.bipush 16, 2) := by decide +kernel
theorem dX11_executeCommands_65 : decode cX11_executeCommands 65 = .ok (.iload_n 1, 1) := by decide +kernel
theorem dX11_executeCommands_66 : decode cX11_executeCommands 66 = .ok (.imul, 1) := by decide +kernel
theorem dX11_executeCommands_67 : decode cX11_executeCommands 67 = .ok (.invokevirtual 382, 3) := by decide +kernel
theorem dX11_executeCommands_70 : decode cX11_executeCommands 70 = .ok (.ifCond .eq 9, 3) := by decide +kernel
theorem dX11_executeCommands_73 : decode cX11_executeCommands 73 = .ok (.iinc 1 1, 3) := by decide +kernel
theorem dX11_executeCommands_76 : decode cX11_executeCommands 76 = .ok (.goto (-22), 3) := by decide +kernel
theorem dX11_executeCommands_79 : decode cX11_executeCommands 79 = .ok (.iload_n 1, 1) := by decide +kernel
theorem dX11_executeCommands_80 : decode cX11_executeCommands 80 = .ok (.ireturn, 1) := by decide +kernel
def st_X11_executeCommands_54 (N : Nat) (l1 : Int32) (t : HV) : Option ((Int32 × HV) ⊕ (Int32 × (HV))) := (if (t.1 20) ≤ l1 then some (.inr (l1, t)) else (ob (F_X11_doesOne N (16 * l1) t) fun v10 t11 => (if v10 = true then some (.inl ((l1 + 1), t11)) else some (.inr (l1, t11)))))
def st_X11_executeCommands_9 (N : Nat) (t : HV) : Option ((HV) ⊕ (Int32 × (HV))) := (if (t.1 15) = 0 then (ob (F_X11_next N t) fun v12 t13 => (if v12 = (-1) then (lt2 (F_X11_endsText t13) fun v14 t15 => (lt2 (F_X11_passes v14 t15) fun v16 t17 => (if v16 = true then (ob1 (F_X11_keeps N 0 t17) fun t19 => (ob1 (lpN N (fun z => st_X11_executeCommands_54 N z.1 z.2) (0, t19)) fun q9 => some (.inr q9))) else some (.inr (0, t17))))) else (ob1 (F_X11_readsOne N t13) fun t21 => some (.inl t21)))) else (lt2 (F_X11_endsText t) fun v4 t5 => (lt2 (F_X11_passes v4 t5) fun v6 t7 => (if v6 = true then (ob1 (F_X11_keeps N 0 t7) fun t9 => (ob1 (lpN N (fun z => st_X11_executeCommands_54 N z.1 z.2) (0, t9)) fun q9 => some (.inr q9))) else some (.inr (0, t7))))))
def F_X11_executeCommands (N : Nat) (t : HV) : Option (Int32 × (HV)) := (lt (F_X11_startsText t) fun t2 => (lt (sS t2 20 0) fun t3 => (lpN N (fun z => st_X11_executeCommands_9 N z) (t3))))
theorem lp_X11_executeCommands_54 {w : WP} (hW : gWM w) (hS : gS w) {Ω : OM}    {N : Nat} {X : CX} (C : gC w X cX11_executeCommands "HedgeMessagesModel" (some .int) 13 2) {v : Int32} {t' : HV}  : ∀ (n : Nat) (l1 : Int32) (t : HV), lpN n (fun z : Int32 × HV => st_X11_executeCommands_54 N z.1 z.2) (l1, t) = some (v, t') → gV w X (some (.int v), cA w (sM Ω t')) (cA w (sM Ω t)) 54 [(0, .ref (wAd w (11, 12, 0, 0))), (1, .int l1)] [] := by
  intro n
  induction n with
  | zero => intro l1 t hL; exact lpN_0 hL
  | succ n ih =>
    intro l1 t hL
    obtain ⟨q9, hF, hL⟩ := lpN_e hL
    change st_X11_executeCommands_54 N l1 t = some q9 at hF
    unfold st_X11_executeCommands_54 at hF
    refine r_iload_n C (k := 1) rfl rfl dX11_executeCommands_54 ?_
    refine r_aload_n C (k := 0) rfl rfl dX11_executeCommands_55 ?_
    refine og_11_20 C (hW.ok k11) (show (sM Ω t).2.1 = t from rfl) wm7_87 dX11_executeCommands_56 ?_
    refine r_icmp_ge C (tgt := 79) rfl dX11_executeCommands_59 (fun hc => ?_) (fun hc => ?_)
    · rw [if_pos hc] at hF
      refine r_iload_n C (k := 1) rfl rfl dX11_executeCommands_79 ?_
      cases hF
      change some _ = some _ at hL
      cases hL
      exact r_ireturn C dX11_executeCommands_80
    · rw [if_neg hc] at hF
      refine r_aload_n C (k := 0) rfl rfl dX11_executeCommands_62 ?_
      refine r_bipush C (v := 16) rfl dX11_executeCommands_63 ?_
      refine r_iload_n C (k := 1) rfl rfl dX11_executeCommands_65 ?_
      refine r_imul C dX11_executeCommands_66 ?_
      obtain ⟨v10, t11, ht11, hF⟩ := ob_e hF
      refine r_callV C (d' := 12) [.int (16 * l1)] (c_X11_doesOne hW (show (sM Ω t).2.1 = t from rfl) N (16 * l1) ht11 rfl) myX11_doesOne wm7_200 ⟨_, _, _, _, (hW.ok k11), rfl, rfl, rfl, rfl⟩ rfl (kR rfl) (by decide) (kR rfl) rfl dX11_executeCommands_67 ?_
      refine r_if_eq C (tgt := 79) rfl dX11_executeCommands_70 (fun hc => ?_) (fun hc => ?_)
      · rw [if_neg (b2i_f hc)] at hF
        refine r_iload_n C (k := 1) rfl rfl dX11_executeCommands_79 ?_
        cases hF
        change some _ = some _ at hL
        cases hL
        exact r_ireturn C dX11_executeCommands_80
      · rw [if_pos (b2i_t hc)] at hF
        refine r_iinc C (k := 1) (v := (l1 + 1)) (lo' := [(1, .int (l1 + 1)), (0, .ref (wAd w (11, 12, 0, 0)))]) rfl rfl (by decide) rfl dX11_executeCommands_73 ?_
        refine r_goto C (tgt := 54) rfl dX11_executeCommands_76 ?_
        cases hF
        change lpN n _ _ = some _ at hL
        refine r_lo [1, 0] (lo' := [(0, .ref (wAd w (11, 12, 0, 0))), (1, .int (l1 + 1))]) rfl ?_
        exact ih (l1 + 1) t11 hL
theorem lp_X11_executeCommands_9 {w : WP} (hW : gWM w) (hS : gS w) {Ω : OM}    {N : Nat} {X : CX} (C : gC w X cX11_executeCommands "HedgeMessagesModel" (some .int) 13 2) {v : Int32} {t' : HV}  : ∀ (n : Nat) (t : HV), lpN n (fun z : HV => st_X11_executeCommands_9 N z) (t) = some (v, t') → gV w X (some (.int v), cA w (sM Ω t')) (cA w (sM Ω t)) 9 [(0, .ref (wAd w (11, 12, 0, 0)))] [] := by
  intro n
  induction n with
  | zero => intro t hL; exact lpN_0 hL
  | succ n ih =>
    intro t hL
    obtain ⟨q9, hF, hL⟩ := lpN_e hL
    change st_X11_executeCommands_9 N t = some q9 at hF
    unfold st_X11_executeCommands_9 at hF
    refine r_aload_n C (k := 0) rfl rfl dX11_executeCommands_9 ?_
    refine og_11_15 C (hW.ok k11) (show (sM Ω t).2.1 = t from rfl) wm7_82 dX11_executeCommands_10 ?_
    refine r_if_ne C (tgt := 31) rfl dX11_executeCommands_13 (fun hc => ?_) (fun hc => ?_)
    · rw [if_neg hc] at hF
      refine r_aload_n C (k := 0) rfl rfl dX11_executeCommands_31 ?_
      refine r_aload_n C (k := 0) rfl rfl dX11_executeCommands_32 ?_
      obtain ⟨v4, t5, ht5, hF⟩ := lt2_e hF
      refine r_callV C (d' := 0) [] (c_X11_endsText hW (show (sM Ω t).2.1 = t from rfl) ht5 rfl) myX11_endsText wm7_59 ⟨_, _, _, _, (hW.ok k11), rfl, rfl, rfl, rfl⟩ rfl (kR rfl) (by decide) (kR rfl) rfl dX11_executeCommands_33 ?_
      obtain ⟨v6, t7, ht7, hF⟩ := lt2_e hF
      refine r_callV C (d' := 0) [.int (b2i v4)] (c_X11_passes hW (show (sM Ω t5).2.1 = t5 from rfl) v4 ht7 rfl) myX11_passes wm7_63 ⟨_, _, _, _, (hW.ok k11), rfl, rfl, rfl, rfl⟩ rfl (kR rfl) (by decide) (kR rfl) rfl dX11_executeCommands_36 ?_
      refine r_if_ne C (tgt := 44) rfl dX11_executeCommands_39 (fun hc => ?_) (fun hc => ?_)
      · rw [if_pos (b2i_t hc)] at hF
        refine r_aload_n C (k := 0) rfl rfl dX11_executeCommands_44 ?_
        refine r_aload_n C (k := 0) rfl rfl dX11_executeCommands_45 ?_
        refine og_11_0 C (hW.ok k11) wm7_67 dX11_executeCommands_46 ?_
        obtain ⟨t9, ht9, hF⟩ := ob1_e hF
        refine r_callV C (d' := 1) [.ref (wAd w (12, 12, 0, 0))] (c_X11_keeps hW (show (sM Ω t7).2.1 = t7 from rfl) N 0 (by unfold okMa; decide) ht9 rfl) myX11_keeps wm7_196 ⟨_, _, _, _, (hW.ok k11), rfl, rfl, rfl, rfl⟩ rfl (kR rfl) (by decide) (kR rfl) rfl dX11_executeCommands_49 ?_
        refine r_iconst C (v := 0) rfl dX11_executeCommands_52 ?_
        refine r_istore_n C (lo' := [(1, .int 0), (0, .ref (wAd w (11, 12, 0, 0)))]) rfl (by decide) rfl dX11_executeCommands_53 ?_
        obtain ⟨q9, h9, hF⟩ := ob1_e hF
        cases hF
        change some _ = some _ at hL
        cases hL
        refine r_lo [1, 0] (lo' := [(0, .ref (wAd w (11, 12, 0, 0))), (1, .int 0)]) rfl ?_
        exact lp_X11_executeCommands_54 hW hS C N 0 t9 h9
      · rw [if_neg (b2i_f hc)] at hF
        refine r_iconst C (v := 0) rfl dX11_executeCommands_42 ?_
        cases hF
        change some _ = some _ at hL
        cases hL
        exact r_ireturn C dX11_executeCommands_43
    · rw [if_pos hc] at hF
      refine r_aload_n C (k := 0) rfl rfl dX11_executeCommands_16 ?_
      obtain ⟨v12, t13, ht13, hF⟩ := ob_e hF
      refine r_callV C (d' := 1) [] (c_X11_next hW (show (sM Ω t).2.1 = t from rfl) N ht13 rfl) myX11_next wm6_198 ⟨_, _, _, _, (hW.ok k11), rfl, rfl, rfl, rfl⟩ rfl (kR rfl) (by decide) (kR rfl) rfl dX11_executeCommands_17 ?_
      refine r_iconst C (v := (-1)) (by decide) dX11_executeCommands_20 ?_
      refine r_icmp_eq C (tgt := 31) rfl dX11_executeCommands_21 (fun hc => ?_) (fun hc => ?_)
      · rw [if_pos hc] at hF
        refine r_aload_n C (k := 0) rfl rfl dX11_executeCommands_31 ?_
        refine r_aload_n C (k := 0) rfl rfl dX11_executeCommands_32 ?_
        obtain ⟨v14, t15, ht15, hF⟩ := lt2_e hF
        refine r_callV C (d' := 0) [] (c_X11_endsText hW (show (sM Ω t13).2.1 = t13 from rfl) ht15 rfl) myX11_endsText wm7_59 ⟨_, _, _, _, (hW.ok k11), rfl, rfl, rfl, rfl⟩ rfl (kR rfl) (by decide) (kR rfl) rfl dX11_executeCommands_33 ?_
        obtain ⟨v16, t17, ht17, hF⟩ := lt2_e hF
        refine r_callV C (d' := 0) [.int (b2i v14)] (c_X11_passes hW (show (sM Ω t15).2.1 = t15 from rfl) v14 ht17 rfl) myX11_passes wm7_63 ⟨_, _, _, _, (hW.ok k11), rfl, rfl, rfl, rfl⟩ rfl (kR rfl) (by decide) (kR rfl) rfl dX11_executeCommands_36 ?_
        refine r_if_ne C (tgt := 44) rfl dX11_executeCommands_39 (fun hc => ?_) (fun hc => ?_)
        · rw [if_pos (b2i_t hc)] at hF
          refine r_aload_n C (k := 0) rfl rfl dX11_executeCommands_44 ?_
          refine r_aload_n C (k := 0) rfl rfl dX11_executeCommands_45 ?_
          refine og_11_0 C (hW.ok k11) wm7_67 dX11_executeCommands_46 ?_
          obtain ⟨t19, ht19, hF⟩ := ob1_e hF
          refine r_callV C (d' := 1) [.ref (wAd w (12, 12, 0, 0))] (c_X11_keeps hW (show (sM Ω t17).2.1 = t17 from rfl) N 0 (by unfold okMa; decide) ht19 rfl) myX11_keeps wm7_196 ⟨_, _, _, _, (hW.ok k11), rfl, rfl, rfl, rfl⟩ rfl (kR rfl) (by decide) (kR rfl) rfl dX11_executeCommands_49 ?_
          refine r_iconst C (v := 0) rfl dX11_executeCommands_52 ?_
          refine r_istore_n C (lo' := [(1, .int 0), (0, .ref (wAd w (11, 12, 0, 0)))]) rfl (by decide) rfl dX11_executeCommands_53 ?_
          obtain ⟨q9, h9, hF⟩ := ob1_e hF
          cases hF
          change some _ = some _ at hL
          cases hL
          refine r_lo [1, 0] (lo' := [(0, .ref (wAd w (11, 12, 0, 0))), (1, .int 0)]) rfl ?_
          exact lp_X11_executeCommands_54 hW hS C N 0 t19 h9
        · rw [if_neg (b2i_f hc)] at hF
          refine r_iconst C (v := 0) rfl dX11_executeCommands_42 ?_
          cases hF
          change some _ = some _ at hL
          cases hL
          exact r_ireturn C dX11_executeCommands_43
      · rw [if_neg hc] at hF
        refine r_aload_n C (k := 0) rfl rfl dX11_executeCommands_24 ?_
        obtain ⟨t21, ht21, hF⟩ := ob1_e hF
        refine r_callV C (d' := 7) [] (c_X11_readsOne hW hS (show (sM Ω t13).2.1 = t13 from rfl) N ht21 rfl) myX11_readsOne wm7_166 ⟨_, _, _, _, (hW.ok k11), rfl, rfl, rfl, rfl⟩ rfl (kR rfl) (by decide) (kR rfl) rfl dX11_executeCommands_25 ?_
        refine r_goto C (tgt := 9) rfl dX11_executeCommands_28 ?_
        cases hF
        change lpN n _ _ = some _ at hL
        refine r_lo [0] (lo' := [(0, .ref (wAd w (11, 12, 0, 0)))]) rfl ?_
        exact ih t21 hL
theorem c_X11_executeCommands {w : WP} (hW : gWM w) (hS : gS w) {Ω : OM}  {t : HV} (e : Ω.2.1 = t) (N : Nat)  {v : Int32} {t' : HV} (hF : F_X11_executeCommands N t = some (v, t')) {Ω' : OM} (e2 : (sM Ω t') = Ω') : gM w 13 yX11_executeCommands cX11_executeCommands 2 (some .int) [.ref (wAd w (11, 12, 0, 0))] (cA w Ω) (some (.int v)) (cA w Ω') := by
  refine gM_of "HedgeMessagesModel" rfl (by decide) (kR rfl) fun X C => ?_
  unfold F_X11_executeCommands at hF
  subst e2
  show gV w X _ _ 0 [(0, .ref (wAd w (11, 12, 0, 0)))] []
  refine r_ct (ct' := cA w (sM Ω t)) (congrArg (cA w) (sM_i e).symm) ?_
  refine r_aload_n C (k := 0) rfl rfl dX11_executeCommands_0 ?_
  obtain ⟨t2, ht2, hF⟩ := lt_e hF
  refine r_callV C (d' := 0) [] (c_X11_startsText hW (show (sM Ω t).2.1 = t from rfl) ht2 rfl) myX11_startsText wm6_185 ⟨_, _, _, _, (hW.ok k11), rfl, rfl, rfl, rfl⟩ rfl (kR rfl) (by decide) (kR rfl) rfl dX11_executeCommands_1 ?_
  refine r_aload_n C (k := 0) rfl rfl dX11_executeCommands_4 ?_
  refine r_iconst C (v := 0) rfl dX11_executeCommands_5 ?_
  obtain ⟨t3, et3, hF⟩ := lt_e hF
  refine op_11_20 C hW.x (hW.fr k11) (show (sM Ω t2).2.1 = t2 from rfl) wm7_87 dX11_executeCommands_6 (congrArg (sM Ω) et3) ?_
  refine r_lo [0] (lo' := [(0, .ref (wAd w (11, 12, 0, 0)))]) rfl ?_
  exact lp_X11_executeCommands_9 hW hS C N t3 hF
