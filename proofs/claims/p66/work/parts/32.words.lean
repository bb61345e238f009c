/-! ===== 32.words: printed by wip/p66/gen.py ===== -/
theorem dX9_isWord_0 : decode cX9_isWord 0 = .ok (.aload_n 0, 1) := by decide +kernel
theorem dX9_isWord_1 : decode cX9_isWord 1 = .ok (.getfield 48, 3) := by decide +kernel
theorem dX9_isWord_4 : decode cX9_isWord 4 = .ok (.iconst 1, 1) := by decide +kernel
theorem dX9_isWord_5 : decode cX9_isWord 5 = .ok (.if_icmp .ne 14, 3) := by decide +kernel
theorem dX9_isWord_8 : decode cX9_isWord 8 = .ok (.aload_n 0, 1) := by decide +kernel
theorem dX9_isWord_9 : decode cX9_isWord 9 = .ok (.getfield 54, 3) := by decide +kernel
theorem dX9_isWord_12 : decode cX9_isWord 12 = .ok (.aload_n 1, 1) := by decide +kernel
theorem dX9_isWord_13 : decode cX9_isWord 13 = .ok (.invokevirtual 57, 3) := by decide +kernel
theorem dX9_isWord_16 : decode cX9_isWord 16 = .ok (.if_icmp .eq 5, 3) := by decide +kernel
theorem dX9_isWord_19 : decode cX9_isWord 19 = .ok (.iconst 0, 1) := by decide +kernel
theorem dX9_isWord_20 : decode cX9_isWord 20 = .ok (.ireturn, 1) := by decide +kernel
theorem dX9_isWord_21 : decode cX9_isWord 21 = .ok (.iconst 0, 1) := by decide +kernel
theorem dX9_isWord_22 : decode cX9_isWord 22 = .ok (.istore_n 2, 1) := by decide +kernel
theorem dX9_isWord_23 : decode cX9_isWord 23 = .ok (.iload_n 2, 1) := by decide +kernel
theorem dX9_isWord_24 : decode cX9_isWord 24 = .ok (.aload_n 1, 1) := by decide +kernel
theorem dX9_isWord_25 : decode cX9_isWord 25 = .ok (.invokevirtual 57, 3) := by decide +kernel
theorem dX9_isWord_28 : decode cX9_isWord 28 = .ok (.if_icmp .ge 32, 3) := by decide +kernel
theorem dX9_isWord_31 : decode cX9_isWord 31 = .ok (.aload_n 0, 1) := by decide +kernel
theorem dX9_isWord_32 : decode cX9_isWord 32 = .ok (.getfield 14, 3) := by decide +kernel
theorem dX9_isWord_35 : decode cX9_isWord 35 = .ok (.aload_n 0, 1) := by decide +kernel
theorem dX9_isWord_36 : decode cX9_isWord 36 = .ok (.getfield 45, 3) := by decide +kernel
theorem dX9_isWord_39 : decode cX9_isWord 39 = .ok (.iload_n 2, 1) := by decide +kernel
theorem dX9_isWord_40 : decode cX9_isWord 40 = .ok (.iadd, 1) := by decide +kernel
theorem dX9_isWord_41 : decode cX9_isWord 41 = .ok (.invokevirtual 31, 3) := by decide +kernel
theorem dX9_isWord_44 : decode cX9_isWord 44 = .ok (.aload_n 1, 1) := by decide +kernel
theorem dX9_isWord_45 : decode cX9_isWord 45 = .ok (.iload_n 2, 1) := by decide +kernel
theorem dX9_isWord_46 : decode cX9_isWord 46 = .ok (.invokevirtual 62, 3) := by decide +kernel
theorem dX9_isWord_49 : decode cX9_isWord 49 = .ok (.if_icmp .eq 5, 3) := by decide +kernel
theorem dX9_isWord_52 : decode cX9_isWord 52 = .ok (.iconst 0, 1) := by decide +kernel
theorem dX9_isWord_53 : decode cX9_isWord 53 = .ok (.ireturn, 1) := by decide +kernel
theorem dX9_isWord_54 : decode cX9_isWord 54 = .ok (.iinc 2 1, 3) := by decide +kernel
theorem dX9_isWord_57 : decode cX9_isWord 57 = .ok (.goto (-34), 3) := by decide +kernel
theorem dX9_isWord_60 : decode cX9_isWord 60 = .ok (.iconst 1, 1) := by decide +kernel
theorem dX9_isWord_61 : decode cX9_isWord 61 = .ok (.ireturn, 1) := by decide +kernel
def st_X9_isWord_23 (N : Nat) (sx : Nat) (l2 : Int32) (g : HV) : Option ((Int32) ⊕ (Bool)) := (if (nI (sTx sx).length) ≤ l2 then some (.inr true) else (if vpb l2 (sTx sx).length = true then (if (rget 800 (g.2 0) ((g.1 4) + l2)) = (sCh sx l2) then some (.inl (l2 + 1)) else some (.inr false)) else none))
def F_X9_isWord (N : Nat) (sx : Nat) (g : HV) : Option (Bool) := (if (g.1 3) = 1 then (if (g.1 5) = (nI (sTx sx).length) then (lpN N (fun z => st_X9_isWord_23 N sx z g) (0)) else some false) else some false)
theorem lp_X9_isWord_23 {w : WP} (hW : gW w) (hS : gS w) {Ω : OM}  {g : HV} (e : Ω.1 11 4 = g) (sx : Nat) (hsx : sx < 32)  {N : Nat} {X : CX} (C : gC w X cX9_isWord "HedgeMessages$Text" (some .boolean) 4 3) {v : Bool}  : ∀ (n : Nat) (l2 : Int32), lpN n (fun z : Int32 => st_X9_isWord_23 N sx z g) (l2) = some v → gV w X (some (.int (b2i v)), cA w Ω) (cA w Ω) 23 [(0, .ref (wAd w (5, 11, 4, 0))), (1, .ref (wAd w (15, sx, 0, 0))), (2, .int l2)] [] := by
  intro n
  induction n with
  | zero => intro l2 hL; exact lpN_0 hL
  | succ n ih =>
    intro l2 hL
    obtain ⟨q9, hF, hL⟩ := lpN_e hL
    change st_X9_isWord_23 N sx l2 g = some q9 at hF
    unfold st_X9_isWord_23 at hF
    refine r_iload_n C (k := 2) rfl rfl dX9_isWord_23 ?_
    refine r_aload_n C (k := 1) rfl rfl dX9_isWord_24 ?_
    refine r_callE C (d' := 1) [] (c_slen hS hsx) myJ0_length_8abf5 wm3_131 ((hS.s C).imp fun _ _ _ h => (h.2.2.2 sx hsx).1) rfl (kR rfl) (by decide) (kR rfl) rfl dX9_isWord_25 ?_
    refine r_icmp_ge C (tgt := 60) rfl dX9_isWord_28 (fun hc => ?_) (fun hc => ?_)
    · rw [if_pos hc] at hF
      refine r_iconst C (v := 1) rfl dX9_isWord_60 ?_
      cases hF
      change some _ = some _ at hL
      cases hL
      exact r_zreturn C true rfl dX9_isWord_61
    · rw [if_neg hc] at hF
      refine r_aload_n C (k := 0) rfl rfl dX9_isWord_31 ?_
      refine og_5_0 C (hW.ok k5) wm1_235 dX9_isWord_32 ?_
      refine r_aload_n C (k := 0) rfl rfl dX9_isWord_35 ?_
      refine og_5_4 C (hW.ok k5) e wm2_2 dX9_isWord_36 ?_
      refine r_iload_n C (k := 2) rfl rfl dX9_isWord_39 ?_
      refine r_iadd C dX9_isWord_40 ?_
      refine r_callV C (d' := 0) [.int ((g.1 4) + l2)] (c_rget (hW.ok (i := (3, 11, 4, 0)) q4) (hW.ok (i := (4, 11, 4, 0)) q4) (show rlen 4 0 = 800 from rfl) (by decide) (congrArg (fun z => z.2 0) e) rfl) myX8_get wm3_116 ⟨_, _, _, _, (hW.ok (i := (3, 11, 4, 0)) q4), rfl, rfl, rfl, rfl⟩ rfl (kR rfl) (by decide) (kR rfl) rfl dX9_isWord_41 ?_
      refine r_aload_n C (k := 1) rfl rfl dX9_isWord_44 ?_
      refine r_iload_n C (k := 2) rfl rfl dX9_isWord_45 ?_
      obtain ⟨b1, hF⟩ := gd_e hF
      refine r_callE C (d' := 3) [.int l2] (c_charAt hS hsx (vpb_in b1)) myJ0_charAt_5068e wm3_132 ((hS.s C).imp fun _ _ _ h => (h.2.2.2 sx hsx).1) rfl (kR rfl) (by decide) (kR rfl) rfl dX9_isWord_46 ?_
      refine r_icmp_eq C (tgt := 54) rfl dX9_isWord_49 (fun hc => ?_) (fun hc => ?_)
      · rw [if_pos hc] at hF
        refine r_iinc C (k := 2) (v := (l2 + 1)) (lo' := [(2, .int (l2 + 1)), (0, .ref (wAd w (5, 11, 4, 0))), (1, .ref (wAd w (15, sx, 0, 0)))]) rfl rfl (by decide) rfl dX9_isWord_54 ?_
        refine r_goto C (tgt := 23) rfl dX9_isWord_57 ?_
        cases hF
        change lpN n _ _ = some _ at hL
        refine r_lo [1, 2, 0] (lo' := [(0, .ref (wAd w (5, 11, 4, 0))), (1, .ref (wAd w (15, sx, 0, 0))), (2, .int (l2 + 1))]) rfl ?_
        exact ih (l2 + 1) hL
      · rw [if_neg hc] at hF
        refine r_iconst C (v := 0) rfl dX9_isWord_52 ?_
        cases hF
        change some _ = some _ at hL
        cases hL
        exact r_zreturn C false rfl dX9_isWord_53
theorem c_X9_isWord {w : WP} (hW : gW w) (hS : gS w) {Ω : OM}  {g : HV} (e : Ω.1 11 4 = g) (N : Nat) (sx : Nat) (hsx : sx < 32) {v : Bool} (hF : F_X9_isWord N sx g = some v) : gM w 4 yX9_isWord cX9_isWord 3 (some .boolean) [.ref (wAd w (5, 11, 4, 0)), .ref (wAd w (15, sx, 0, 0))] (cA w Ω) (some (.int (b2i v))) (cA w Ω) := by
  refine gM_of "HedgeMessages$Text" rfl (by decide) (kR rfl) fun X C => ?_
  unfold F_X9_isWord at hF
  show gV w X _ _ 0 [(0, .ref (wAd w (5, 11, 4, 0))), (1, .ref (wAd w (15, sx, 0, 0)))] []
  refine r_aload_n C (k := 0) rfl rfl dX9_isWord_0 ?_
  refine og_5_3 C (hW.ok k5) e wm2_1 dX9_isWord_1 ?_
  refine r_iconst C (v := 1) rfl dX9_isWord_4 ?_
  refine r_icmp_ne C (tgt := 19) rfl dX9_isWord_5 (fun hc => ?_) (fun hc => ?_)
  · rw [if_neg hc] at hF
    refine r_iconst C (v := 0) rfl dX9_isWord_19 ?_
    cases hF
    exact r_zreturn C false rfl dX9_isWord_20
  · rw [if_pos hc] at hF
    refine r_aload_n C (k := 0) rfl rfl dX9_isWord_8 ?_
    refine og_5_5 C (hW.ok k5) e wm2_4 dX9_isWord_9 ?_
    refine r_aload_n C (k := 1) rfl rfl dX9_isWord_12 ?_
    refine r_callE C (d' := 1) [] (c_slen hS hsx) myJ0_length_8abf5 wm3_131 ((hS.s C).imp fun _ _ _ h => (h.2.2.2 sx hsx).1) rfl (kR rfl) (by decide) (kR rfl) rfl dX9_isWord_13 ?_
    refine r_icmp_eq C (tgt := 21) rfl dX9_isWord_16 (fun hc => ?_) (fun hc => ?_)
    · rw [if_pos hc] at hF
      refine r_iconst C (v := 0) rfl dX9_isWord_21 ?_
      refine r_istore_n C (lo' := [(2, .int 0), (0, .ref (wAd w (5, 11, 4, 0))), (1, .ref (wAd w (15, sx, 0, 0)))]) rfl (by decide) rfl dX9_isWord_22 ?_
      refine r_lo [1, 2, 0] (lo' := [(0, .ref (wAd w (5, 11, 4, 0))), (1, .ref (wAd w (15, sx, 0, 0))), (2, .int 0)]) rfl ?_
      exact lp_X9_isWord_23 hW hS e sx hsx C N 0 hF
    · rw [if_neg hc] at hF
      refine r_iconst C (v := 0) rfl dX9_isWord_19 ?_
      cases hF
      exact r_zreturn C false rfl dX9_isWord_20
