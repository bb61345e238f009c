/-! ===== look: the law looks ===== -/
theorem dL_isProtected_0 : decode cL_isProtected 0 = .ok (.iconst 0, 1) := by decide +kernel
theorem dL_isProtected_1 : decode cL_isProtected 1 = .ok (.iload_n 1, 1) := by decide +kernel
theorem dL_isProtected_2 : decode cL_isProtected 2 = .ok (.iconst 1, 1) := by decide +kernel
theorem dL_isProtected_3 : decode cL_isProtected 3 = .ok (.isub, 1) := by decide +kernel
theorem dL_isProtected_4 : decode cL_isProtected 4 = .ok (.invokestatic 163, 3) := by decide +kernel
theorem dL_isProtected_7 : decode cL_isProtected 7 = .ok (.istore_n 2, 1) := by decide +kernel
theorem dL_isProtected_8 : decode cL_isProtected 8 = .ok (.iload_n 2, 1) := by decide +kernel
theorem dL_isProtected_9 : decode cL_isProtected 9 = .ok (.aload_n 0, 1) := by decide +kernel
theorem dL_isProtected_10 : decode cL_isProtected 10 = .ok (.invokevirtual 112, 3) := by decide +kernel
theorem dL_isProtected_13 : decode cL_isProtected 13 = .ok (.iconst 1, 1) := by decide +kernel
theorem dL_isProtected_14 : decode cL_isProtected 14 = .ok (.isub, 1) := by decide +kernel
theorem dL_isProtected_15 : decode cL_isProtected 15 = .ok (.iload_n 1, 1) := by decide +kernel
theorem dL_isProtected_16 : decode cL_isProtected 16 = .ok (.iconst 1, 1) := by decide +kernel
theorem dL_isProtected_17 : decode cL_isProtected 17 = .ok (.iadd, 1) := by decide +kernel
theorem dL_isProtected_18 : decode cL_isProtected 18 = .ok (.invokestatic 166, 3) := by decide +kernel
theorem dL_isProtected_21 : decode cL_isProtected 21 = .ok (.if_icmp .gt 19, 3) := by decide +kernel
theorem dL_isProtected_24 : decode cL_isProtected 24 = .ok (.aload_n 0, 1) := by decide +kernel
theorem dL_isProtected_25 : decode cL_isProtected 25 = .ok (.iload_n 2, 1) := by decide +kernel
theorem dL_isProtected_26 : decode cL_isProtected 26 = .ok (.invokevirtual 128, 3) := by decide +kernel
theorem dL_isProtected_29 : decode cL_isProtected 29 = .ok (.ifCond .le 5, 3) := by decide +kernel
theorem dL_isProtected_32 : decode cL_isProtected 32 = .ok (.iconst 1, 1) := by decide +kernel
theorem dL_isProtected_33 : decode cL_isProtected 33 = .ok (.ireturn, 1) := by decide +kernel
theorem dL_isProtected_34 : decode cL_isProtected 34 = .ok (.iinc 2 1, 3) := by decide +kernel
theorem dL_isProtected_37 : decode cL_isProtected 37 = .ok (.goto (-29), 3) := by decide +kernel
theorem dL_isProtected_40 : decode cL_isProtected 40 = .ok (.iconst 0, 1) := by decide +kernel
theorem dL_isProtected_41 : decode cL_isProtected 41 = .ok (.ireturn, 1) := by decide +kernel
def st_L_isProtected_8 (N : Nat) (l1 : Int32) (l2 : Int32) (S : Nat → Nat → HV) : Option ((Int32) ⊕ ((Unit) ⊕ Bool)) := (if (if (l1 + 1) < ((F_X10_slotCount S) - 1) then (l1 + 1) else ((F_X10_slotCount S) - 1)) < l2 then some (.inr (.inl ())) else (ob1 (okI (F_X10_nestDays l2 S)) fun v1 => (if v1 ≤ 0 then some (.inl (l2 + 1)) else some (.inr (.inr true)))))
def F_L_isProtected (N : Nat) (a1 : Int32) (S : Nat → Nat → HV) : Option Bool := (om (lpN N (fun z => st_L_isProtected_8 N a1 z S) (if 0 < (a1 - 1) then (a1 - 1) else 0)) (fun r => some r) (fun _ => some false))
theorem lq_L_isProtected_8 {w : WP} (hW : gW w) (hS : gS w) {Ω : OM} {S : Nat → Nat → HV} (e : Ω.1 = S) (l1 : Int32) {N : Nat} {X : CX} (C : gC w X cL_isProtected "HedgeMessagesLaw" (some .boolean) 8 3) {q : (Unit) ⊕ Bool} {u : Option Value × CT} : ∀ (n : Nat) (l2 : Int32), lpN n (fun z : Int32 => st_L_isProtected_8 N l1 z S) l2 = some q → (∀ a : Unit, q = .inl a → gU w X (qR w X u) (cA w Ω) 40 [] []) → (∀ r, q = .inr r → qR w X u = qR w X ((some (.int (b2i r))), cA w Ω)) → gU w X (qR w X u) (cA w Ω) 8 [(0, .ref (wAd w (7, 11, 6, 0))), (1, .int l1), (2, .int l2)] [] := by
  intro n
  induction n with
  | zero => intro l2 hL; exact lpN_0 hL
  | succ n ih =>
    intro l2 hL kJ kR9
    replace ih := fun l2 hL => ih l2 hL kJ kR9
    obtain ⟨q9, hF, hL⟩ := lpN_e hL
    change st_L_isProtected_8 N l1 l2 S = some q9 at hF
    unfold st_L_isProtected_8 at hF
    refine r_iload_n C (k := 2) rfl rfl dL_isProtected_8 ?_
    refine r_aload_n C (k := 0) rfl rfl dL_isProtected_9 ?_
    refine r_callV C (d' := 0) [] (c_X10_slotCount hW e rfl) myX10_slotCount wm5_8 ⟨_, _, _, _, (hW.ok k7), rfl, rfl, rfl, rfl⟩ rfl (kR rfl) (by decide) (kR rfl) rfl dL_isProtected_10 ?_
    refine r_iconst C (v := 1) rfl dL_isProtected_13 ?_
    refine r_isub C dL_isProtected_14 ?_
    refine r_iload_n C (k := 1) rfl rfl dL_isProtected_15 ?_
    refine r_iconst C (v := 1) rfl dL_isProtected_16 ?_
    refine r_iadd C dL_isProtected_17 ?_
    refine r_mmin C (by decide) wm5_99 (kR rfl) dL_isProtected_18 ?_
    refine r_icmp_gt C (tgt := 40) rfl dL_isProtected_21 (fun hc => ?_) (fun hc => ?_)
    · rw [if_pos hc] at hF
      cases hF
      change some _ = some _ at hL
      cases hL
      refine r_lo [] (lo' := []) rfl ?_
      exact kJ _ rfl
    · rw [if_neg hc] at hF
      refine r_aload_n C (k := 0) rfl rfl dL_isProtected_24 ?_
      refine r_iload_n C (k := 2) rfl rfl dL_isProtected_25 ?_
      obtain ⟨v1, hv1, hF⟩ := ob1_e hF
      refine r_callV C (d' := 7) [.int l2] (c_X10_nestDays hW hS e l2 (okI_e hv1)) myX10_nestDays wm5_27 ⟨_, _, _, _, (hW.ok k7), rfl, rfl, rfl, rfl⟩ rfl (kR rfl) (by decide) (kR rfl) rfl dL_isProtected_26 ?_
      refine r_if_le C (tgt := 34) rfl dL_isProtected_29 (fun hc => ?_) (fun hc => ?_)
      · rw [if_pos hc] at hF
        refine r_iinc C (k := 2) (v := (l2 + 1)) (lo' := [(2, .int (l2 + 1)), (0, .ref (wAd w (7, 11, 6, 0))), (1, .int l1)]) rfl rfl (by decide) rfl dL_isProtected_34 ?_
        refine r_goto C (tgt := 8) rfl dL_isProtected_37 ?_
        cases hF
        change lpN n _ _ = some _ at hL
        refine r_lo [1, 2, 0] (lo' := [(0, .ref (wAd w (7, 11, 6, 0))), (1, .int l1), (2, .int (l2 + 1))]) rfl ?_
        exact ih (l2 + 1) hL
      · rw [if_neg hc] at hF
        refine r_iconst C (v := 1) rfl dL_isProtected_32 ?_
        cases hF
        change some _ = some _ at hL
        cases hL
        rw [kR9 _ rfl]
        exact r_zreturn C true rfl dL_isProtected_33
theorem c_L_isProtected {w : WP} (hW : gW w) (hS : gS w) {Ω : OM} {S : Nat → Nat → HV} (e : Ω.1 = S) (N : Nat) (a1 : Int32) {v : Bool} (hF : F_L_isProtected N a1 S = some v) : gM w 8 yL_isProtected cL_isProtected 3 (some .boolean) [.ref (wAd w (7, 11, 6, 0)), .int a1] (cA w Ω) (some (.int (b2i v))) (cA w Ω) := by
  refine gM_of "HedgeMessagesLaw" rfl (by decide) (kR rfl) fun X C => ?_
  unfold F_L_isProtected at hF
  show gU w X (qR w X ((some (.int (b2i v))), cA w Ω)) (cA w Ω) 0 [(0, .ref (wAd w (7, 11, 6, 0))), (1, .int a1)] []
  refine r_iconst C (v := 0) rfl dL_isProtected_0 ?_
  refine r_iload_n C (k := 1) rfl rfl dL_isProtected_1 ?_
  refine r_iconst C (v := 1) rfl dL_isProtected_2 ?_
  refine r_isub C dL_isProtected_3 ?_
  refine r_mmax C (by decide) wm5_96 (kR rfl) dL_isProtected_4 ?_
  refine r_istore_n C (lo' := [(2, .int (if 0 < (a1 - 1) then (a1 - 1) else 0)), (0, .ref (wAd w (7, 11, 6, 0))), (1, .int a1)]) rfl (by decide) rfl dL_isProtected_7 ?_
  obtain ⟨q2, hq2, hF⟩ := om_e hF
  have kq2 : ∀ a : Unit, q2 = .inl a → gU w X (qR w X ((some (.int (b2i v))), cA w Ω)) (cA w Ω) 40 [] [] := by
    rintro ⟨⟩ ha
    subst ha
    dsimp only [Sum.elim_inl] at hF
    refine r_iconst C (v := 0) rfl dL_isProtected_40 ?_
    cases hF
    exact r_zreturn C false rfl dL_isProtected_41
  refine r_lo [1, 2, 0] (lo' := [(0, .ref (wAd w (7, 11, 6, 0))), (1, .int a1), (2, .int (if 0 < (a1 - 1) then (a1 - 1) else 0))]) rfl ?_
  refine lq_L_isProtected_8 hW hS e a1 C N (if 0 < (a1 - 1) then (a1 - 1) else 0) hq2 kq2 ?_
  intro r hr
  subst hr
  change some _ = some _ at hF
  cases hF
  rfl
theorem dL_keep_0 : decode cL_keep 0 = .ok (.aload_n 0, 1) := by decide +kernel
theorem dL_keep_1 : decode cL_keep 1 = .ok (.iload_n 1, 1) := by decide +kernel
theorem dL_keep_2 : decode cL_keep 2 = .ok (.invokevirtual 187, 3) := by decide +kernel
theorem dL_keep_5 : decode cL_keep 5 = .ok (.istore_n 2, 1) := by decide +kernel
theorem dL_keep_6 : decode cL_keep 6 = .ok (.iload_n 2, 1) := by decide +kernel
theorem dL_keep_7 : decode cL_keep 7 = .ok (.bipush 14, 2) := by decide +kernel
theorem dL_keep_9 : decode cL_keep 9 = .ok (.if_icmp .eq 21, 3) := by decide +kernel
theorem dL_keep_12 : decode cL_keep 12 = .ok (.iload_n 2, 1) := by decide +kernel
theorem dL_keep_13 : decode cL_keep 13 = .ok (.aload_n 0, 1) := by decide +kernel
theorem dL_keep_14 : decode cL_keep 14 = .ok (.iload_n 1, 1) := by decide +kernel
theorem dL_keep_15 : decode cL_keep 15 = .ok (.invokestatic 172, 3) := by decide +kernel
theorem dL_keep_18 : decode cL_keep 18 = .ok (.ifCond .eq 8, 3) := by decide +kernel
theorem dL_keep_21 : decode cL_keep 21 = .ok (.bipush 8, 2) := by decide +kernel
theorem dL_keep_23 : decode cL_keep 23 = .ok (.goto 4, 3) := by decide +kernel
theorem dL_keep_26 : decode cL_keep 26 = .ok (.iconst 0, 1) := by decide +kernel
theorem dL_keep_27 : decode cL_keep 27 = .ok (.if_icmp .ne 7, 3) := by decide +kernel
theorem dL_keep_30 : decode cL_keep 30 = .ok (.iload_n 2, 1) := by decide +kernel
theorem dL_keep_31 : decode cL_keep 31 = .ok (.goto 5, 3) := by decide +kernel
theorem dL_keep_34 : decode cL_keep 34 = .ok (.bipush (-9), 2) := by decide +kernel
theorem dL_keep_36 : decode cL_keep 36 = .ok (.ireturn, 1) := by decide +kernel
def F_L_keep (N : Nat) (a1 : Int32) (S : Nat → Nat → HV) : Option Int32 := (ob1 (okI (F_X10_keepReason a1 S)) fun v1 => (om (if v1 = 14 then some (.inl ()) else (ob1 (F_L_isProtected N a1 S) fun v3 => (ob1 ((if v3 = true then some 8 else some 0) : Option Int32) fun v5 => (if v1 = v5 then some (.inl ()) else some (.inr (-9)))))) (fun r => some r) (fun _ => some v1)))
theorem c_L_keep {w : WP} (hW : gW w) (hS : gS w) {Ω : OM} {S : Nat → Nat → HV} (e : Ω.1 = S) (N : Nat) (a1 : Int32) {v : Int32} (hF : F_L_keep N a1 S = some v) : gM w 9 yL_keep cL_keep 3 (some .int) [.ref (wAd w (7, 11, 6, 0)), .int a1] (cA w Ω) (some (.int v)) (cA w Ω) := by
  refine gM_of "HedgeMessagesLaw" rfl (by decide) (kR rfl) fun X C => ?_
  unfold F_L_keep at hF
  show gU w X (qR w X ((some (.int v)), cA w Ω)) (cA w Ω) 0 [(0, .ref (wAd w (7, 11, 6, 0))), (1, .int a1)] []
  refine r_aload_n C (k := 0) rfl rfl dL_keep_0 ?_
  refine r_iload_n C (k := 1) rfl rfl dL_keep_1 ?_
  obtain ⟨v1, hv1, hF⟩ := ob1_e hF
  refine r_callV C (d' := 7) [.int a1] (c_X10_keepReason hW hS e a1 (okI_e hv1)) myX10_keepReason wm5_122 ⟨_, _, _, _, (hW.ok k7), rfl, rfl, rfl, rfl⟩ rfl (kR rfl) (by decide) (kR rfl) rfl dL_keep_2 ?_
  refine r_istore_n C (lo' := [(2, .int v1), (0, .ref (wAd w (7, 11, 6, 0))), (1, .int a1)]) rfl (by decide) rfl dL_keep_5 ?_
  refine r_iload_n C (k := 0) rfl rfl dL_keep_6 ?_
  refine r_bipush C (v := 14) rfl dL_keep_7 ?_
  obtain ⟨q2, hq2, hF⟩ := om_e hF
  have kq2 : ∀ a : Unit, q2 = .inl a → gU w X (qR w X ((some (.int v)), cA w Ω)) (cA w Ω) 30 [(2, .int v1)] [] := by
    rintro ⟨⟩ ha
    subst ha
    dsimp only [Sum.elim_inl] at hF
    refine r_iload_n C (k := 0) rfl rfl dL_keep_30 ?_
    refine r_goto C (tgt := 36) rfl dL_keep_31 ?_
    cases hF
    exact r_ireturn C dL_keep_36
  refine r_icmp_eq C (tgt := 30) rfl dL_keep_9 (fun hc => ?_) (fun hc => ?_)
  · rw [if_pos hc] at hq2
    cases hq2
    refine r_lo [0] (lo' := [(2, .int v1)]) rfl ?_
    exact kq2 _ rfl
  · rw [if_neg hc] at hq2
    refine r_iload_n C (k := 0) rfl rfl dL_keep_12 ?_
    refine r_aload_n C (k := 1) rfl rfl dL_keep_13 ?_
    refine r_iload_n C (k := 2) rfl rfl dL_keep_14 ?_
    obtain ⟨v3, hv3, hq2⟩ := ob1_e hq2
    refine r_callS C (d' := 8) [.ref (wAd w (7, 11, 6, 0)), .int a1] (c_L_isProtected hW hS e N a1 hv3) myL_isProtected wm5_93 rfl (kR rfl) (by decide) (kR rfl) rfl dL_keep_15 ?_
    obtain ⟨v5, hq4, hq2⟩ := ob1_e hq2
    have kq4 : ∀ a, v5 = a → gU w X (qR w X ((some (.int v)), cA w Ω)) (cA w Ω) 27 [(2, .int v1)] (.int a :: [.int v1]) := by
      intro a ha
      subst ha
      refine r_icmp_ne C (tgt := 34) rfl dL_keep_27 (fun hc => ?_) (fun hc => ?_)
      · rw [if_neg hc] at hq2
        refine r_bipush C (v := (-9)) (by decide) dL_keep_34 ?_
        cases hq2
        change some _ = some _ at hF
        cases hF
        exact r_ireturn C dL_keep_36
      · rw [if_pos hc] at hq2
        cases hq2
        refine r_lo [0] (lo' := [(2, .int v1)]) rfl ?_
        exact kq2 _ rfl
    refine r_if_eq C (tgt := 26) rfl dL_keep_18 (fun hc => ?_) (fun hc => ?_)
    · rw [if_neg (b2i_f hc)] at hq4
      refine r_iconst C (v := 0) rfl dL_keep_26 ?_
      cases hq4
      refine r_lo [0] (lo' := [(2, .int v1)]) rfl ?_
      exact kq4 _ rfl
    · rw [if_pos (b2i_t hc)] at hq4
      refine r_bipush C (v := 8) rfl dL_keep_21 ?_
      refine r_goto C (tgt := 27) rfl dL_keep_23 ?_
      cases hq4
      refine r_lo [0] (lo' := [(2, .int v1)]) rfl ?_
      exact kq4 _ rfl
theorem dL_isSlot_0 : decode cL_isSlot 0 = .ok (.aload_n 0, 1) := by decide +kernel
theorem dL_isSlot_1 : decode cL_isSlot 1 = .ok (.iload_n 1, 1) := by decide +kernel
theorem dL_isSlot_2 : decode cL_isSlot 2 = .ok (.invokevirtual 115, 3) := by decide +kernel
theorem dL_isSlot_5 : decode cL_isSlot 5 = .ok (.iconst (-1), 1) := by decide +kernel
theorem dL_isSlot_6 : decode cL_isSlot 6 = .ok (.if_icmp .ne 7, 3) := by decide +kernel
theorem dL_isSlot_9 : decode cL_isSlot 9 = .ok (.iconst 1, 1) := by decide +kernel
theorem dL_isSlot_10 : decode cL_isSlot 10 = .ok (.goto 4, 3) := by decide +kernel
theorem dL_isSlot_13 : decode cL_isSlot 13 = .ok (.iconst 0, 1) := by decide +kernel
theorem dL_isSlot_14 : decode cL_isSlot 14 = .ok (.istore_n 2, 1) := by decide +kernel
theorem dL_isSlot_15 : decode cL_isSlot 15 = .ok (.aload_n 0, 1) := by decide +kernel
theorem dL_isSlot_16 : decode cL_isSlot 16 = .ok (.iload_n 1, 1) := by decide +kernel
theorem dL_isSlot_17 : decode cL_isSlot 17 = .ok (.invokevirtual 120, 3) := by decide +kernel
theorem dL_isSlot_20 : decode cL_isSlot 20 = .ok (.aload_n 0, 1) := by decide +kernel
theorem dL_isSlot_21 : decode cL_isSlot 21 = .ok (.invokevirtual 169, 3) := by decide +kernel
theorem dL_isSlot_24 : decode cL_isSlot 24 = .ok (.if_icmp .ne 7, 3) := by decide +kernel
theorem dL_isSlot_27 : decode cL_isSlot 27 = .ok (.iconst 1, 1) := by decide +kernel
theorem dL_isSlot_28 : decode cL_isSlot 28 = .ok (.goto 4, 3) := by decide +kernel
theorem dL_isSlot_31 : decode cL_isSlot 31 = .ok (.iconst 0, 1) := by decide +kernel
theorem dL_isSlot_32 : decode cL_isSlot 32 = .ok (.istore_n 3, 1) := by decide +kernel
theorem dL_isSlot_33 : decode cL_isSlot 33 = .ok (.aload_n 0, 1) := by decide +kernel
theorem dL_isSlot_34 : decode cL_isSlot 34 = .ok (.invokevirtual 91, 3) := by decide +kernel
theorem dL_isSlot_37 : decode cL_isSlot 37 = .ok (.ifCond .ne 7, 3) := by decide +kernel
theorem dL_isSlot_40 : decode cL_isSlot 40 = .ok (.iconst 1, 1) := by decide +kernel
theorem dL_isSlot_41 : decode cL_isSlot 41 = .ok (.goto 4, 3) := by decide +kernel
theorem dL_isSlot_44 : decode cL_isSlot 44 = .ok (.iconst 0, 1) := by decide +kernel
theorem dL_isSlot_45 : decode cL_isSlot 45 = .ok (.istore 4, 2) := by decide +kernel
theorem dL_isSlot_47 : decode cL_isSlot 47 = .ok (.aload_n 0, 1) := by decide +kernel
theorem dL_isSlot_48 : decode cL_isSlot 48 = .ok (.iload_n 1, 1) := by decide +kernel
theorem dL_isSlot_49 : decode cL_isSlot 49 = .ok (.invokestatic 172, 3) := by decide +kernel
theorem dL_isSlot_52 : decode cL_isSlot 52 = .ok (.istore 5, 2) := by decide +kernel
theorem dL_isSlot_54 : decode cL_isSlot 54 = .ok (.iload_n 2, 1) := by decide +kernel
theorem dL_isSlot_55 : decode cL_isSlot 55 = .ok (.aload_n 0, 1) := by decide +kernel
theorem dL_isSlot_56 : decode cL_isSlot 56 = .ok (.iload_n 1, 1) := by decide +kernel
theorem dL_isSlot_57 : decode cL_isSlot 57 = .ok (.invokevirtual 120, 3) := by decide +kernel
theorem dL_isSlot_60 : decode cL_isSlot 60 = .ok (.iconst (-1), 1) := by decide +kernel
theorem dL_isSlot_61 : decode cL_isSlot 61 = .ok (.if_icmp .ne 7, 3) := by decide +kernel
theorem dL_isSlot_64 : decode cL_isSlot 64 = .ok (.iconst 1, 1) := by decide +kernel
theorem dL_isSlot_65 : decode cL_isSlot 65 = .ok (.goto 4, 3) := by decide +kernel
theorem dL_isSlot_68 : decode cL_isSlot 68 = .ok (.iconst 0, 1) := by decide +kernel
theorem dL_isSlot_69 : decode cL_isSlot 69 = .ok (.if_icmp .ne 30, 3) := by decide +kernel
theorem dL_isSlot_72 : decode cL_isSlot 72 = .ok (.iload_n 2, 1) := by decide +kernel
theorem dL_isSlot_73 : decode cL_isSlot 73 = .ok (.aload_n 0, 1) := by decide +kernel
theorem dL_isSlot_74 : decode cL_isSlot 74 = .ok (.iload_n 1, 1) := by decide +kernel
theorem dL_isSlot_75 : decode cL_isSlot 75 = .ok (.invokevirtual 125, 3) := by decide +kernel
theorem dL_isSlot_78 : decode cL_isSlot 78 = .ok (.ifCond .ne 7, 3) := by decide +kernel
theorem dL_isSlot_81 : decode cL_isSlot 81 = .ok (.iconst 1, 1) := by decide +kernel
theorem dL_isSlot_82 : decode cL_isSlot 82 = .ok (.goto 4, 3) := by decide +kernel
theorem dL_isSlot_85 : decode cL_isSlot 85 = .ok (.iconst 0, 1) := by decide +kernel
theorem dL_isSlot_86 : decode cL_isSlot 86 = .ok (.if_icmp .ne 13, 3) := by decide +kernel
theorem dL_isSlot_89 : decode cL_isSlot 89 = .ok (.aload_n 0, 1) := by decide +kernel
theorem dL_isSlot_90 : decode cL_isSlot 90 = .ok (.iload_n 1, 1) := by decide +kernel
theorem dL_isSlot_91 : decode cL_isSlot 91 = .ok (.invokevirtual 176, 3) := by decide +kernel
theorem dL_isSlot_94 : decode cL_isSlot 94 = .ok (.iload 5, 2) := by decide +kernel
theorem dL_isSlot_96 : decode cL_isSlot 96 = .ok (.if_icmp .eq 5, 3) := by decide +kernel
theorem dL_isSlot_99 : decode cL_isSlot 99 = .ok (.iconst 0, 1) := by decide +kernel
theorem dL_isSlot_100 : decode cL_isSlot 100 = .ok (.ireturn, 1) := by decide +kernel
theorem dL_isSlot_101 : decode cL_isSlot 101 = .ok (.iload 4, 2) := by decide +kernel
theorem dL_isSlot_103 : decode cL_isSlot 103 = .ok (.ifCond .eq 7, 3) := by decide +kernel
theorem dL_isSlot_106 : decode cL_isSlot 106 = .ok (.iconst 1, 1) := by decide +kernel
theorem dL_isSlot_107 : decode cL_isSlot 107 = .ok (.goto 36, 3) := by decide +kernel
theorem dL_isSlot_110 : decode cL_isSlot 110 = .ok (.iload_n 2, 1) := by decide +kernel
theorem dL_isSlot_111 : decode cL_isSlot 111 = .ok (.ifCond .ne 7, 3) := by decide +kernel
theorem dL_isSlot_114 : decode cL_isSlot 114 = .ok (.iconst 2, 1) := by decide +kernel
theorem dL_isSlot_115 : decode cL_isSlot 115 = .ok (.goto 28, 3) := by decide +kernel
theorem dL_isSlot_118 : decode cL_isSlot 118 = .ok (.aload_n 0, 1) := by decide +kernel
theorem dL_isSlot_119 : decode cL_isSlot 119 = .ok (.iload_n 1, 1) := by decide +kernel
theorem dL_isSlot_120 : decode cL_isSlot 120 = .ok (.invokevirtual 131, 3) := by decide +kernel
theorem dL_isSlot_123 : decode cL_isSlot 123 = .ok (.ifCond .eq 7, 3) := by decide +kernel
theorem dL_isSlot_126 : decode cL_isSlot 126 = .ok (.iconst 3, 1) := by decide +kernel
theorem dL_isSlot_127 : decode cL_isSlot 127 = .ok (.goto 16, 3) := by decide +kernel
theorem dL_isSlot_130 : decode cL_isSlot 130 = .ok (.aload_n 0, 1) := by decide +kernel
theorem dL_isSlot_131 : decode cL_isSlot 131 = .ok (.iload_n 1, 1) := by decide +kernel
theorem dL_isSlot_132 : decode cL_isSlot 132 = .ok (.invokevirtual 128, 3) := by decide +kernel
theorem dL_isSlot_135 : decode cL_isSlot 135 = .ok (.ifCond .le 7, 3) := by decide +kernel
theorem dL_isSlot_138 : decode cL_isSlot 138 = .ok (.iconst 4, 1) := by decide +kernel
theorem dL_isSlot_139 : decode cL_isSlot 139 = .ok (.goto 4, 3) := by decide +kernel
theorem dL_isSlot_142 : decode cL_isSlot 142 = .ok (.iconst 0, 1) := by decide +kernel
theorem dL_isSlot_143 : decode cL_isSlot 143 = .ok (.istore 6, 2) := by decide +kernel
theorem dL_isSlot_145 : decode cL_isSlot 145 = .ok (.iload 4, 2) := by decide +kernel
theorem dL_isSlot_147 : decode cL_isSlot 147 = .ok (.ifCond .eq 7, 3) := by decide +kernel
theorem dL_isSlot_150 : decode cL_isSlot 150 = .ok (.iconst 1, 1) := by decide +kernel
theorem dL_isSlot_151 : decode cL_isSlot 151 = .ok (.goto 21, 3) := by decide +kernel
theorem dL_isSlot_154 : decode cL_isSlot 154 = .ok (.iload_n 2, 1) := by decide +kernel
theorem dL_isSlot_155 : decode cL_isSlot 155 = .ok (.ifCond .eq 7, 3) := by decide +kernel
theorem dL_isSlot_158 : decode cL_isSlot 158 = .ok (.iconst 5, 1) := by decide +kernel
theorem dL_isSlot_159 : decode cL_isSlot 159 = .ok (.goto 13, 3) := by decide +kernel
theorem dL_isSlot_162 : decode cL_isSlot 162 = .ok (.iload_n 3, 1) := by decide +kernel
theorem dL_isSlot_163 : decode cL_isSlot 163 = .ok (.ifCond .ne 8, 3) := by decide +kernel
theorem dL_isSlot_166 : decode cL_isSlot 166 = .ok (.bipush 6, 2) := by decide +kernel
theorem dL_isSlot_168 : decode cL_isSlot 168 = .ok (.goto 4, 3) := by decide +kernel
theorem dL_isSlot_171 : decode cL_isSlot 171 = .ok (.iconst 0, 1) := by decide +kernel
theorem dL_isSlot_172 : decode cL_isSlot 172 = .ok (.istore 7, 2) := by decide +kernel
theorem dL_isSlot_174 : decode cL_isSlot 174 = .ok (.iload 7, 2) := by decide +kernel
theorem dL_isSlot_176 : decode cL_isSlot 176 = .ok (.ifCond .le 8, 3) := by decide +kernel
theorem dL_isSlot_179 : decode cL_isSlot 179 = .ok (.iload 7, 2) := by decide +kernel
theorem dL_isSlot_181 : decode cL_isSlot 181 = .ok (.goto 14, 3) := by decide +kernel
theorem dL_isSlot_184 : decode cL_isSlot 184 = .ok (.iload 5, 2) := by decide +kernel
theorem dL_isSlot_186 : decode cL_isSlot 186 = .ok (.ifCond .eq 8, 3) := by decide +kernel
theorem dL_isSlot_189 : decode cL_isSlot 189 = .ok (.bipush 8, 2) := by decide +kernel
theorem dL_isSlot_191 : decode cL_isSlot 191 = .ok (.goto 4, 3) := by decide +kernel
theorem dL_isSlot_194 : decode cL_isSlot 194 = .ok (.iconst 0, 1) := by decide +kernel
theorem dL_isSlot_195 : decode cL_isSlot 195 = .ok (.istore 8, 2) := by decide +kernel
theorem dL_isSlot_197 : decode cL_isSlot 197 = .ok (.aload_n 0, 1) := by decide +kernel
theorem dL_isSlot_198 : decode cL_isSlot 198 = .ok (.iload_n 1, 1) := by decide +kernel
theorem dL_isSlot_199 : decode cL_isSlot 199 = .ok (.invokevirtual 178, 3) := by decide +kernel
theorem dL_isSlot_202 : decode cL_isSlot 202 = .ok (.istore 9, 2) := by decide +kernel
theorem dL_isSlot_204 : decode cL_isSlot 204 = .ok (.aload_n 0, 1) := by decide +kernel
theorem dL_isSlot_205 : decode cL_isSlot 205 = .ok (.iload_n 1, 1) := by decide +kernel
theorem dL_isSlot_206 : decode cL_isSlot 206 = .ok (.invokevirtual 181, 3) := by decide +kernel
theorem dL_isSlot_209 : decode cL_isSlot 209 = .ok (.iload 6, 2) := by decide +kernel
theorem dL_isSlot_211 : decode cL_isSlot 211 = .ok (.if_icmp .ne 78, 3) := by decide +kernel
theorem dL_isSlot_214 : decode cL_isSlot 214 = .ok (.aload_n 0, 1) := by decide +kernel
theorem dL_isSlot_215 : decode cL_isSlot 215 = .ok (.iload_n 1, 1) := by decide +kernel
theorem dL_isSlot_216 : decode cL_isSlot 216 = .ok (.invokevirtual 184, 3) := by decide +kernel
theorem dL_isSlot_219 : decode cL_isSlot 219 = .ok (.iload 8, 2) := by decide +kernel
theorem dL_isSlot_221 : decode cL_isSlot 221 = .ok (.if_icmp .ne 68, 3) := by decide +kernel
theorem dL_isSlot_224 : decode cL_isSlot 224 = .ok (.iload 7, 2) := by decide +kernel
theorem dL_isSlot_226 : decode cL_isSlot 226 = .ok (.ifCond .le 13, 3) := by decide +kernel
theorem dL_isSlot_229 : decode cL_isSlot 229 = .ok (.iload 9, 2) := by decide +kernel
theorem dL_isSlot_231 : decode cL_isSlot 231 = .ok (.iload 7, 2) := by decide +kernel
theorem dL_isSlot_233 : decode cL_isSlot 233 = .ok (.if_icmp .ne 56, 3) := by decide +kernel
theorem dL_isSlot_236 : decode cL_isSlot 236 = .ok (.goto 28, 3) := by decide +kernel
theorem dL_isSlot_239 : decode cL_isSlot 239 = .ok (.aload_n 0, 1) := by decide +kernel
theorem dL_isSlot_240 : decode cL_isSlot 240 = .ok (.iload_n 1, 1) := by decide +kernel
theorem dL_isSlot_241 : decode cL_isSlot 241 = .ok (.invokevirtual 131, 3) := by decide +kernel
theorem dL_isSlot_244 : decode cL_isSlot 244 = .ok (.ifCond .eq 13, 3) := by decide +kernel
theorem dL_isSlot_247 : decode cL_isSlot 247 = .ok (.iload 9, 2) := by decide +kernel
theorem dL_isSlot_249 : decode cL_isSlot 249 = .ok (.bipush 7, 2) := by decide +kernel
theorem dL_isSlot_251 : decode cL_isSlot 251 = .ok (.if_icmp .ne 38, 3) := by decide +kernel
theorem dL_isSlot_254 : decode cL_isSlot 254 = .ok (.goto 10, 3) := by decide +kernel
theorem dL_isSlot_257 : decode cL_isSlot 257 = .ok (.iload 9, 2) := by decide +kernel
theorem dL_isSlot_259 : decode cL_isSlot 259 = .ok (.iload 8, 2) := by decide +kernel
theorem dL_isSlot_261 : decode cL_isSlot 261 = .ok (.if_icmp .ne 28, 3) := by decide +kernel
theorem dL_isSlot_264 : decode cL_isSlot 264 = .ok (.aload_n 0, 1) := by decide +kernel
theorem dL_isSlot_265 : decode cL_isSlot 265 = .ok (.iload_n 1, 1) := by decide +kernel
theorem dL_isSlot_266 : decode cL_isSlot 266 = .ok (.invokevirtual 187, 3) := by decide +kernel
theorem dL_isSlot_269 : decode cL_isSlot 269 = .ok (.iload_n 2, 1) := by decide +kernel
theorem dL_isSlot_270 : decode cL_isSlot 270 = .ok (.ifCond .eq 7, 3) := by decide +kernel
theorem dL_isSlot_273 : decode cL_isSlot 273 = .ok (.iconst 5, 1) := by decide +kernel
theorem dL_isSlot_274 : decode cL_isSlot 274 = .ok (.goto 8, 3) := by decide +kernel
theorem dL_isSlot_277 : decode cL_isSlot 277 = .ok (.aload_n 0, 1) := by decide +kernel
theorem dL_isSlot_278 : decode cL_isSlot 278 = .ok (.iload_n 1, 1) := by decide +kernel
theorem dL_isSlot_279 : decode cL_isSlot 279 = .ok (.invokestatic 190, 3) := by decide +kernel
theorem dL_isSlot_282 : decode cL_isSlot 282 = .ok (.if_icmp .ne 7, 3) := by decide +kernel
theorem dL_isSlot_285 : decode cL_isSlot 285 = .ok (.iconst 1, 1) := by decide +kernel
theorem dL_isSlot_286 : decode cL_isSlot 286 = .ok (.goto 4, 3) := by decide +kernel
theorem dL_isSlot_289 : decode cL_isSlot 289 = .ok (.iconst 0, 1) := by decide +kernel
theorem dL_isSlot_290 : decode cL_isSlot 290 = .ok (.ireturn, 1) := by decide +kernel
def F_L_isSlot (N : Nat) (a1 : Int32) (S : Nat → Nat → HV) : Option Bool := (ob1 (okI (F_X10_letterAt a1 S)) fun v1 => (ob1 ((if v1 = (-1) then some 1 else some 0) : Option Int32) fun v3 => (ob1 (okI (F_X10_ownerAt a1 S)) fun v4 => (ob1 ((if v4 = (F_X10_activeGardener S) then some 1 else some 0) : Option Int32) fun v6 => (ob1 ((if (F_X10_actionsLeft S) = 0 then some 1 else some 0) : Option Int32) fun v8 => (ob1 (F_L_isProtected N a1 S) fun v9 => (ob1 (okI (F_X10_ownerAt a1 S)) fun v10 => (ob1 ((if v10 = (-1) then some 1 else some 0) : Option Int32) fun v12 => (if v3 = v12 then (ob1 (okI (F_X10_lengthAt a1 S)) fun v13 => (ob1 ((if v13 = 0 then some 1 else some 0) : Option Int32) fun v15 => (if v3 = v15 then (ob1 (okI (F_X10_isProtected a1 S)) fun v16 => (if (b2i v16) = (b2i v9) then (ob1 ((if v8 = 0 then (if v3 = 0 then some 2 else (ob1 (okI (F_X10_isReserved a1 S)) fun v19 => (if v19 = true then some 3 else (ob1 (okI (F_X10_nestDays a1 S)) fun v20 => (if v20 ≤ 0 then some 0 else some 4))))) else some 1) : Option Int32) fun v18 => (ob1 ((if v8 = 0 then (if v3 = 0 then (if v6 = 0 then some 6 else some 0) else some 5) else some 1) : Option Int32) fun v22 => (ob1 ((if v22 ≤ 0 then (if v9 = true then some 8 else some 0) else some v22) : Option Int32) fun v24 => (ob1 (okI (F_X10_removeReason a1 S)) fun v25 => (ob1 (okI (F_X10_plantReason a1 S)) fun v26 => (if v26 = v18 then (ob1 (okI (F_X10_trimReason a1 S)) fun v27 => (if v27 = v24 then (om (if v22 ≤ 0 then (ob1 (okI (F_X10_isReserved a1 S)) fun v29 => (if v29 = true then (if v25 = 7 then some (.inl ()) else some (.inr false)) else (if v25 = v24 then some (.inl ()) else some (.inr false)))) else (if v25 = v22 then some (.inl ()) else some (.inr false))) (fun r => some r) (fun _ => (ob1 (okI (F_X10_keepReason a1 S)) fun v30 => (ob1 ((if v3 = 0 then (ob1 (F_L_keep N a1 S) fun v33 => some v33) else some 5) : Option Int32) fun v32 => (if v30 = v32 then some true else some false))))) else some false)) else some false)))))) else some false)) else some false))) else some false)))))))))
theorem c_L_isSlot {w : WP} (hW : gW w) (hS : gS w) {Ω : OM} {S : Nat → Nat → HV} (e : Ω.1 = S) (N : Nat) (a1 : Int32) {v : Bool} (hF : F_L_isSlot N a1 S = some v) : gM w 10 yL_isSlot cL_isSlot 10 (some .boolean) [.ref (wAd w (7, 11, 6, 0)), .int a1] (cA w Ω) (some (.int (b2i v))) (cA w Ω) := by
  refine gM_of "HedgeMessagesLaw" rfl (by decide) (kR rfl) fun X C => ?_
  unfold F_L_isSlot at hF
  show gU w X (qR w X ((some (.int (b2i v))), cA w Ω)) (cA w Ω) 0 [(0, .ref (wAd w (7, 11, 6, 0))), (1, .int a1)] []
  refine r_aload_n C (k := 0) rfl rfl dL_isSlot_0 ?_
  refine r_iload_n C (k := 1) rfl rfl dL_isSlot_1 ?_
  obtain ⟨v1, hv1, hF⟩ := ob1_e hF
  refine r_callV C (d' := 7) [.int a1] (c_X10_letterAt hW hS e a1 (okI_e hv1)) myX10_letterAt wm5_12 ⟨_, _, _, _, (hW.ok k7), rfl, rfl, rfl, rfl⟩ rfl (kR rfl) (by decide) (kR rfl) rfl dL_isSlot_2 ?_
  refine r_iconst C (v := (-1)) (by decide) dL_isSlot_5 ?_
  obtain ⟨v3, hq2, hF⟩ := ob1_e hF
  have kq2 : ∀ a, v3 = a → gU w X (qR w X ((some (.int (b2i v))), cA w Ω)) (cA w Ω) 14 [(0, .ref (wAd w (7, 11, 6, 0))), (1, .int a1)] (.int a :: []) := by
    intro a ha
    subst ha
    refine r_istore_n C (lo' := [(2, .int v3), (0, .ref (wAd w (7, 11, 6, 0))), (1, .int a1)]) rfl (by decide) rfl dL_isSlot_14 ?_
    refine r_aload_n C (k := 1) rfl rfl dL_isSlot_15 ?_
    refine r_iload_n C (k := 2) rfl rfl dL_isSlot_16 ?_
    obtain ⟨v4, hv4, hF⟩ := ob1_e hF
    refine r_callV C (d' := 7) [.int a1] (c_X10_ownerAt hW hS e a1 (okI_e hv4)) myX10_ownerAt wm5_18 ⟨_, _, _, _, (hW.ok k7), rfl, rfl, rfl, rfl⟩ rfl (kR rfl) (by decide) (kR rfl) rfl dL_isSlot_17 ?_
    refine r_aload_n C (k := 1) rfl rfl dL_isSlot_20 ?_
    refine r_callV C (d' := 1) [] (c_X10_activeGardener hW e rfl) myX10_activeGardener wm5_88 ⟨_, _, _, _, (hW.ok k7), rfl, rfl, rfl, rfl⟩ rfl (kR rfl) (by decide) (kR rfl) rfl dL_isSlot_21 ?_
    obtain ⟨v6, hq5, hF⟩ := ob1_e hF
    have kq5 : ∀ a, v6 = a → gU w X (qR w X ((some (.int (b2i v))), cA w Ω)) (cA w Ω) 32 [(0, .ref (wAd w (7, 11, 6, 0))), (1, .int a1), (2, .int v3)] (.int a :: []) := by
      intro a ha
      subst ha
      refine r_istore_n C (lo' := [(3, .int v6), (0, .ref (wAd w (7, 11, 6, 0))), (1, .int a1), (2, .int v3)]) rfl (by decide) rfl dL_isSlot_32 ?_
      refine r_aload_n C (k := 1) rfl rfl dL_isSlot_33 ?_
      refine r_callV C (d' := 0) [] (c_X10_actionsLeft hW e rfl) myX10_actionsLeft wm4_225 ⟨_, _, _, _, (hW.ok k7), rfl, rfl, rfl, rfl⟩ rfl (kR rfl) (by decide) (kR rfl) rfl dL_isSlot_34 ?_
      obtain ⟨v8, hq7, hF⟩ := ob1_e hF
      have kq7 : ∀ a, v8 = a → gU w X (qR w X ((some (.int (b2i v))), cA w Ω)) (cA w Ω) 45 [(0, .ref (wAd w (7, 11, 6, 0))), (1, .int a1), (2, .int v3), (3, .int v6)] (.int a :: []) := by
        intro a ha
        subst ha
        refine r_istore C (lo' := [(4, .int v8), (0, .ref (wAd w (7, 11, 6, 0))), (1, .int a1), (2, .int v3), (3, .int v6)]) (by decide) rfl dL_isSlot_45 ?_
        refine r_aload_n C (k := 1) rfl rfl dL_isSlot_47 ?_
        refine r_iload_n C (k := 2) rfl rfl dL_isSlot_48 ?_
        obtain ⟨v9, hv9, hF⟩ := ob1_e hF
        refine r_callS C (d' := 8) [.ref (wAd w (7, 11, 6, 0)), .int a1] (c_L_isProtected hW hS e N a1 hv9) myL_isProtected wm5_93 rfl (kR rfl) (by decide) (kR rfl) rfl dL_isSlot_49 ?_
        refine r_istore C (lo' := [(5, .int (b2i v9)), (4, .int v8), (0, .ref (wAd w (7, 11, 6, 0))), (1, .int a1), (2, .int v3), (3, .int v6)]) (by decide) rfl dL_isSlot_52 ?_
        refine r_iload_n C (k := 4) rfl rfl dL_isSlot_54 ?_
        refine r_aload_n C (k := 2) rfl rfl dL_isSlot_55 ?_
        refine r_iload_n C (k := 3) rfl rfl dL_isSlot_56 ?_
        obtain ⟨v10, hv10, hF⟩ := ob1_e hF
        refine r_callV C (d' := 7) [.int a1] (c_X10_ownerAt hW hS e a1 (okI_e hv10)) myX10_ownerAt wm5_18 ⟨_, _, _, _, (hW.ok k7), rfl, rfl, rfl, rfl⟩ rfl (kR rfl) (by decide) (kR rfl) rfl dL_isSlot_57 ?_
        refine r_iconst C (v := (-1)) (by decide) dL_isSlot_60 ?_
        obtain ⟨v12, hq11, hF⟩ := ob1_e hF
        have kq11 : ∀ a, v12 = a → gU w X (qR w X ((some (.int (b2i v))), cA w Ω)) (cA w Ω) 69 [(0, .ref (wAd w (7, 11, 6, 0))), (1, .int a1), (2, .int v3), (3, .int v6), (4, .int v8), (5, .int (b2i v9))] (.int a :: [.int v3]) := by
          intro a ha
          subst ha
          refine r_icmp_ne C (tgt := 99) rfl dL_isSlot_69 (fun hc => ?_) (fun hc => ?_)
          · rw [if_neg hc] at hF
            refine r_iconst C (v := 0) rfl dL_isSlot_99 ?_
            cases hF
            exact r_zreturn C false rfl dL_isSlot_100
          · rw [if_pos hc] at hF
            refine r_iload_n C (k := 2) rfl rfl dL_isSlot_72 ?_
            refine r_aload_n C (k := 0) rfl rfl dL_isSlot_73 ?_
            refine r_iload_n C (k := 1) rfl rfl dL_isSlot_74 ?_
            obtain ⟨v13, hv13, hF⟩ := ob1_e hF
            refine r_callV C (d' := 7) [.int a1] (c_X10_lengthAt hW hS e a1 (okI_e hv13)) myX10_lengthAt wm5_23 ⟨_, _, _, _, (hW.ok k7), rfl, rfl, rfl, rfl⟩ rfl (kR rfl) (by decide) (kR rfl) rfl dL_isSlot_75 ?_
            obtain ⟨v15, hq14, hF⟩ := ob1_e hF
            have kq14 : ∀ a, v15 = a → gU w X (qR w X ((some (.int (b2i v))), cA w Ω)) (cA w Ω) 86 [(0, .ref (wAd w (7, 11, 6, 0))), (1, .int a1), (2, .int v3), (3, .int v6), (4, .int v8), (5, .int (b2i v9))] (.int a :: [.int v3]) := by
              intro a ha
              subst ha
              refine r_icmp_ne C (tgt := 99) rfl dL_isSlot_86 (fun hc => ?_) (fun hc => ?_)
              · rw [if_neg hc] at hF
                refine r_iconst C (v := 0) rfl dL_isSlot_99 ?_
                cases hF
                exact r_zreturn C false rfl dL_isSlot_100
              · rw [if_pos hc] at hF
                refine r_aload_n C (k := 0) rfl rfl dL_isSlot_89 ?_
                refine r_iload_n C (k := 1) rfl rfl dL_isSlot_90 ?_
                obtain ⟨v16, hv16, hF⟩ := ob1_e hF
                refine r_callV C (d' := 7) [.int a1] (c_X10_isProtected hW hS e a1 (okI_e hv16)) myX10_isProtected wm5_102 ⟨_, _, _, _, (hW.ok k7), rfl, rfl, rfl, rfl⟩ rfl (kR rfl) (by decide) (kR rfl) rfl dL_isSlot_91 ?_
                refine r_iload C (k := 5) rfl dL_isSlot_94 ?_
                refine r_icmp_eq C (tgt := 101) rfl dL_isSlot_96 (fun hc => ?_) (fun hc => ?_)
                · rw [if_pos hc] at hF
                  refine r_iload C (k := 4) rfl dL_isSlot_101 ?_
                  obtain ⟨v18, hq17, hF⟩ := ob1_e hF
                  have kq17 : ∀ a, v18 = a → gU w X (qR w X ((some (.int (b2i v))), cA w Ω)) (cA w Ω) 143 [(0, .ref (wAd w (7, 11, 6, 0))), (1, .int a1), (2, .int v3), (3, .int v6), (4, .int v8), (5, .int (b2i v9))] (.int a :: []) := by
                    intro a ha
                    subst ha
                    refine r_istore C (lo' := [(6, .int v18), (0, .ref (wAd w (7, 11, 6, 0))), (1, .int a1), (2, .int v3), (3, .int v6), (4, .int v8), (5, .int (b2i v9))]) (by decide) rfl dL_isSlot_143 ?_
                    refine r_iload C (k := 5) rfl dL_isSlot_145 ?_
                    obtain ⟨v22, hq21, hF⟩ := ob1_e hF
                    have kq21 : ∀ a, v22 = a → gU w X (qR w X ((some (.int (b2i v))), cA w Ω)) (cA w Ω) 172 [(0, .ref (wAd w (7, 11, 6, 0))), (1, .int a1), (2, .int v3), (5, .int (b2i v9)), (6, .int v18)] (.int a :: []) := by
                      intro a ha
                      subst ha
                      refine r_istore C (lo' := [(7, .int v22), (0, .ref (wAd w (7, 11, 6, 0))), (1, .int a1), (2, .int v3), (5, .int (b2i v9)), (6, .int v18)]) (by decide) rfl dL_isSlot_172 ?_
                      refine r_iload C (k := 0) rfl dL_isSlot_174 ?_
                      obtain ⟨v24, hq23, hF⟩ := ob1_e hF
                      have kq23 : ∀ a, v24 = a → gU w X (qR w X ((some (.int (b2i v))), cA w Ω)) (cA w Ω) 195 [(0, .ref (wAd w (7, 11, 6, 0))), (1, .int a1), (2, .int v3), (6, .int v18), (7, .int v22)] (.int a :: []) := by
                        intro a ha
                        subst ha
                        refine r_istore C (lo' := [(8, .int v24), (0, .ref (wAd w (7, 11, 6, 0))), (1, .int a1), (2, .int v3), (6, .int v18), (7, .int v22)]) (by decide) rfl dL_isSlot_195 ?_
                        refine r_aload_n C (k := 1) rfl rfl dL_isSlot_197 ?_
                        refine r_iload_n C (k := 2) rfl rfl dL_isSlot_198 ?_
                        obtain ⟨v25, hv25, hF⟩ := ob1_e hF
                        refine r_callV C (d' := 7) [.int a1] (c_X10_removeReason hW hS e a1 (okI_e hv25)) myX10_removeReason wm5_107 ⟨_, _, _, _, (hW.ok k7), rfl, rfl, rfl, rfl⟩ rfl (kR rfl) (by decide) (kR rfl) rfl dL_isSlot_199 ?_
                        refine r_istore C (lo' := [(9, .int v25), (8, .int v24), (0, .ref (wAd w (7, 11, 6, 0))), (1, .int a1), (2, .int v3), (6, .int v18), (7, .int v22)]) (by decide) rfl dL_isSlot_202 ?_
                        refine r_aload_n C (k := 2) rfl rfl dL_isSlot_204 ?_
                        refine r_iload_n C (k := 3) rfl rfl dL_isSlot_205 ?_
                        obtain ⟨v26, hv26, hF⟩ := ob1_e hF
                        refine r_callV C (d' := 7) [.int a1] (c_X10_plantReason hW hS e a1 (okI_e hv26)) myX10_plantReason wm5_112 ⟨_, _, _, _, (hW.ok k7), rfl, rfl, rfl, rfl⟩ rfl (kR rfl) (by decide) (kR rfl) rfl dL_isSlot_206 ?_
                        refine r_iload C (k := 5) rfl dL_isSlot_209 ?_
                        refine r_icmp_ne C (tgt := 289) rfl dL_isSlot_211 (fun hc => ?_) (fun hc => ?_)
                        · rw [if_neg hc] at hF
                          refine r_iconst C (v := 0) rfl dL_isSlot_289 ?_
                          cases hF
                          exact r_zreturn C false rfl dL_isSlot_290
                        · rw [if_pos hc] at hF
                          refine r_aload_n C (k := 2) rfl rfl dL_isSlot_214 ?_
                          refine r_iload_n C (k := 3) rfl rfl dL_isSlot_215 ?_
                          obtain ⟨v27, hv27, hF⟩ := ob1_e hF
                          refine r_callV C (d' := 7) [.int a1] (c_X10_trimReason hW hS e a1 (okI_e hv27)) myX10_trimReason wm5_117 ⟨_, _, _, _, (hW.ok k7), rfl, rfl, rfl, rfl⟩ rfl (kR rfl) (by decide) (kR rfl) rfl dL_isSlot_216 ?_
                          refine r_iload C (k := 1) rfl dL_isSlot_219 ?_
                          refine r_icmp_ne C (tgt := 289) rfl dL_isSlot_221 (fun hc => ?_) (fun hc => ?_)
                          · rw [if_neg hc] at hF
                            refine r_iconst C (v := 0) rfl dL_isSlot_289 ?_
                            cases hF
                            exact r_zreturn C false rfl dL_isSlot_290
                          · rw [if_pos hc] at hF
                            refine r_iload C (k := 6) rfl dL_isSlot_224 ?_
                            obtain ⟨q28, hq28, hF⟩ := om_e hF
                            have kq28 : ∀ a : Unit, q28 = .inl a → gU w X (qR w X ((some (.int (b2i v))), cA w Ω)) (cA w Ω) 264 [(0, .ref (wAd w (7, 11, 6, 0))), (1, .int a1), (2, .int v3)] [] := by
                              rintro ⟨⟩ ha
                              subst ha
                              dsimp only [Sum.elim_inl] at hF
                              refine r_aload_n C (k := 0) rfl rfl dL_isSlot_264 ?_
                              refine r_iload_n C (k := 1) rfl rfl dL_isSlot_265 ?_
                              obtain ⟨v30, hv30, hF⟩ := ob1_e hF
                              refine r_callV C (d' := 7) [.int a1] (c_X10_keepReason hW hS e a1 (okI_e hv30)) myX10_keepReason wm5_122 ⟨_, _, _, _, (hW.ok k7), rfl, rfl, rfl, rfl⟩ rfl (kR rfl) (by decide) (kR rfl) rfl dL_isSlot_266 ?_
                              refine r_iload_n C (k := 2) rfl rfl dL_isSlot_269 ?_
                              obtain ⟨v32, hq31, hF⟩ := ob1_e hF
                              have kq31 : ∀ a, v32 = a → gU w X (qR w X ((some (.int (b2i v))), cA w Ω)) (cA w Ω) 282 [] (.int a :: [.int v30]) := by
                                intro a ha
                                subst ha
                                refine r_icmp_ne C (tgt := 289) rfl dL_isSlot_282 (fun hc => ?_) (fun hc => ?_)
                                · rw [if_neg hc] at hF
                                  refine r_iconst C (v := 0) rfl dL_isSlot_289 ?_
                                  cases hF
                                  exact r_zreturn C false rfl dL_isSlot_290
                                · rw [if_pos hc] at hF
                                  refine r_iconst C (v := 1) rfl dL_isSlot_285 ?_
                                  refine r_goto C (tgt := 290) rfl dL_isSlot_286 ?_
                                  cases hF
                                  exact r_zreturn C true rfl dL_isSlot_290
                              refine r_if_eq C (tgt := 277) rfl dL_isSlot_270 (fun hc => ?_) (fun hc => ?_)
                              · rw [if_pos hc] at hq31
                                refine r_aload_n C (k := 0) rfl rfl dL_isSlot_277 ?_
                                refine r_iload_n C (k := 1) rfl rfl dL_isSlot_278 ?_
                                obtain ⟨v33, hv33, hq31⟩ := ob1_e hq31
                                refine r_callS C (d' := 9) [.ref (wAd w (7, 11, 6, 0)), .int a1] (c_L_keep hW hS e N a1 hv33) myL_keep wm5_127 rfl (kR rfl) (by decide) (kR rfl) rfl dL_isSlot_279 ?_
                                cases hq31
                                refine r_lo [] (lo' := []) rfl ?_
                                exact kq31 _ rfl
                              · rw [if_neg hc] at hq31
                                refine r_iconst C (v := 5) rfl dL_isSlot_273 ?_
                                refine r_goto C (tgt := 282) rfl dL_isSlot_274 ?_
                                cases hq31
                                refine r_lo [] (lo' := []) rfl ?_
                                exact kq31 _ rfl
                            refine r_if_le C (tgt := 239) rfl dL_isSlot_226 (fun hc => ?_) (fun hc => ?_)
                            · rw [if_pos hc] at hq28
                              refine r_aload_n C (k := 2) rfl rfl dL_isSlot_239 ?_
                              refine r_iload_n C (k := 3) rfl rfl dL_isSlot_240 ?_
                              obtain ⟨v29, hv29, hq28⟩ := ob1_e hq28
                              refine r_callV C (d' := 7) [.int a1] (c_X10_isReserved hW hS e a1 (okI_e hv29)) myX10_isReserved wm5_31 ⟨_, _, _, _, (hW.ok k7), rfl, rfl, rfl, rfl⟩ rfl (kR rfl) (by decide) (kR rfl) rfl dL_isSlot_241 ?_
                              refine r_if_eq C (tgt := 257) rfl dL_isSlot_244 (fun hc => ?_) (fun hc => ?_)
                              · rw [if_neg (b2i_f hc)] at hq28
                                refine r_iload C (k := 0) rfl dL_isSlot_257 ?_
                                refine r_iload C (k := 1) rfl dL_isSlot_259 ?_
                                refine r_icmp_ne C (tgt := 289) rfl dL_isSlot_261 (fun hc => ?_) (fun hc => ?_)
                                · rw [if_neg hc] at hq28
                                  refine r_iconst C (v := 0) rfl dL_isSlot_289 ?_
                                  cases hq28
                                  change some _ = some _ at hF
                                  cases hF
                                  exact r_zreturn C false rfl dL_isSlot_290
                                · rw [if_pos hc] at hq28
                                  cases hq28
                                  refine r_lo [2, 3, 4] (lo' := [(0, .ref (wAd w (7, 11, 6, 0))), (1, .int a1), (2, .int v3)]) rfl ?_
                                  exact kq28 _ rfl
                              · rw [if_pos (b2i_t hc)] at hq28
                                refine r_iload C (k := 0) rfl dL_isSlot_247 ?_
                                refine r_bipush C (v := 7) rfl dL_isSlot_249 ?_
                                refine r_icmp_ne C (tgt := 289) rfl dL_isSlot_251 (fun hc => ?_) (fun hc => ?_)
                                · rw [if_neg hc] at hq28
                                  refine r_iconst C (v := 0) rfl dL_isSlot_289 ?_
                                  cases hq28
                                  change some _ = some _ at hF
                                  cases hF
                                  exact r_zreturn C false rfl dL_isSlot_290
                                · rw [if_pos hc] at hq28
                                  refine r_goto C (tgt := 264) rfl dL_isSlot_254 ?_
                                  cases hq28
                                  refine r_lo [2, 3, 4] (lo' := [(0, .ref (wAd w (7, 11, 6, 0))), (1, .int a1), (2, .int v3)]) rfl ?_
                                  exact kq28 _ rfl
                            · rw [if_neg hc] at hq28
                              refine r_iload C (k := 0) rfl dL_isSlot_229 ?_
                              refine r_iload C (k := 6) rfl dL_isSlot_231 ?_
                              refine r_icmp_ne C (tgt := 289) rfl dL_isSlot_233 (fun hc => ?_) (fun hc => ?_)
                              · rw [if_neg hc] at hq28
                                refine r_iconst C (v := 0) rfl dL_isSlot_289 ?_
                                cases hq28
                                change some _ = some _ at hF
                                cases hF
                                exact r_zreturn C false rfl dL_isSlot_290
                              · rw [if_pos hc] at hq28
                                refine r_goto C (tgt := 264) rfl dL_isSlot_236 ?_
                                cases hq28
                                refine r_lo [2, 3, 4] (lo' := [(0, .ref (wAd w (7, 11, 6, 0))), (1, .int a1), (2, .int v3)]) rfl ?_
                                exact kq28 _ rfl
                      refine r_if_le C (tgt := 184) rfl dL_isSlot_176 (fun hc => ?_) (fun hc => ?_)
                      · rw [if_pos hc] at hq23
                        refine r_iload C (k := 4) rfl dL_isSlot_184 ?_
                        refine r_if_eq C (tgt := 194) rfl dL_isSlot_186 (fun hc => ?_) (fun hc => ?_)
                        · rw [if_neg (b2i_f hc)] at hq23
                          refine r_iconst C (v := 0) rfl dL_isSlot_194 ?_
                          cases hq23
                          refine r_lo [1, 2, 3, 5, 0] (lo' := [(0, .ref (wAd w (7, 11, 6, 0))), (1, .int a1), (2, .int v3), (6, .int v18), (7, .int v22)]) rfl ?_
                          exact kq23 _ rfl
                        · rw [if_pos (b2i_t hc)] at hq23
                          refine r_bipush C (v := 8) rfl dL_isSlot_189 ?_
                          refine r_goto C (tgt := 195) rfl dL_isSlot_191 ?_
                          cases hq23
                          refine r_lo [1, 2, 3, 5, 0] (lo' := [(0, .ref (wAd w (7, 11, 6, 0))), (1, .int a1), (2, .int v3), (6, .int v18), (7, .int v22)]) rfl ?_
                          exact kq23 _ rfl
                      · rw [if_neg hc] at hq23
                        refine r_iload C (k := 0) rfl dL_isSlot_179 ?_
                        refine r_goto C (tgt := 195) rfl dL_isSlot_181 ?_
                        cases hq23
                        refine r_lo [1, 2, 3, 5, 0] (lo' := [(0, .ref (wAd w (7, 11, 6, 0))), (1, .int a1), (2, .int v3), (6, .int v18), (7, .int v22)]) rfl ?_
                        exact kq23 _ rfl
                    refine r_if_eq C (tgt := 154) rfl dL_isSlot_147 (fun hc => ?_) (fun hc => ?_)
                    · rw [if_pos hc] at hq21
                      refine r_iload_n C (k := 3) rfl rfl dL_isSlot_154 ?_
                      refine r_if_eq C (tgt := 162) rfl dL_isSlot_155 (fun hc => ?_) (fun hc => ?_)
                      · rw [if_pos hc] at hq21
                        refine r_iload_n C (k := 4) rfl rfl dL_isSlot_162 ?_
                        refine r_if_ne C (tgt := 171) rfl dL_isSlot_163 (fun hc => ?_) (fun hc => ?_)
                        · rw [if_neg hc] at hq21
                          refine r_iconst C (v := 0) rfl dL_isSlot_171 ?_
                          cases hq21
                          refine r_lo [1, 2, 3, 6, 0] (lo' := [(0, .ref (wAd w (7, 11, 6, 0))), (1, .int a1), (2, .int v3), (5, .int (b2i v9)), (6, .int v18)]) rfl ?_
                          exact kq21 _ rfl
                        · rw [if_pos hc] at hq21
                          refine r_bipush C (v := 6) rfl dL_isSlot_166 ?_
                          refine r_goto C (tgt := 172) rfl dL_isSlot_168 ?_
                          cases hq21
                          refine r_lo [1, 2, 3, 6, 0] (lo' := [(0, .ref (wAd w (7, 11, 6, 0))), (1, .int a1), (2, .int v3), (5, .int (b2i v9)), (6, .int v18)]) rfl ?_
                          exact kq21 _ rfl
                      · rw [if_neg hc] at hq21
                        refine r_iconst C (v := 5) rfl dL_isSlot_158 ?_
                        refine r_goto C (tgt := 172) rfl dL_isSlot_159 ?_
                        cases hq21
                        refine r_lo [1, 2, 3, 6, 0] (lo' := [(0, .ref (wAd w (7, 11, 6, 0))), (1, .int a1), (2, .int v3), (5, .int (b2i v9)), (6, .int v18)]) rfl ?_
                        exact kq21 _ rfl
                    · rw [if_neg hc] at hq21
                      refine r_iconst C (v := 1) rfl dL_isSlot_150 ?_
                      refine r_goto C (tgt := 172) rfl dL_isSlot_151 ?_
                      cases hq21
                      refine r_lo [1, 2, 3, 6, 0] (lo' := [(0, .ref (wAd w (7, 11, 6, 0))), (1, .int a1), (2, .int v3), (5, .int (b2i v9)), (6, .int v18)]) rfl ?_
                      exact kq21 _ rfl
                  refine r_if_eq C (tgt := 110) rfl dL_isSlot_103 (fun hc => ?_) (fun hc => ?_)
                  · rw [if_pos hc] at hq17
                    refine r_iload_n C (k := 2) rfl rfl dL_isSlot_110 ?_
                    refine r_if_ne C (tgt := 118) rfl dL_isSlot_111 (fun hc => ?_) (fun hc => ?_)
                    · rw [if_neg hc] at hq17
                      refine r_aload_n C (k := 0) rfl rfl dL_isSlot_118 ?_
                      refine r_iload_n C (k := 1) rfl rfl dL_isSlot_119 ?_
                      obtain ⟨v19, hv19, hq17⟩ := ob1_e hq17
                      refine r_callV C (d' := 7) [.int a1] (c_X10_isReserved hW hS e a1 (okI_e hv19)) myX10_isReserved wm5_31 ⟨_, _, _, _, (hW.ok k7), rfl, rfl, rfl, rfl⟩ rfl (kR rfl) (by decide) (kR rfl) rfl dL_isSlot_120 ?_
                      refine r_if_eq C (tgt := 130) rfl dL_isSlot_123 (fun hc => ?_) (fun hc => ?_)
                      · rw [if_neg (b2i_f hc)] at hq17
                        refine r_aload_n C (k := 0) rfl rfl dL_isSlot_130 ?_
                        refine r_iload_n C (k := 1) rfl rfl dL_isSlot_131 ?_
                        obtain ⟨v20, hv20, hq17⟩ := ob1_e hq17
                        refine r_callV C (d' := 7) [.int a1] (c_X10_nestDays hW hS e a1 (okI_e hv20)) myX10_nestDays wm5_27 ⟨_, _, _, _, (hW.ok k7), rfl, rfl, rfl, rfl⟩ rfl (kR rfl) (by decide) (kR rfl) rfl dL_isSlot_132 ?_
                        refine r_if_le C (tgt := 142) rfl dL_isSlot_135 (fun hc => ?_) (fun hc => ?_)
                        · rw [if_pos hc] at hq17
                          refine r_iconst C (v := 0) rfl dL_isSlot_142 ?_
                          cases hq17
                          refine r_lo [0, 1, 2, 3, 4, 5] (lo' := [(0, .ref (wAd w (7, 11, 6, 0))), (1, .int a1), (2, .int v3), (3, .int v6), (4, .int v8), (5, .int (b2i v9))]) rfl ?_
                          exact kq17 _ rfl
                        · rw [if_neg hc] at hq17
                          refine r_iconst C (v := 4) rfl dL_isSlot_138 ?_
                          refine r_goto C (tgt := 143) rfl dL_isSlot_139 ?_
                          cases hq17
                          refine r_lo [0, 1, 2, 3, 4, 5] (lo' := [(0, .ref (wAd w (7, 11, 6, 0))), (1, .int a1), (2, .int v3), (3, .int v6), (4, .int v8), (5, .int (b2i v9))]) rfl ?_
                          exact kq17 _ rfl
                      · rw [if_pos (b2i_t hc)] at hq17
                        refine r_iconst C (v := 3) rfl dL_isSlot_126 ?_
                        refine r_goto C (tgt := 143) rfl dL_isSlot_127 ?_
                        cases hq17
                        refine r_lo [0, 1, 2, 3, 4, 5] (lo' := [(0, .ref (wAd w (7, 11, 6, 0))), (1, .int a1), (2, .int v3), (3, .int v6), (4, .int v8), (5, .int (b2i v9))]) rfl ?_
                        exact kq17 _ rfl
                    · rw [if_pos hc] at hq17
                      refine r_iconst C (v := 2) rfl dL_isSlot_114 ?_
                      refine r_goto C (tgt := 143) rfl dL_isSlot_115 ?_
                      cases hq17
                      refine r_lo [0, 1, 2, 3, 4, 5] (lo' := [(0, .ref (wAd w (7, 11, 6, 0))), (1, .int a1), (2, .int v3), (3, .int v6), (4, .int v8), (5, .int (b2i v9))]) rfl ?_
                      exact kq17 _ rfl
                  · rw [if_neg hc] at hq17
                    refine r_iconst C (v := 1) rfl dL_isSlot_106 ?_
                    refine r_goto C (tgt := 143) rfl dL_isSlot_107 ?_
                    cases hq17
                    refine r_lo [0, 1, 2, 3, 4, 5] (lo' := [(0, .ref (wAd w (7, 11, 6, 0))), (1, .int a1), (2, .int v3), (3, .int v6), (4, .int v8), (5, .int (b2i v9))]) rfl ?_
                    exact kq17 _ rfl
                · rw [if_neg hc] at hF
                  refine r_iconst C (v := 0) rfl dL_isSlot_99 ?_
                  cases hF
                  exact r_zreturn C false rfl dL_isSlot_100
            refine r_if_ne C (tgt := 85) rfl dL_isSlot_78 (fun hc => ?_) (fun hc => ?_)
            · rw [if_neg hc] at hq14
              refine r_iconst C (v := 0) rfl dL_isSlot_85 ?_
              cases hq14
              refine r_lo [0, 1, 2, 3, 4, 5] (lo' := [(0, .ref (wAd w (7, 11, 6, 0))), (1, .int a1), (2, .int v3), (3, .int v6), (4, .int v8), (5, .int (b2i v9))]) rfl ?_
              exact kq14 _ rfl
            · rw [if_pos hc] at hq14
              refine r_iconst C (v := 1) rfl dL_isSlot_81 ?_
              refine r_goto C (tgt := 86) rfl dL_isSlot_82 ?_
              cases hq14
              refine r_lo [0, 1, 2, 3, 4, 5] (lo' := [(0, .ref (wAd w (7, 11, 6, 0))), (1, .int a1), (2, .int v3), (3, .int v6), (4, .int v8), (5, .int (b2i v9))]) rfl ?_
              exact kq14 _ rfl
        refine r_icmp_ne C (tgt := 68) rfl dL_isSlot_61 (fun hc => ?_) (fun hc => ?_)
        · rw [if_neg hc] at hq11
          refine r_iconst C (v := 0) rfl dL_isSlot_68 ?_
          cases hq11
          refine r_lo [2, 3, 4, 5, 1, 0] (lo' := [(0, .ref (wAd w (7, 11, 6, 0))), (1, .int a1), (2, .int v3), (3, .int v6), (4, .int v8), (5, .int (b2i v9))]) rfl ?_
          exact kq11 _ rfl
        · rw [if_pos hc] at hq11
          refine r_iconst C (v := 1) rfl dL_isSlot_64 ?_
          refine r_goto C (tgt := 69) rfl dL_isSlot_65 ?_
          cases hq11
          refine r_lo [2, 3, 4, 5, 1, 0] (lo' := [(0, .ref (wAd w (7, 11, 6, 0))), (1, .int a1), (2, .int v3), (3, .int v6), (4, .int v8), (5, .int (b2i v9))]) rfl ?_
          exact kq11 _ rfl
      refine r_if_ne C (tgt := 44) rfl dL_isSlot_37 (fun hc => ?_) (fun hc => ?_)
      · rw [if_neg hc] at hq7
        refine r_iconst C (v := 0) rfl dL_isSlot_44 ?_
        cases hq7
        refine r_lo [1, 2, 3, 0] (lo' := [(0, .ref (wAd w (7, 11, 6, 0))), (1, .int a1), (2, .int v3), (3, .int v6)]) rfl ?_
        exact kq7 _ rfl
      · rw [if_pos hc] at hq7
        refine r_iconst C (v := 1) rfl dL_isSlot_40 ?_
        refine r_goto C (tgt := 45) rfl dL_isSlot_41 ?_
        cases hq7
        refine r_lo [1, 2, 3, 0] (lo' := [(0, .ref (wAd w (7, 11, 6, 0))), (1, .int a1), (2, .int v3), (3, .int v6)]) rfl ?_
        exact kq7 _ rfl
    refine r_icmp_ne C (tgt := 31) rfl dL_isSlot_24 (fun hc => ?_) (fun hc => ?_)
    · rw [if_neg hc] at hq5
      refine r_iconst C (v := 0) rfl dL_isSlot_31 ?_
      cases hq5
      refine r_lo [1, 2, 0] (lo' := [(0, .ref (wAd w (7, 11, 6, 0))), (1, .int a1), (2, .int v3)]) rfl ?_
      exact kq5 _ rfl
    · rw [if_pos hc] at hq5
      refine r_iconst C (v := 1) rfl dL_isSlot_27 ?_
      refine r_goto C (tgt := 32) rfl dL_isSlot_28 ?_
      cases hq5
      refine r_lo [1, 2, 0] (lo' := [(0, .ref (wAd w (7, 11, 6, 0))), (1, .int a1), (2, .int v3)]) rfl ?_
      exact kq5 _ rfl
  refine r_icmp_ne C (tgt := 13) rfl dL_isSlot_6 (fun hc => ?_) (fun hc => ?_)
  · rw [if_neg hc] at hq2
    refine r_iconst C (v := 0) rfl dL_isSlot_13 ?_
    cases hq2
    refine r_lo [0, 1] (lo' := [(0, .ref (wAd w (7, 11, 6, 0))), (1, .int a1)]) rfl ?_
    exact kq2 _ rfl
  · rw [if_pos hc] at hq2
    refine r_iconst C (v := 1) rfl dL_isSlot_9 ?_
    refine r_goto C (tgt := 14) rfl dL_isSlot_10 ?_
    cases hq2
    refine r_lo [0, 1] (lo' := [(0, .ref (wAd w (7, 11, 6, 0))), (1, .int a1)]) rfl ?_
    exact kq2 _ rfl
theorem dL_isGardener_0 : decode cL_isGardener 0 = .ok (.aload_n 0, 1) := by decide +kernel
theorem dL_isGardener_1 : decode cL_isGardener 1 = .ok (.iload_n 1, 1) := by decide +kernel
theorem dL_isGardener_2 : decode cL_isGardener 2 = .ok (.invokevirtual 141, 3) := by decide +kernel
theorem dL_isGardener_5 : decode cL_isGardener 5 = .ok (.istore_n 2, 1) := by decide +kernel
theorem dL_isGardener_6 : decode cL_isGardener 6 = .ok (.aload_n 0, 1) := by decide +kernel
theorem dL_isGardener_7 : decode cL_isGardener 7 = .ok (.iload_n 1, 1) := by decide +kernel
theorem dL_isGardener_8 : decode cL_isGardener 8 = .ok (.invokevirtual 138, 3) := by decide +kernel
theorem dL_isGardener_11 : decode cL_isGardener 11 = .ok (.istore_n 3, 1) := by decide +kernel
theorem dL_isGardener_12 : decode cL_isGardener 12 = .ok (.aload_n 0, 1) := by decide +kernel
theorem dL_isGardener_13 : decode cL_isGardener 13 = .ok (.iload_n 1, 1) := by decide +kernel
theorem dL_isGardener_14 : decode cL_isGardener 14 = .ok (.invokevirtual 194, 3) := by decide +kernel
theorem dL_isGardener_17 : decode cL_isGardener 17 = .ok (.istore 4, 2) := by decide +kernel
theorem dL_isGardener_19 : decode cL_isGardener 19 = .ok (.iload_n 2, 1) := by decide +kernel
theorem dL_isGardener_20 : decode cL_isGardener 20 = .ok (.ifCond .lt 7, 3) := by decide +kernel
theorem dL_isGardener_23 : decode cL_isGardener 23 = .ok (.iconst 1, 1) := by decide +kernel
theorem dL_isGardener_24 : decode cL_isGardener 24 = .ok (.goto 4, 3) := by decide +kernel
theorem dL_isGardener_27 : decode cL_isGardener 27 = .ok (.iconst 0, 1) := by decide +kernel
theorem dL_isGardener_28 : decode cL_isGardener 28 = .ok (.istore 5, 2) := by decide +kernel
theorem dL_isGardener_30 : decode cL_isGardener 30 = .ok (.iconst 0, 1) := by decide +kernel
theorem dL_isGardener_31 : decode cL_isGardener 31 = .ok (.istore 6, 2) := by decide +kernel
theorem dL_isGardener_33 : decode cL_isGardener 33 = .ok (.iload 6, 2) := by decide +kernel
theorem dL_isGardener_35 : decode cL_isGardener 35 = .ok (.iload_n 3, 1) := by decide +kernel
theorem dL_isGardener_36 : decode cL_isGardener 36 = .ok (.if_icmp .ge 45, 3) := by decide +kernel
theorem dL_isGardener_39 : decode cL_isGardener 39 = .ok (.aload_n 0, 1) := by decide +kernel
theorem dL_isGardener_40 : decode cL_isGardener 40 = .ok (.iload_n 2, 1) := by decide +kernel
theorem dL_isGardener_41 : decode cL_isGardener 41 = .ok (.iload 6, 2) := by decide +kernel
theorem dL_isGardener_43 : decode cL_isGardener 43 = .ok (.iadd, 1) := by decide +kernel
theorem dL_isGardener_44 : decode cL_isGardener 44 = .ok (.invokevirtual 115, 3) := by decide +kernel
theorem dL_isGardener_47 : decode cL_isGardener 47 = .ok (.ifCond .lt 26, 3) := by decide +kernel
theorem dL_isGardener_50 : decode cL_isGardener 50 = .ok (.aload_n 0, 1) := by decide +kernel
theorem dL_isGardener_51 : decode cL_isGardener 51 = .ok (.iload_n 2, 1) := by decide +kernel
theorem dL_isGardener_52 : decode cL_isGardener 52 = .ok (.iload 6, 2) := by decide +kernel
theorem dL_isGardener_54 : decode cL_isGardener 54 = .ok (.iadd, 1) := by decide +kernel
theorem dL_isGardener_55 : decode cL_isGardener 55 = .ok (.invokevirtual 120, 3) := by decide +kernel
theorem dL_isGardener_58 : decode cL_isGardener 58 = .ok (.iload_n 1, 1) := by decide +kernel
theorem dL_isGardener_59 : decode cL_isGardener 59 = .ok (.if_icmp .ne 14, 3) := by decide +kernel
theorem dL_isGardener_62 : decode cL_isGardener 62 = .ok (.aload_n 0, 1) := by decide +kernel
theorem dL_isGardener_63 : decode cL_isGardener 63 = .ok (.iload_n 2, 1) := by decide +kernel
theorem dL_isGardener_64 : decode cL_isGardener 64 = .ok (.iload 6, 2) := by decide +kernel
theorem dL_isGardener_66 : decode cL_isGardener 66 = .ok (.iadd, 1) := by decide +kernel
theorem dL_isGardener_67 : decode cL_isGardener 67 = .ok (.invokevirtual 131, 3) := by decide +kernel
theorem dL_isGardener_70 : decode cL_isGardener 70 = .ok (.ifCond .ne 5, 3) := by decide +kernel
theorem dL_isGardener_73 : decode cL_isGardener 73 = .ok (.iconst 0, 1) := by decide +kernel
theorem dL_isGardener_74 : decode cL_isGardener 74 = .ok (.ireturn, 1) := by decide +kernel
theorem dL_isGardener_75 : decode cL_isGardener 75 = .ok (.iinc 6 1, 3) := by decide +kernel
theorem dL_isGardener_78 : decode cL_isGardener 78 = .ok (.goto (-45), 3) := by decide +kernel
theorem dL_isGardener_81 : decode cL_isGardener 81 = .ok (.iload 5, 2) := by decide +kernel
theorem dL_isGardener_83 : decode cL_isGardener 83 = .ok (.ifCond .ne 7, 3) := by decide +kernel
theorem dL_isGardener_86 : decode cL_isGardener 86 = .ok (.iload_n 3, 1) := by decide +kernel
theorem dL_isGardener_87 : decode cL_isGardener 87 = .ok (.ifCond .gt 28, 3) := by decide +kernel
theorem dL_isGardener_90 : decode cL_isGardener 90 = .ok (.iload 5, 2) := by decide +kernel
theorem dL_isGardener_92 : decode cL_isGardener 92 = .ok (.ifCond .eq 25, 3) := by decide +kernel
theorem dL_isGardener_95 : decode cL_isGardener 95 = .ok (.aload_n 0, 1) := by decide +kernel
theorem dL_isGardener_96 : decode cL_isGardener 96 = .ok (.iload_n 2, 1) := by decide +kernel
theorem dL_isGardener_97 : decode cL_isGardener 97 = .ok (.iload_n 3, 1) := by decide +kernel
theorem dL_isGardener_98 : decode cL_isGardener 98 = .ok (.iadd, 1) := by decide +kernel
theorem dL_isGardener_99 : decode cL_isGardener 99 = .ok (.invokevirtual 131, 3) := by decide +kernel
theorem dL_isGardener_102 : decode cL_isGardener 102 = .ok (.ifCond .eq 13, 3) := by decide +kernel
theorem dL_isGardener_105 : decode cL_isGardener 105 = .ok (.aload_n 0, 1) := by decide +kernel
theorem dL_isGardener_106 : decode cL_isGardener 106 = .ok (.iload_n 2, 1) := by decide +kernel
theorem dL_isGardener_107 : decode cL_isGardener 107 = .ok (.iload_n 3, 1) := by decide +kernel
theorem dL_isGardener_108 : decode cL_isGardener 108 = .ok (.iadd, 1) := by decide +kernel
theorem dL_isGardener_109 : decode cL_isGardener 109 = .ok (.invokevirtual 115, 3) := by decide +kernel
theorem dL_isGardener_112 : decode cL_isGardener 112 = .ok (.ifCond .lt 5, 3) := by decide +kernel
theorem dL_isGardener_115 : decode cL_isGardener 115 = .ok (.iconst 0, 1) := by decide +kernel
theorem dL_isGardener_116 : decode cL_isGardener 116 = .ok (.ireturn, 1) := by decide +kernel
theorem dL_isGardener_117 : decode cL_isGardener 117 = .ok (.iconst 0, 1) := by decide +kernel
theorem dL_isGardener_118 : decode cL_isGardener 118 = .ok (.istore 6, 2) := by decide +kernel
theorem dL_isGardener_120 : decode cL_isGardener 120 = .ok (.aload_n 0, 1) := by decide +kernel
theorem dL_isGardener_121 : decode cL_isGardener 121 = .ok (.iload_n 1, 1) := by decide +kernel
theorem dL_isGardener_122 : decode cL_isGardener 122 = .ok (.iconst 0, 1) := by decide +kernel
theorem dL_isGardener_123 : decode cL_isGardener 123 = .ok (.iload 6, 2) := by decide +kernel
theorem dL_isGardener_125 : decode cL_isGardener 125 = .ok (.invokevirtual 159, 3) := by decide +kernel
theorem dL_isGardener_128 : decode cL_isGardener 128 = .ok (.ifCond .lt 9, 3) := by decide +kernel
theorem dL_isGardener_131 : decode cL_isGardener 131 = .ok (.iinc 6 1, 3) := by decide +kernel
theorem dL_isGardener_134 : decode cL_isGardener 134 = .ok (.goto (-14), 3) := by decide +kernel
theorem dL_isGardener_137 : decode cL_isGardener 137 = .ok (.aload_n 0, 1) := by decide +kernel
theorem dL_isGardener_138 : decode cL_isGardener 138 = .ok (.iload_n 1, 1) := by decide +kernel
theorem dL_isGardener_139 : decode cL_isGardener 139 = .ok (.invokevirtual 135, 3) := by decide +kernel
theorem dL_isGardener_142 : decode cL_isGardener 142 = .ok (.ifCond .ne 7, 3) := by decide +kernel
theorem dL_isGardener_145 : decode cL_isGardener 145 = .ok (.iconst 1, 1) := by decide +kernel
theorem dL_isGardener_146 : decode cL_isGardener 146 = .ok (.goto 4, 3) := by decide +kernel
theorem dL_isGardener_149 : decode cL_isGardener 149 = .ok (.iconst 0, 1) := by decide +kernel
theorem dL_isGardener_150 : decode cL_isGardener 150 = .ok (.iload 6, 2) := by decide +kernel
theorem dL_isGardener_152 : decode cL_isGardener 152 = .ok (.ifCond .ne 7, 3) := by decide +kernel
theorem dL_isGardener_155 : decode cL_isGardener 155 = .ok (.iconst 1, 1) := by decide +kernel
theorem dL_isGardener_156 : decode cL_isGardener 156 = .ok (.goto 4, 3) := by decide +kernel
theorem dL_isGardener_159 : decode cL_isGardener 159 = .ok (.iconst 0, 1) := by decide +kernel
theorem dL_isGardener_160 : decode cL_isGardener 160 = .ok (.if_icmp .ne 13, 3) := by decide +kernel
theorem dL_isGardener_163 : decode cL_isGardener 163 = .ok (.iload 4, 2) := by decide +kernel
theorem dL_isGardener_165 : decode cL_isGardener 165 = .ok (.ifCond .lt 10, 3) := by decide +kernel
theorem dL_isGardener_168 : decode cL_isGardener 168 = .ok (.iload 6, 2) := by decide +kernel
theorem dL_isGardener_170 : decode cL_isGardener 170 = .ok (.ifCond .ne 5, 3) := by decide +kernel
theorem dL_isGardener_173 : decode cL_isGardener 173 = .ok (.iconst 0, 1) := by decide +kernel
theorem dL_isGardener_174 : decode cL_isGardener 174 = .ok (.ireturn, 1) := by decide +kernel
theorem dL_isGardener_175 : decode cL_isGardener 175 = .ok (.iconst 0, 1) := by decide +kernel
theorem dL_isGardener_176 : decode cL_isGardener 176 = .ok (.istore 7, 2) := by decide +kernel
theorem dL_isGardener_178 : decode cL_isGardener 178 = .ok (.iload 7, 2) := by decide +kernel
theorem dL_isGardener_180 : decode cL_isGardener 180 = .ok (.iload 6, 2) := by decide +kernel
theorem dL_isGardener_182 : decode cL_isGardener 182 = .ok (.if_icmp .ge 52, 3) := by decide +kernel
theorem dL_isGardener_185 : decode cL_isGardener 185 = .ok (.iload 4, 2) := by decide +kernel
theorem dL_isGardener_187 : decode cL_isGardener 187 = .ok (.ifCond .lt 47, 3) := by decide +kernel
theorem dL_isGardener_190 : decode cL_isGardener 190 = .ok (.aload_n 0, 1) := by decide +kernel
theorem dL_isGardener_191 : decode cL_isGardener 191 = .ok (.iload 4, 2) := by decide +kernel
theorem dL_isGardener_193 : decode cL_isGardener 193 = .ok (.iload 7, 2) := by decide +kernel
theorem dL_isGardener_195 : decode cL_isGardener 195 = .ok (.iadd, 1) := by decide +kernel
theorem dL_isGardener_196 : decode cL_isGardener 196 = .ok (.invokevirtual 115, 3) := by decide +kernel
theorem dL_isGardener_199 : decode cL_isGardener 199 = .ok (.ifCond .ge 27, 3) := by decide +kernel
theorem dL_isGardener_202 : decode cL_isGardener 202 = .ok (.aload_n 0, 1) := by decide +kernel
theorem dL_isGardener_203 : decode cL_isGardener 203 = .ok (.iload 4, 2) := by decide +kernel
theorem dL_isGardener_205 : decode cL_isGardener 205 = .ok (.iload 7, 2) := by decide +kernel
theorem dL_isGardener_207 : decode cL_isGardener 207 = .ok (.iadd, 1) := by decide +kernel
theorem dL_isGardener_208 : decode cL_isGardener 208 = .ok (.invokevirtual 131, 3) := by decide +kernel
theorem dL_isGardener_211 : decode cL_isGardener 211 = .ok (.ifCond .ne 15, 3) := by decide +kernel
theorem dL_isGardener_214 : decode cL_isGardener 214 = .ok (.aload_n 0, 1) := by decide +kernel
theorem dL_isGardener_215 : decode cL_isGardener 215 = .ok (.iload 4, 2) := by decide +kernel
theorem dL_isGardener_217 : decode cL_isGardener 217 = .ok (.iload 7, 2) := by decide +kernel
theorem dL_isGardener_219 : decode cL_isGardener 219 = .ok (.iadd, 1) := by decide +kernel
theorem dL_isGardener_220 : decode cL_isGardener 220 = .ok (.invokevirtual 128, 3) := by decide +kernel
theorem dL_isGardener_223 : decode cL_isGardener 223 = .ok (.ifCond .le 5, 3) := by decide +kernel
theorem dL_isGardener_226 : decode cL_isGardener 226 = .ok (.iconst 0, 1) := by decide +kernel
theorem dL_isGardener_227 : decode cL_isGardener 227 = .ok (.ireturn, 1) := by decide +kernel
theorem dL_isGardener_228 : decode cL_isGardener 228 = .ok (.iinc 7 1, 3) := by decide +kernel
theorem dL_isGardener_231 : decode cL_isGardener 231 = .ok (.goto (-53), 3) := by decide +kernel
theorem dL_isGardener_234 : decode cL_isGardener 234 = .ok (.iload 4, 2) := by decide +kernel
theorem dL_isGardener_236 : decode cL_isGardener 236 = .ok (.ifCond .le 27, 3) := by decide +kernel
theorem dL_isGardener_239 : decode cL_isGardener 239 = .ok (.aload_n 0, 1) := by decide +kernel
theorem dL_isGardener_240 : decode cL_isGardener 240 = .ok (.iload 4, 2) := by decide +kernel
theorem dL_isGardener_242 : decode cL_isGardener 242 = .ok (.iconst 1, 1) := by decide +kernel
theorem dL_isGardener_243 : decode cL_isGardener 243 = .ok (.isub, 1) := by decide +kernel
theorem dL_isGardener_244 : decode cL_isGardener 244 = .ok (.invokevirtual 115, 3) := by decide +kernel
theorem dL_isGardener_247 : decode cL_isGardener 247 = .ok (.ifCond .ge 14, 3) := by decide +kernel
theorem dL_isGardener_250 : decode cL_isGardener 250 = .ok (.aload_n 0, 1) := by decide +kernel
theorem dL_isGardener_251 : decode cL_isGardener 251 = .ok (.iload 4, 2) := by decide +kernel
theorem dL_isGardener_253 : decode cL_isGardener 253 = .ok (.iconst 1, 1) := by decide +kernel
theorem dL_isGardener_254 : decode cL_isGardener 254 = .ok (.isub, 1) := by decide +kernel
theorem dL_isGardener_255 : decode cL_isGardener 255 = .ok (.invokevirtual 131, 3) := by decide +kernel
theorem dL_isGardener_258 : decode cL_isGardener 258 = .ok (.ifCond .eq 5, 3) := by decide +kernel
theorem dL_isGardener_261 : decode cL_isGardener 261 = .ok (.iconst 0, 1) := by decide +kernel
theorem dL_isGardener_262 : decode cL_isGardener 262 = .ok (.ireturn, 1) := by decide +kernel
theorem dL_isGardener_263 : decode cL_isGardener 263 = .ok (.aload_n 0, 1) := by decide +kernel
theorem dL_isGardener_264 : decode cL_isGardener 264 = .ok (.invokevirtual 169, 3) := by decide +kernel
theorem dL_isGardener_267 : decode cL_isGardener 267 = .ok (.iload_n 1, 1) := by decide +kernel
theorem dL_isGardener_268 : decode cL_isGardener 268 = .ok (.if_icmp .eq 8, 3) := by decide +kernel
theorem dL_isGardener_271 : decode cL_isGardener 271 = .ok (.bipush 13, 2) := by decide +kernel
theorem dL_isGardener_273 : decode cL_isGardener 273 = .ok (.goto 44, 3) := by decide +kernel
theorem dL_isGardener_276 : decode cL_isGardener 276 = .ok (.aload_n 0, 1) := by decide +kernel
theorem dL_isGardener_277 : decode cL_isGardener 277 = .ok (.invokevirtual 91, 3) := by decide +kernel
theorem dL_isGardener_280 : decode cL_isGardener 280 = .ok (.ifCond .ne 7, 3) := by decide +kernel
theorem dL_isGardener_283 : decode cL_isGardener 283 = .ok (.iconst 1, 1) := by decide +kernel
theorem dL_isGardener_284 : decode cL_isGardener 284 = .ok (.goto 33, 3) := by decide +kernel
theorem dL_isGardener_287 : decode cL_isGardener 287 = .ok (.iload 5, 2) := by decide +kernel
theorem dL_isGardener_289 : decode cL_isGardener 289 = .ok (.ifCond .eq 7, 3) := by decide +kernel
theorem dL_isGardener_292 : decode cL_isGardener 292 = .ok (.iconst 0, 1) := by decide +kernel
theorem dL_isGardener_293 : decode cL_isGardener 293 = .ok (.goto 24, 3) := by decide +kernel
theorem dL_isGardener_296 : decode cL_isGardener 296 = .ok (.iload 6, 2) := by decide +kernel
theorem dL_isGardener_298 : decode cL_isGardener 298 = .ok (.ifCond .ne 8, 3) := by decide +kernel
theorem dL_isGardener_301 : decode cL_isGardener 301 = .ok (.bipush 11, 2) := by decide +kernel
theorem dL_isGardener_303 : decode cL_isGardener 303 = .ok (.goto 14, 3) := by decide +kernel
theorem dL_isGardener_306 : decode cL_isGardener 306 = .ok (.iload 4, 2) := by decide +kernel
theorem dL_isGardener_308 : decode cL_isGardener 308 = .ok (.ifCond .ge 8, 3) := by decide +kernel
theorem dL_isGardener_311 : decode cL_isGardener 311 = .ok (.bipush 12, 2) := by decide +kernel
theorem dL_isGardener_313 : decode cL_isGardener 313 = .ok (.goto 4, 3) := by decide +kernel
theorem dL_isGardener_316 : decode cL_isGardener 316 = .ok (.iconst 0, 1) := by decide +kernel
theorem dL_isGardener_317 : decode cL_isGardener 317 = .ok (.istore 7, 2) := by decide +kernel
theorem dL_isGardener_319 : decode cL_isGardener 319 = .ok (.aload_n 0, 1) := by decide +kernel
theorem dL_isGardener_320 : decode cL_isGardener 320 = .ok (.iload_n 1, 1) := by decide +kernel
theorem dL_isGardener_321 : decode cL_isGardener 321 = .ok (.invokevirtual 147, 3) := by decide +kernel
theorem dL_isGardener_324 : decode cL_isGardener 324 = .ok (.aload_n 0, 1) := by decide +kernel
theorem dL_isGardener_325 : decode cL_isGardener 325 = .ok (.iload_n 1, 1) := by decide +kernel
theorem dL_isGardener_326 : decode cL_isGardener 326 = .ok (.invokevirtual 150, 3) := by decide +kernel
theorem dL_isGardener_329 : decode cL_isGardener 329 = .ok (.isub, 1) := by decide +kernel
theorem dL_isGardener_330 : decode cL_isGardener 330 = .ok (.aload_n 0, 1) := by decide +kernel
theorem dL_isGardener_331 : decode cL_isGardener 331 = .ok (.iload_n 1, 1) := by decide +kernel
theorem dL_isGardener_332 : decode cL_isGardener 332 = .ok (.invokevirtual 156, 3) := by decide +kernel
theorem dL_isGardener_335 : decode cL_isGardener 335 = .ok (.isub, 1) := by decide +kernel
theorem dL_isGardener_336 : decode cL_isGardener 336 = .ok (.aload_n 0, 1) := by decide +kernel
theorem dL_isGardener_337 : decode cL_isGardener 337 = .ok (.iload_n 1, 1) := by decide +kernel
theorem dL_isGardener_338 : decode cL_isGardener 338 = .ok (.invokevirtual 135, 3) := by decide +kernel
theorem dL_isGardener_341 : decode cL_isGardener 341 = .ok (.isub, 1) := by decide +kernel
theorem dL_isGardener_342 : decode cL_isGardener 342 = .ok (.aload_n 0, 1) := by decide +kernel
theorem dL_isGardener_343 : decode cL_isGardener 343 = .ok (.iload_n 1, 1) := by decide +kernel
theorem dL_isGardener_344 : decode cL_isGardener 344 = .ok (.invokevirtual 144, 3) := by decide +kernel
theorem dL_isGardener_347 : decode cL_isGardener 347 = .ok (.isub, 1) := by decide +kernel
theorem dL_isGardener_348 : decode cL_isGardener 348 = .ok (.istore 8, 2) := by decide +kernel
theorem dL_isGardener_350 : decode cL_isGardener 350 = .ok (.aload_n 0, 1) := by decide +kernel
theorem dL_isGardener_351 : decode cL_isGardener 351 = .ok (.iload_n 1, 1) := by decide +kernel
theorem dL_isGardener_352 : decode cL_isGardener 352 = .ok (.invokevirtual 197, 3) := by decide +kernel
theorem dL_isGardener_355 : decode cL_isGardener 355 = .ok (.iload 7, 2) := by decide +kernel
theorem dL_isGardener_357 : decode cL_isGardener 357 = .ok (.if_icmp .ne 37, 3) := by decide +kernel
theorem dL_isGardener_360 : decode cL_isGardener 360 = .ok (.iload 8, 2) := by decide +kernel
theorem dL_isGardener_362 : decode cL_isGardener 362 = .ok (.iload 5, 2) := by decide +kernel
theorem dL_isGardener_364 : decode cL_isGardener 364 = .ok (.ifCond .eq 7, 3) := by decide +kernel
theorem dL_isGardener_367 : decode cL_isGardener 367 = .ok (.iconst 1, 1) := by decide +kernel
theorem dL_isGardener_368 : decode cL_isGardener 368 = .ok (.goto 4, 3) := by decide +kernel
theorem dL_isGardener_371 : decode cL_isGardener 371 = .ok (.iconst 0, 1) := by decide +kernel
theorem dL_isGardener_372 : decode cL_isGardener 372 = .ok (.if_icmp .ne 22, 3) := by decide +kernel
theorem dL_isGardener_375 : decode cL_isGardener 375 = .ok (.aload_n 0, 1) := by decide +kernel
theorem dL_isGardener_376 : decode cL_isGardener 376 = .ok (.iload_n 1, 1) := by decide +kernel
theorem dL_isGardener_377 : decode cL_isGardener 377 = .ok (.aload_n 0, 1) := by decide +kernel
theorem dL_isGardener_378 : decode cL_isGardener 378 = .ok (.iload_n 1, 1) := by decide +kernel
theorem dL_isGardener_379 : decode cL_isGardener 379 = .ok (.invokevirtual 135, 3) := by decide +kernel
theorem dL_isGardener_382 : decode cL_isGardener 382 = .ok (.iconst 0, 1) := by decide +kernel
theorem dL_isGardener_383 : decode cL_isGardener 383 = .ok (.invokevirtual 159, 3) := by decide +kernel
theorem dL_isGardener_386 : decode cL_isGardener 386 = .ok (.iconst (-1), 1) := by decide +kernel
theorem dL_isGardener_387 : decode cL_isGardener 387 = .ok (.if_icmp .ne 7, 3) := by decide +kernel
theorem dL_isGardener_390 : decode cL_isGardener 390 = .ok (.iconst 1, 1) := by decide +kernel
theorem dL_isGardener_391 : decode cL_isGardener 391 = .ok (.goto 4, 3) := by decide +kernel
theorem dL_isGardener_394 : decode cL_isGardener 394 = .ok (.iconst 0, 1) := by decide +kernel
theorem dL_isGardener_395 : decode cL_isGardener 395 = .ok (.ireturn, 1) := by decide +kernel
def st_L_isGardener_33 (N : Nat) (l1 : Int32) (l2 : Int32) (l3 : Int32) (l4 : Int32) (l5 : Int32) (l6 : Int32) (S : Nat → Nat → HV) : Option ((Int32) ⊕ ((Unit) ⊕ Bool)) := (if l3 ≤ l6 then some (.inr (.inl ())) else (ob1 (okI (F_X10_letterAt (l2 + l6) S)) fun v6 => (if v6 < 0 then some (.inr (.inr false)) else (ob1 (okI (F_X10_ownerAt (l2 + l6) S)) fun v7 => (if v7 = l1 then (ob1 (okI (F_X10_isReserved (l2 + l6) S)) fun v8 => (if v8 = true then some (.inl (l6 + 1)) else some (.inr (.inr false)))) else some (.inr (.inr false)))))))
def st_L_isGardener_120 (N : Nat) (l1 : Int32) (l4 : Int32) (l5 : Int32) (l6 : Int32) (S : Nat → Nat → HV) : Option ((Int32) ⊕ ((Int32) ⊕ Bool)) := (ob1 (okI (F_X10_pendingLetter l1 0 l6 S)) fun v14 => (if v14 < 0 then some (.inr (.inl l6)) else some (.inl (l6 + 1))))
def st_L_isGardener_178 (N : Nat) (l1 : Int32) (l4 : Int32) (l5 : Int32) (l6 : Int32) (l7 : Int32) (S : Nat → Nat → HV) : Option ((Int32) ⊕ ((Unit) ⊕ Bool)) := (if l6 ≤ l7 then some (.inr (.inl ())) else (if l4 < 0 then some (.inr (.inl ())) else (ob1 (okI (F_X10_letterAt (l4 + l7) S)) fun v23 => (if 0 ≤ v23 then some (.inr (.inr false)) else (ob1 (okI (F_X10_isReserved (l4 + l7) S)) fun v24 => (if v24 = true then some (.inr (.inr false)) else (ob1 (okI (F_X10_nestDays (l4 + l7) S)) fun v25 => (if v25 ≤ 0 then some (.inl (l7 + 1)) else some (.inr (.inr false))))))))))
def F_L_isGardener (N : Nat) (a1 : Int32) (S : Nat → Nat → HV) : Option Bool := (ob1 (okI (F_X10_startSlot a1 S)) fun v1 => (ob1 (okI (F_X10_lettersWritten a1 S)) fun v2 => (ob1 (okI (F_X10_nextStartSlot N a1 S)) fun v3 => (ob1 ((if v1 < 0 then some 0 else some 1) : Option Int32) fun v5 => (om (lpN N (fun z => st_L_isGardener_33 N a1 v1 v2 v3 v5 z S) 0) (fun r => some r) (fun _ => (om (if v5 = 0 then (if 0 < v2 then some (.inr false) else some (.inl ())) else some (.inl ())) (fun r => some r) (fun _ => (om (if v5 = 0 then some (.inl ()) else (ob1 (okI (F_X10_isReserved (v1 + v2) S)) fun v12 => (if v12 = true then (ob1 (okI (F_X10_letterAt (v1 + v2) S)) fun v13 => (if v13 < 0 then some (.inl ()) else some (.inr false))) else some (.inr false)))) (fun r => some r) (fun _ => (om (lpN N (fun z => st_L_isGardener_120 N a1 v3 v5 z S) 0) (fun r => some r) (fun x16 => (ob1 (okI (F_X10_pendingCount a1 S)) fun v17 => (ob1 ((if v17 = 0 then some 1 else some 0) : Option Int32) fun v19 => (ob1 ((if x16 = 0 then some 1 else some 0) : Option Int32) fun v21 => (if v19 = v21 then (om (if v3 < 0 then some (.inl ()) else (if x16 = 0 then some (.inr false) else some (.inl ()))) (fun r => some r) (fun _ => (om (lpN N (fun z => st_L_isGardener_178 N a1 v3 v5 x16 z S) 0) (fun r => some r) (fun _ => (om (if v3 ≤ 0 then some (.inl ()) else (ob1 (okI (F_X10_letterAt (v3 - 1) S)) fun v28 => (if 0 ≤ v28 then some (.inr false) else (ob1 (okI (F_X10_isReserved (v3 - 1) S)) fun v29 => (if v29 = true then some (.inr false) else some (.inl ())))))) (fun r => some r) (fun _ => (ob1 ((if (F_X10_activeGardener S) = a1 then (if (F_X10_actionsLeft S) = 0 then some 1 else (if v5 = 0 then (if x16 = 0 then some 11 else (if 0 ≤ v3 then some 0 else some 12)) else some 0)) else some 13) : Option Int32) fun v31 => (ob1 (okI (F_X10_messagesQueued a1 S)) fun v32 => (ob1 (okI (F_X10_messagesDelivered a1 S)) fun v33 => (ob1 (okI (F_X10_messagesDropped a1 S)) fun v34 => (ob1 (okI (F_X10_pendingCount a1 S)) fun v35 => (ob1 (okI (F_X10_postedCount N a1 S)) fun v36 => (ob1 (okI (F_X10_writeReason N a1 S)) fun v37 => (if v37 = v31 then (ob1 ((if v5 = 0 then some 0 else some 1) : Option Int32) fun v39 => (if ((((v32 - v33) - v34) - v35) - v36) = v39 then (ob1 (okI (F_X10_pendingCount a1 S)) fun v40 => (ob1 (okI (F_X10_pendingLetter a1 v40 0 S)) fun v41 => (if v41 = (-1) then some true else some false))) else some false)) else some false)))))))))))))) else some false))))))))))))))))
theorem lq_L_isGardener_33 {w : WP} (hW : gW w) (hS : gS w) {Ω : OM} {S : Nat → Nat → HV} (e : Ω.1 = S) (l1 : Int32) (l2 : Int32) (l3 : Int32) (l4 : Int32) (l5 : Int32) {N : Nat} {X : CX} (C : gC w X cL_isGardener "HedgeMessagesLaw" (some .boolean) 8 9) {q : (Unit) ⊕ Bool} {u : Option Value × CT} : ∀ (n : Nat) (l6 : Int32), lpN n (fun z : Int32 => st_L_isGardener_33 N l1 l2 l3 l4 l5 z S) l6 = some q → (∀ a : Unit, q = .inl a → gU w X (qR w X u) (cA w Ω) 81 [(0, .ref (wAd w (7, 11, 6, 0))), (1, .int l1), (2, .int l2), (3, .int l3), (4, .int l4), (5, .int l5)] []) → (∀ r, q = .inr r → qR w X u = qR w X ((some (.int (b2i r))), cA w Ω)) → gU w X (qR w X u) (cA w Ω) 33 [(0, .ref (wAd w (7, 11, 6, 0))), (1, .int l1), (2, .int l2), (3, .int l3), (4, .int l4), (5, .int l5), (6, .int l6)] [] := by
  intro n
  induction n with
  | zero => intro l6 hL; exact lpN_0 hL
  | succ n ih =>
    intro l6 hL kJ kR9
    replace ih := fun l6 hL => ih l6 hL kJ kR9
    obtain ⟨q9, hF, hL⟩ := lpN_e hL
    change st_L_isGardener_33 N l1 l2 l3 l4 l5 l6 S = some q9 at hF
    unfold st_L_isGardener_33 at hF
    refine r_iload C (k := 6) rfl dL_isGardener_33 ?_
    refine r_iload_n C (k := 3) rfl rfl dL_isGardener_35 ?_
    refine r_icmp_ge C (tgt := 81) rfl dL_isGardener_36 (fun hc => ?_) (fun hc => ?_)
    · rw [if_pos hc] at hF
      cases hF
      change some _ = some _ at hL
      cases hL
      refine r_lo [0, 1, 2, 3, 4, 5] (lo' := [(0, .ref (wAd w (7, 11, 6, 0))), (1, .int l1), (2, .int l2), (3, .int l3), (4, .int l4), (5, .int l5)]) rfl ?_
      exact kJ _ rfl
    · rw [if_neg hc] at hF
      refine r_aload_n C (k := 0) rfl rfl dL_isGardener_39 ?_
      refine r_iload_n C (k := 2) rfl rfl dL_isGardener_40 ?_
      refine r_iload C (k := 6) rfl dL_isGardener_41 ?_
      refine r_iadd C dL_isGardener_43 ?_
      obtain ⟨v6, hv6, hF⟩ := ob1_e hF
      refine r_callV C (d' := 7) [.int (l2 + l6)] (c_X10_letterAt hW hS e (l2 + l6) (okI_e hv6)) myX10_letterAt wm5_12 ⟨_, _, _, _, (hW.ok k7), rfl, rfl, rfl, rfl⟩ rfl (kR rfl) (by decide) (kR rfl) rfl dL_isGardener_44 ?_
      refine r_if_lt C (tgt := 73) rfl dL_isGardener_47 (fun hc => ?_) (fun hc => ?_)
      · rw [if_pos hc] at hF
        refine r_iconst C (v := 0) rfl dL_isGardener_73 ?_
        cases hF
        change some _ = some _ at hL
        cases hL
        rw [kR9 _ rfl]
        exact r_zreturn C false rfl dL_isGardener_74
      · rw [if_neg hc] at hF
        refine r_aload_n C (k := 0) rfl rfl dL_isGardener_50 ?_
        refine r_iload_n C (k := 2) rfl rfl dL_isGardener_51 ?_
        refine r_iload C (k := 6) rfl dL_isGardener_52 ?_
        refine r_iadd C dL_isGardener_54 ?_
        obtain ⟨v7, hv7, hF⟩ := ob1_e hF
        refine r_callV C (d' := 7) [.int (l2 + l6)] (c_X10_ownerAt hW hS e (l2 + l6) (okI_e hv7)) myX10_ownerAt wm5_18 ⟨_, _, _, _, (hW.ok k7), rfl, rfl, rfl, rfl⟩ rfl (kR rfl) (by decide) (kR rfl) rfl dL_isGardener_55 ?_
        refine r_iload_n C (k := 1) rfl rfl dL_isGardener_58 ?_
        refine r_icmp_ne C (tgt := 73) rfl dL_isGardener_59 (fun hc => ?_) (fun hc => ?_)
        · rw [if_neg hc] at hF
          refine r_iconst C (v := 0) rfl dL_isGardener_73 ?_
          cases hF
          change some _ = some _ at hL
          cases hL
          rw [kR9 _ rfl]
          exact r_zreturn C false rfl dL_isGardener_74
        · rw [if_pos hc] at hF
          refine r_aload_n C (k := 0) rfl rfl dL_isGardener_62 ?_
          refine r_iload_n C (k := 2) rfl rfl dL_isGardener_63 ?_
          refine r_iload C (k := 6) rfl dL_isGardener_64 ?_
          refine r_iadd C dL_isGardener_66 ?_
          obtain ⟨v8, hv8, hF⟩ := ob1_e hF
          refine r_callV C (d' := 7) [.int (l2 + l6)] (c_X10_isReserved hW hS e (l2 + l6) (okI_e hv8)) myX10_isReserved wm5_31 ⟨_, _, _, _, (hW.ok k7), rfl, rfl, rfl, rfl⟩ rfl (kR rfl) (by decide) (kR rfl) rfl dL_isGardener_67 ?_
          refine r_if_ne C (tgt := 75) rfl dL_isGardener_70 (fun hc => ?_) (fun hc => ?_)
          · rw [if_pos (b2i_t hc)] at hF
            refine r_iinc C (k := 6) (v := (l6 + 1)) (lo' := [(6, .int (l6 + 1)), (0, .ref (wAd w (7, 11, 6, 0))), (1, .int l1), (2, .int l2), (3, .int l3), (4, .int l4), (5, .int l5)]) rfl rfl (by decide) rfl dL_isGardener_75 ?_
            refine r_goto C (tgt := 33) rfl dL_isGardener_78 ?_
            cases hF
            change lpN n _ _ = some _ at hL
            refine r_lo [1, 2, 3, 4, 5, 6, 0] (lo' := [(0, .ref (wAd w (7, 11, 6, 0))), (1, .int l1), (2, .int l2), (3, .int l3), (4, .int l4), (5, .int l5), (6, .int (l6 + 1))]) rfl ?_
            exact ih (l6 + 1) hL
          · rw [if_neg (b2i_f hc)] at hF
            refine r_iconst C (v := 0) rfl dL_isGardener_73 ?_
            cases hF
            change some _ = some _ at hL
            cases hL
            rw [kR9 _ rfl]
            exact r_zreturn C false rfl dL_isGardener_74
theorem lq_L_isGardener_120 {w : WP} (hW : gW w) (hS : gS w) {Ω : OM} {S : Nat → Nat → HV} (e : Ω.1 = S) (l1 : Int32) (l4 : Int32) (l5 : Int32) {N : Nat} {X : CX} (C : gC w X cL_isGardener "HedgeMessagesLaw" (some .boolean) 8 9) {q : (Int32) ⊕ Bool} {u : Option Value × CT} : ∀ (n : Nat) (l6 : Int32), lpN n (fun z : Int32 => st_L_isGardener_120 N l1 l4 l5 z S) l6 = some q → (∀ a : Int32, q = .inl a → gU w X (qR w X u) (cA w Ω) 137 [(0, .ref (wAd w (7, 11, 6, 0))), (1, .int l1), (4, .int l4), (5, .int l5), (6, .int a)] []) → (∀ r, q = .inr r → qR w X u = qR w X ((some (.int (b2i r))), cA w Ω)) → gU w X (qR w X u) (cA w Ω) 120 [(0, .ref (wAd w (7, 11, 6, 0))), (1, .int l1), (4, .int l4), (5, .int l5), (6, .int l6)] [] := by
  intro n
  induction n with
  | zero => intro l6 hL; exact lpN_0 hL
  | succ n ih =>
    intro l6 hL kJ kR9
    replace ih := fun l6 hL => ih l6 hL kJ kR9
    obtain ⟨q9, hF, hL⟩ := lpN_e hL
    change st_L_isGardener_120 N l1 l4 l5 l6 S = some q9 at hF
    unfold st_L_isGardener_120 at hF
    refine r_aload_n C (k := 0) rfl rfl dL_isGardener_120 ?_
    refine r_iload_n C (k := 1) rfl rfl dL_isGardener_121 ?_
    refine r_iconst C (v := 0) rfl dL_isGardener_122 ?_
    refine r_iload C (k := 4) rfl dL_isGardener_123 ?_
    obtain ⟨v14, hv14, hF⟩ := ob1_e hF
    refine r_callV C (d' := 7) [.int l1, .int 0, .int l6] (c_X10_pendingLetter hW hS e l1 0 l6 (okI_e hv14)) myX10_pendingLetter wm5_73 ⟨_, _, _, _, (hW.ok k7), rfl, rfl, rfl, rfl⟩ rfl (kR rfl) (by decide) (kR rfl) rfl dL_isGardener_125 ?_
    refine r_if_lt C (tgt := 137) rfl dL_isGardener_128 (fun hc => ?_) (fun hc => ?_)
    · rw [if_pos hc] at hF
      cases hF
      change some _ = some _ at hL
      cases hL
      refine r_lo [0, 1, 2, 3, 4] (lo' := [(0, .ref (wAd w (7, 11, 6, 0))), (1, .int l1), (4, .int l4), (5, .int l5), (6, .int l6)]) rfl ?_
      exact kJ _ rfl
    · rw [if_neg hc] at hF
      refine r_iinc C (k := 4) (v := (l6 + 1)) (lo' := [(6, .int (l6 + 1)), (0, .ref (wAd w (7, 11, 6, 0))), (1, .int l1), (4, .int l4), (5, .int l5)]) rfl rfl (by decide) rfl dL_isGardener_131 ?_
      refine r_goto C (tgt := 120) rfl dL_isGardener_134 ?_
      cases hF
      change lpN n _ _ = some _ at hL
      refine r_lo [1, 2, 3, 4, 0] (lo' := [(0, .ref (wAd w (7, 11, 6, 0))), (1, .int l1), (4, .int l4), (5, .int l5), (6, .int (l6 + 1))]) rfl ?_
      exact ih (l6 + 1) hL
theorem lq_L_isGardener_178 {w : WP} (hW : gW w) (hS : gS w) {Ω : OM} {S : Nat → Nat → HV} (e : Ω.1 = S) (l1 : Int32) (l4 : Int32) (l5 : Int32) (l6 : Int32) {N : Nat} {X : CX} (C : gC w X cL_isGardener "HedgeMessagesLaw" (some .boolean) 8 9) {q : (Unit) ⊕ Bool} {u : Option Value × CT} : ∀ (n : Nat) (l7 : Int32), lpN n (fun z : Int32 => st_L_isGardener_178 N l1 l4 l5 l6 z S) l7 = some q → (∀ a : Unit, q = .inl a → gU w X (qR w X u) (cA w Ω) 234 [(0, .ref (wAd w (7, 11, 6, 0))), (1, .int l1), (4, .int l4), (5, .int l5), (6, .int l6)] []) → (∀ r, q = .inr r → qR w X u = qR w X ((some (.int (b2i r))), cA w Ω)) → gU w X (qR w X u) (cA w Ω) 178 [(0, .ref (wAd w (7, 11, 6, 0))), (1, .int l1), (4, .int l4), (5, .int l5), (6, .int l6), (7, .int l7)] [] := by
  intro n
  induction n with
  | zero => intro l7 hL; exact lpN_0 hL
  | succ n ih =>
    intro l7 hL kJ kR9
    replace ih := fun l7 hL => ih l7 hL kJ kR9
    obtain ⟨q9, hF, hL⟩ := lpN_e hL
    change st_L_isGardener_178 N l1 l4 l5 l6 l7 S = some q9 at hF
    unfold st_L_isGardener_178 at hF
    refine r_iload C (k := 5) rfl dL_isGardener_178 ?_
    refine r_iload C (k := 4) rfl dL_isGardener_180 ?_
    refine r_icmp_ge C (tgt := 234) rfl dL_isGardener_182 (fun hc => ?_) (fun hc => ?_)
    · rw [if_pos hc] at hF
      cases hF
      change some _ = some _ at hL
      cases hL
      refine r_lo [0, 1, 2, 3, 4] (lo' := [(0, .ref (wAd w (7, 11, 6, 0))), (1, .int l1), (4, .int l4), (5, .int l5), (6, .int l6)]) rfl ?_
      exact kJ _ rfl
    · rw [if_neg hc] at hF
      refine r_iload C (k := 2) rfl dL_isGardener_185 ?_
      refine r_if_lt C (tgt := 234) rfl dL_isGardener_187 (fun hc => ?_) (fun hc => ?_)
      · rw [if_pos hc] at hF
        cases hF
        change some _ = some _ at hL
        cases hL
        refine r_lo [0, 1, 2, 3, 4] (lo' := [(0, .ref (wAd w (7, 11, 6, 0))), (1, .int l1), (4, .int l4), (5, .int l5), (6, .int l6)]) rfl ?_
        exact kJ _ rfl
      · rw [if_neg hc] at hF
        refine r_aload_n C (k := 0) rfl rfl dL_isGardener_190 ?_
        refine r_iload C (k := 2) rfl dL_isGardener_191 ?_
        refine r_iload C (k := 5) rfl dL_isGardener_193 ?_
        refine r_iadd C dL_isGardener_195 ?_
        obtain ⟨v23, hv23, hF⟩ := ob1_e hF
        refine r_callV C (d' := 7) [.int (l4 + l7)] (c_X10_letterAt hW hS e (l4 + l7) (okI_e hv23)) myX10_letterAt wm5_12 ⟨_, _, _, _, (hW.ok k7), rfl, rfl, rfl, rfl⟩ rfl (kR rfl) (by decide) (kR rfl) rfl dL_isGardener_196 ?_
        refine r_if_ge C (tgt := 226) rfl dL_isGardener_199 (fun hc => ?_) (fun hc => ?_)
        · rw [if_pos hc] at hF
          refine r_iconst C (v := 0) rfl dL_isGardener_226 ?_
          cases hF
          change some _ = some _ at hL
          cases hL
          rw [kR9 _ rfl]
          exact r_zreturn C false rfl dL_isGardener_227
        · rw [if_neg hc] at hF
          refine r_aload_n C (k := 0) rfl rfl dL_isGardener_202 ?_
          refine r_iload C (k := 2) rfl dL_isGardener_203 ?_
          refine r_iload C (k := 5) rfl dL_isGardener_205 ?_
          refine r_iadd C dL_isGardener_207 ?_
          obtain ⟨v24, hv24, hF⟩ := ob1_e hF
          refine r_callV C (d' := 7) [.int (l4 + l7)] (c_X10_isReserved hW hS e (l4 + l7) (okI_e hv24)) myX10_isReserved wm5_31 ⟨_, _, _, _, (hW.ok k7), rfl, rfl, rfl, rfl⟩ rfl (kR rfl) (by decide) (kR rfl) rfl dL_isGardener_208 ?_
          refine r_if_ne C (tgt := 226) rfl dL_isGardener_211 (fun hc => ?_) (fun hc => ?_)
          · rw [if_pos (b2i_t hc)] at hF
            refine r_iconst C (v := 0) rfl dL_isGardener_226 ?_
            cases hF
            change some _ = some _ at hL
            cases hL
            rw [kR9 _ rfl]
            exact r_zreturn C false rfl dL_isGardener_227
          · rw [if_neg (b2i_f hc)] at hF
            refine r_aload_n C (k := 0) rfl rfl dL_isGardener_214 ?_
            refine r_iload C (k := 2) rfl dL_isGardener_215 ?_
            refine r_iload C (k := 5) rfl dL_isGardener_217 ?_
            refine r_iadd C dL_isGardener_219 ?_
            obtain ⟨v25, hv25, hF⟩ := ob1_e hF
            refine r_callV C (d' := 7) [.int (l4 + l7)] (c_X10_nestDays hW hS e (l4 + l7) (okI_e hv25)) myX10_nestDays wm5_27 ⟨_, _, _, _, (hW.ok k7), rfl, rfl, rfl, rfl⟩ rfl (kR rfl) (by decide) (kR rfl) rfl dL_isGardener_220 ?_
            refine r_if_le C (tgt := 228) rfl dL_isGardener_223 (fun hc => ?_) (fun hc => ?_)
            · rw [if_pos hc] at hF
              refine r_iinc C (k := 5) (v := (l7 + 1)) (lo' := [(7, .int (l7 + 1)), (0, .ref (wAd w (7, 11, 6, 0))), (1, .int l1), (4, .int l4), (5, .int l5), (6, .int l6)]) rfl rfl (by decide) rfl dL_isGardener_228 ?_
              refine r_goto C (tgt := 178) rfl dL_isGardener_231 ?_
              cases hF
              change lpN n _ _ = some _ at hL
              refine r_lo [1, 2, 3, 4, 5, 0] (lo' := [(0, .ref (wAd w (7, 11, 6, 0))), (1, .int l1), (4, .int l4), (5, .int l5), (6, .int l6), (7, .int (l7 + 1))]) rfl ?_
              exact ih (l7 + 1) hL
            · rw [if_neg hc] at hF
              refine r_iconst C (v := 0) rfl dL_isGardener_226 ?_
              cases hF
              change some _ = some _ at hL
              cases hL
              rw [kR9 _ rfl]
              exact r_zreturn C false rfl dL_isGardener_227
theorem c_L_isGardener {w : WP} (hW : gW w) (hS : gS w) {Ω : OM} {S : Nat → Nat → HV} (e : Ω.1 = S) (N : Nat) (a1 : Int32) {v : Bool} (hF : F_L_isGardener N a1 S = some v) : gM w 8 yL_isGardener cL_isGardener 9 (some .boolean) [.ref (wAd w (7, 11, 6, 0)), .int a1] (cA w Ω) (some (.int (b2i v))) (cA w Ω) := by
  refine gM_of "HedgeMessagesLaw" rfl (by decide) (kR rfl) fun X C => ?_
  unfold F_L_isGardener at hF
  show gU w X (qR w X ((some (.int (b2i v))), cA w Ω)) (cA w Ω) 0 [(0, .ref (wAd w (7, 11, 6, 0))), (1, .int a1)] []
  refine r_aload_n C (k := 0) rfl rfl dL_isGardener_0 ?_
  refine r_iload_n C (k := 1) rfl rfl dL_isGardener_1 ?_
  obtain ⟨v1, hv1, hF⟩ := ob1_e hF
  refine r_callV C (d' := 7) [.int a1] (c_X10_startSlot hW hS e a1 (okI_e hv1)) myX10_startSlot wm5_44 ⟨_, _, _, _, (hW.ok k7), rfl, rfl, rfl, rfl⟩ rfl (kR rfl) (by decide) (kR rfl) rfl dL_isGardener_2 ?_
  refine r_istore_n C (lo' := [(2, .int v1), (0, .ref (wAd w (7, 11, 6, 0))), (1, .int a1)]) rfl (by decide) rfl dL_isGardener_5 ?_
  refine r_aload_n C (k := 1) rfl rfl dL_isGardener_6 ?_
  refine r_iload_n C (k := 2) rfl rfl dL_isGardener_7 ?_
  obtain ⟨v2, hv2, hF⟩ := ob1_e hF
  refine r_callV C (d' := 7) [.int a1] (c_X10_lettersWritten hW hS e a1 (okI_e hv2)) myX10_lettersWritten wm5_40 ⟨_, _, _, _, (hW.ok k7), rfl, rfl, rfl, rfl⟩ rfl (kR rfl) (by decide) (kR rfl) rfl dL_isGardener_8 ?_
  refine r_istore_n C (lo' := [(3, .int v2), (2, .int v1), (0, .ref (wAd w (7, 11, 6, 0))), (1, .int a1)]) rfl (by decide) rfl dL_isGardener_11 ?_
  refine r_aload_n C (k := 2) rfl rfl dL_isGardener_12 ?_
  refine r_iload_n C (k := 3) rfl rfl dL_isGardener_13 ?_
  obtain ⟨v3, hv3, hF⟩ := ob1_e hF
  refine r_callV C (d' := 7) [.int a1] (c_X10_nextStartSlot hW hS e N a1 (okI_e hv3)) myX10_nextStartSlot wm5_133 ⟨_, _, _, _, (hW.ok k7), rfl, rfl, rfl, rfl⟩ rfl (kR rfl) (by decide) (kR rfl) rfl dL_isGardener_14 ?_
  refine r_istore C (lo' := [(4, .int v3), (3, .int v2), (2, .int v1), (0, .ref (wAd w (7, 11, 6, 0))), (1, .int a1)]) (by decide) rfl dL_isGardener_17 ?_
  refine r_iload_n C (k := 2) rfl rfl dL_isGardener_19 ?_
  obtain ⟨v5, hq4, hF⟩ := ob1_e hF
  have kq4 : ∀ a, v5 = a → gU w X (qR w X ((some (.int (b2i v))), cA w Ω)) (cA w Ω) 28 [(0, .ref (wAd w (7, 11, 6, 0))), (1, .int a1), (2, .int v1), (3, .int v2), (4, .int v3)] (.int a :: []) := by
    intro a ha
    subst ha
    refine r_istore C (lo' := [(5, .int v5), (0, .ref (wAd w (7, 11, 6, 0))), (1, .int a1), (2, .int v1), (3, .int v2), (4, .int v3)]) (by decide) rfl dL_isGardener_28 ?_
    refine r_iconst C (v := 0) rfl dL_isGardener_30 ?_
    refine r_istore C (lo' := [(6, .int 0), (5, .int v5), (0, .ref (wAd w (7, 11, 6, 0))), (1, .int a1), (2, .int v1), (3, .int v2), (4, .int v3)]) (by decide) rfl dL_isGardener_31 ?_
    obtain ⟨q9, hq9, hF⟩ := om_e hF
    have kq9 : ∀ a : Unit, q9 = .inl a → gU w X (qR w X ((some (.int (b2i v))), cA w Ω)) (cA w Ω) 81 [(0, .ref (wAd w (7, 11, 6, 0))), (1, .int a1), (2, .int v1), (3, .int v2), (4, .int v3), (5, .int v5)] [] := by
      rintro ⟨⟩ ha
      subst ha
      dsimp only [Sum.elim_inl] at hF
      refine r_iload C (k := 5) rfl dL_isGardener_81 ?_
      obtain ⟨q10, hq10, hF⟩ := om_e hF
      have kq10 : ∀ a : Unit, q10 = .inl a → gU w X (qR w X ((some (.int (b2i v))), cA w Ω)) (cA w Ω) 90 [(0, .ref (wAd w (7, 11, 6, 0))), (1, .int a1), (2, .int v1), (3, .int v2), (4, .int v3), (5, .int v5)] [] := by
        rintro ⟨⟩ ha
        subst ha
        dsimp only [Sum.elim_inl] at hF
        refine r_iload C (k := 5) rfl dL_isGardener_90 ?_
        obtain ⟨q11, hq11, hF⟩ := om_e hF
        have kq11 : ∀ a : Unit, q11 = .inl a → gU w X (qR w X ((some (.int (b2i v))), cA w Ω)) (cA w Ω) 117 [(0, .ref (wAd w (7, 11, 6, 0))), (1, .int a1), (4, .int v3), (5, .int v5)] [] := by
          rintro ⟨⟩ ha
          subst ha
          dsimp only [Sum.elim_inl] at hF
          refine r_iconst C (v := 0) rfl dL_isGardener_117 ?_
          refine r_istore C (lo' := [(6, .int 0), (0, .ref (wAd w (7, 11, 6, 0))), (1, .int a1), (4, .int v3), (5, .int v5)]) (by decide) rfl dL_isGardener_118 ?_
          obtain ⟨q15, hq15, hF⟩ := om_e hF
          have kq15 : ∀ a : Int32, q15 = .inl a → gU w X (qR w X ((some (.int (b2i v))), cA w Ω)) (cA w Ω) 137 [(0, .ref (wAd w (7, 11, 6, 0))), (1, .int a1), (4, .int v3), (5, .int v5), (6, .int a)] [] := by
            rintro x16 ha
            subst ha
            dsimp only [Sum.elim_inl] at hF
            refine r_aload_n C (k := 0) rfl rfl dL_isGardener_137 ?_
            refine r_iload_n C (k := 1) rfl rfl dL_isGardener_138 ?_
            obtain ⟨v17, hv17, hF⟩ := ob1_e hF
            refine r_callV C (d' := 7) [.int a1] (c_X10_pendingCount hW hS e a1 (okI_e hv17)) myX10_pendingCount wm5_36 ⟨_, _, _, _, (hW.ok k7), rfl, rfl, rfl, rfl⟩ rfl (kR rfl) (by decide) (kR rfl) rfl dL_isGardener_139 ?_
            obtain ⟨v19, hq18, hF⟩ := ob1_e hF
            have kq18 : ∀ a, v19 = a → gU w X (qR w X ((some (.int (b2i v))), cA w Ω)) (cA w Ω) 150 [(0, .ref (wAd w (7, 11, 6, 0))), (1, .int a1), (4, .int v3), (5, .int v5), (6, .int x16)] (.int a :: []) := by
              intro a ha
              subst ha
              refine r_iload C (k := 4) rfl dL_isGardener_150 ?_
              obtain ⟨v21, hq20, hF⟩ := ob1_e hF
              have kq20 : ∀ a, v21 = a → gU w X (qR w X ((some (.int (b2i v))), cA w Ω)) (cA w Ω) 160 [(0, .ref (wAd w (7, 11, 6, 0))), (1, .int a1), (4, .int v3), (5, .int v5), (6, .int x16)] (.int a :: [.int v19]) := by
                intro a ha
                subst ha
                refine r_icmp_ne C (tgt := 173) rfl dL_isGardener_160 (fun hc => ?_) (fun hc => ?_)
                · rw [if_neg hc] at hF
                  refine r_iconst C (v := 0) rfl dL_isGardener_173 ?_
                  cases hF
                  exact r_zreturn C false rfl dL_isGardener_174
                · rw [if_pos hc] at hF
                  refine r_iload C (k := 2) rfl dL_isGardener_163 ?_
                  obtain ⟨q22, hq22, hF⟩ := om_e hF
                  have kq22 : ∀ a : Unit, q22 = .inl a → gU w X (qR w X ((some (.int (b2i v))), cA w Ω)) (cA w Ω) 175 [(0, .ref (wAd w (7, 11, 6, 0))), (1, .int a1), (4, .int v3), (5, .int v5), (6, .int x16)] [] := by
                    rintro ⟨⟩ ha
                    subst ha
                    dsimp only [Sum.elim_inl] at hF
                    refine r_iconst C (v := 0) rfl dL_isGardener_175 ?_
                    refine r_istore C (lo' := [(7, .int 0), (0, .ref (wAd w (7, 11, 6, 0))), (1, .int a1), (4, .int v3), (5, .int v5), (6, .int x16)]) (by decide) rfl dL_isGardener_176 ?_
                    obtain ⟨q26, hq26, hF⟩ := om_e hF
                    have kq26 : ∀ a : Unit, q26 = .inl a → gU w X (qR w X ((some (.int (b2i v))), cA w Ω)) (cA w Ω) 234 [(0, .ref (wAd w (7, 11, 6, 0))), (1, .int a1), (4, .int v3), (5, .int v5), (6, .int x16)] [] := by
                      rintro ⟨⟩ ha
                      subst ha
                      dsimp only [Sum.elim_inl] at hF
                      refine r_iload C (k := 2) rfl dL_isGardener_234 ?_
                      obtain ⟨q27, hq27, hF⟩ := om_e hF
                      have kq27 : ∀ a : Unit, q27 = .inl a → gU w X (qR w X ((some (.int (b2i v))), cA w Ω)) (cA w Ω) 263 [(0, .ref (wAd w (7, 11, 6, 0))), (1, .int a1), (4, .int v3), (5, .int v5), (6, .int x16)] [] := by
                        rintro ⟨⟩ ha
                        subst ha
                        dsimp only [Sum.elim_inl] at hF
                        refine r_aload_n C (k := 0) rfl rfl dL_isGardener_263 ?_
                        refine r_callV C (d' := 1) [] (c_X10_activeGardener hW e rfl) myX10_activeGardener wm5_88 ⟨_, _, _, _, (hW.ok k7), rfl, rfl, rfl, rfl⟩ rfl (kR rfl) (by decide) (kR rfl) rfl dL_isGardener_264 ?_
                        refine r_iload_n C (k := 1) rfl rfl dL_isGardener_267 ?_
                        obtain ⟨v31, hq30, hF⟩ := ob1_e hF
                        have kq30 : ∀ a, v31 = a → gU w X (qR w X ((some (.int (b2i v))), cA w Ω)) (cA w Ω) 317 [(0, .ref (wAd w (7, 11, 6, 0))), (1, .int a1), (5, .int v5)] (.int a :: []) := by
                          intro a ha
                          subst ha
                          refine r_istore C (lo' := [(7, .int v31), (0, .ref (wAd w (7, 11, 6, 0))), (1, .int a1), (5, .int v5)]) (by decide) rfl dL_isGardener_317 ?_
                          refine r_aload_n C (k := 1) rfl rfl dL_isGardener_319 ?_
                          refine r_iload_n C (k := 2) rfl rfl dL_isGardener_320 ?_
                          obtain ⟨v32, hv32, hF⟩ := ob1_e hF
                          refine r_callV C (d' := 7) [.int a1] (c_X10_messagesQueued hW hS e a1 (okI_e hv32)) myX10_messagesQueued wm5_57 ⟨_, _, _, _, (hW.ok k7), rfl, rfl, rfl, rfl⟩ rfl (kR rfl) (by decide) (kR rfl) rfl dL_isGardener_321 ?_
                          refine r_aload_n C (k := 1) rfl rfl dL_isGardener_324 ?_
                          refine r_iload_n C (k := 2) rfl rfl dL_isGardener_325 ?_
                          obtain ⟨v33, hv33, hF⟩ := ob1_e hF
                          refine r_callV C (d' := 7) [.int a1] (c_X10_messagesDelivered hW hS e a1 (okI_e hv33)) myX10_messagesDelivered wm5_61 ⟨_, _, _, _, (hW.ok k7), rfl, rfl, rfl, rfl⟩ rfl (kR rfl) (by decide) (kR rfl) rfl dL_isGardener_326 ?_
                          refine r_isub C dL_isGardener_329 ?_
                          refine r_aload_n C (k := 1) rfl rfl dL_isGardener_330 ?_
                          refine r_iload_n C (k := 2) rfl rfl dL_isGardener_331 ?_
                          obtain ⟨v34, hv34, hF⟩ := ob1_e hF
                          refine r_callV C (d' := 7) [.int a1] (c_X10_messagesDropped hW hS e a1 (okI_e hv34)) myX10_messagesDropped wm5_69 ⟨_, _, _, _, (hW.ok k7), rfl, rfl, rfl, rfl⟩ rfl (kR rfl) (by decide) (kR rfl) rfl dL_isGardener_332 ?_
                          refine r_isub C dL_isGardener_335 ?_
                          refine r_aload_n C (k := 1) rfl rfl dL_isGardener_336 ?_
                          refine r_iload_n C (k := 2) rfl rfl dL_isGardener_337 ?_
                          obtain ⟨v35, hv35, hF⟩ := ob1_e hF
                          refine r_callV C (d' := 7) [.int a1] (c_X10_pendingCount hW hS e a1 (okI_e hv35)) myX10_pendingCount wm5_36 ⟨_, _, _, _, (hW.ok k7), rfl, rfl, rfl, rfl⟩ rfl (kR rfl) (by decide) (kR rfl) rfl dL_isGardener_338 ?_
                          refine r_isub C dL_isGardener_341 ?_
                          refine r_aload_n C (k := 1) rfl rfl dL_isGardener_342 ?_
                          refine r_iload_n C (k := 2) rfl rfl dL_isGardener_343 ?_
                          obtain ⟨v36, hv36, hF⟩ := ob1_e hF
                          refine r_callV C (d' := 7) [.int a1] (c_X10_postedCount hW hS e N a1 (okI_e hv36)) myX10_postedCount wm5_49 ⟨_, _, _, _, (hW.ok k7), rfl, rfl, rfl, rfl⟩ rfl (kR rfl) (by decide) (kR rfl) rfl dL_isGardener_344 ?_
                          refine r_isub C dL_isGardener_347 ?_
                          refine r_istore C (lo' := [(8, .int ((((v32 - v33) - v34) - v35) - v36)), (7, .int v31), (0, .ref (wAd w (7, 11, 6, 0))), (1, .int a1), (5, .int v5)]) (by decide) rfl dL_isGardener_348 ?_
                          refine r_aload_n C (k := 2) rfl rfl dL_isGardener_350 ?_
                          refine r_iload_n C (k := 3) rfl rfl dL_isGardener_351 ?_
                          obtain ⟨v37, hv37, hF⟩ := ob1_e hF
                          refine r_callV C (d' := 7) [.int a1] (c_X10_writeReason hW hS e N a1 (okI_e hv37)) myX10_writeReason wm5_138 ⟨_, _, _, _, (hW.ok k7), rfl, rfl, rfl, rfl⟩ rfl (kR rfl) (by decide) (kR rfl) rfl dL_isGardener_352 ?_
                          refine r_iload C (k := 1) rfl dL_isGardener_355 ?_
                          refine r_icmp_ne C (tgt := 394) rfl dL_isGardener_357 (fun hc => ?_) (fun hc => ?_)
                          · rw [if_neg hc] at hF
                            refine r_iconst C (v := 0) rfl dL_isGardener_394 ?_
                            cases hF
                            exact r_zreturn C false rfl dL_isGardener_395
                          · rw [if_pos hc] at hF
                            refine r_iload C (k := 0) rfl dL_isGardener_360 ?_
                            refine r_iload C (k := 4) rfl dL_isGardener_362 ?_
                            obtain ⟨v39, hq38, hF⟩ := ob1_e hF
                            have kq38 : ∀ a, v39 = a → gU w X (qR w X ((some (.int (b2i v))), cA w Ω)) (cA w Ω) 372 [(0, .ref (wAd w (7, 11, 6, 0))), (1, .int a1)] (.int a :: [.int ((((v32 - v33) - v34) - v35) - v36)]) := by
                              intro a ha
                              subst ha
                              refine r_icmp_ne C (tgt := 394) rfl dL_isGardener_372 (fun hc => ?_) (fun hc => ?_)
                              · rw [if_neg hc] at hF
                                refine r_iconst C (v := 0) rfl dL_isGardener_394 ?_
                                cases hF
                                exact r_zreturn C false rfl dL_isGardener_395
                              · rw [if_pos hc] at hF
                                refine r_aload_n C (k := 0) rfl rfl dL_isGardener_375 ?_
                                refine r_iload_n C (k := 1) rfl rfl dL_isGardener_376 ?_
                                refine r_aload_n C (k := 0) rfl rfl dL_isGardener_377 ?_
                                refine r_iload_n C (k := 1) rfl rfl dL_isGardener_378 ?_
                                obtain ⟨v40, hv40, hF⟩ := ob1_e hF
                                refine r_callV C (d' := 7) [.int a1] (c_X10_pendingCount hW hS e a1 (okI_e hv40)) myX10_pendingCount wm5_36 ⟨_, _, _, _, (hW.ok k7), rfl, rfl, rfl, rfl⟩ rfl (kR rfl) (by decide) (kR rfl) rfl dL_isGardener_379 ?_
                                refine r_iconst C (v := 0) rfl dL_isGardener_382 ?_
                                obtain ⟨v41, hv41, hF⟩ := ob1_e hF
                                refine r_callV C (d' := 7) [.int a1, .int v40, .int 0] (c_X10_pendingLetter hW hS e a1 v40 0 (okI_e hv41)) myX10_pendingLetter wm5_73 ⟨_, _, _, _, (hW.ok k7), rfl, rfl, rfl, rfl⟩ rfl (kR rfl) (by decide) (kR rfl) rfl dL_isGardener_383 ?_
                                refine r_iconst C (v := (-1)) (by decide) dL_isGardener_386 ?_
                                refine r_icmp_ne C (tgt := 394) rfl dL_isGardener_387 (fun hc => ?_) (fun hc => ?_)
                                · rw [if_neg hc] at hF
                                  refine r_iconst C (v := 0) rfl dL_isGardener_394 ?_
                                  cases hF
                                  exact r_zreturn C false rfl dL_isGardener_395
                                · rw [if_pos hc] at hF
                                  refine r_iconst C (v := 1) rfl dL_isGardener_390 ?_
                                  refine r_goto C (tgt := 395) rfl dL_isGardener_391 ?_
                                  cases hF
                                  exact r_zreturn C true rfl dL_isGardener_395
                            refine r_if_eq C (tgt := 371) rfl dL_isGardener_364 (fun hc => ?_) (fun hc => ?_)
                            · rw [if_pos hc] at hq38
                              refine r_iconst C (v := 0) rfl dL_isGardener_371 ?_
                              cases hq38
                              refine r_lo [2, 3] (lo' := [(0, .ref (wAd w (7, 11, 6, 0))), (1, .int a1)]) rfl ?_
                              exact kq38 _ rfl
                            · rw [if_neg hc] at hq38
                              refine r_iconst C (v := 1) rfl dL_isGardener_367 ?_
                              refine r_goto C (tgt := 372) rfl dL_isGardener_368 ?_
                              cases hq38
                              refine r_lo [2, 3] (lo' := [(0, .ref (wAd w (7, 11, 6, 0))), (1, .int a1)]) rfl ?_
                              exact kq38 _ rfl
                        refine r_icmp_eq C (tgt := 276) rfl dL_isGardener_268 (fun hc => ?_) (fun hc => ?_)
                        · rw [if_pos hc] at hq30
                          refine r_aload_n C (k := 0) rfl rfl dL_isGardener_276 ?_
                          refine r_callV C (d' := 0) [] (c_X10_actionsLeft hW e rfl) myX10_actionsLeft wm4_225 ⟨_, _, _, _, (hW.ok k7), rfl, rfl, rfl, rfl⟩ rfl (kR rfl) (by decide) (kR rfl) rfl dL_isGardener_277 ?_
                          refine r_if_ne C (tgt := 287) rfl dL_isGardener_280 (fun hc => ?_) (fun hc => ?_)
                          · rw [if_neg hc] at hq30
                            refine r_iload C (k := 3) rfl dL_isGardener_287 ?_
                            refine r_if_eq C (tgt := 296) rfl dL_isGardener_289 (fun hc => ?_) (fun hc => ?_)
                            · rw [if_pos hc] at hq30
                              refine r_iload C (k := 4) rfl dL_isGardener_296 ?_
                              refine r_if_ne C (tgt := 306) rfl dL_isGardener_298 (fun hc => ?_) (fun hc => ?_)
                              · rw [if_neg hc] at hq30
                                refine r_iload C (k := 2) rfl dL_isGardener_306 ?_
                                refine r_if_ge C (tgt := 316) rfl dL_isGardener_308 (fun hc => ?_) (fun hc => ?_)
                                · rw [if_pos hc] at hq30
                                  refine r_iconst C (v := 0) rfl dL_isGardener_316 ?_
                                  cases hq30
                                  refine r_lo [0, 1, 3] (lo' := [(0, .ref (wAd w (7, 11, 6, 0))), (1, .int a1), (5, .int v5)]) rfl ?_
                                  exact kq30 _ rfl
                                · rw [if_neg hc] at hq30
                                  refine r_bipush C (v := 12) rfl dL_isGardener_311 ?_
                                  refine r_goto C (tgt := 317) rfl dL_isGardener_313 ?_
                                  cases hq30
                                  refine r_lo [0, 1, 3] (lo' := [(0, .ref (wAd w (7, 11, 6, 0))), (1, .int a1), (5, .int v5)]) rfl ?_
                                  exact kq30 _ rfl
                              · rw [if_pos hc] at hq30
                                refine r_bipush C (v := 11) rfl dL_isGardener_301 ?_
                                refine r_goto C (tgt := 317) rfl dL_isGardener_303 ?_
                                cases hq30
                                refine r_lo [0, 1, 3] (lo' := [(0, .ref (wAd w (7, 11, 6, 0))), (1, .int a1), (5, .int v5)]) rfl ?_
                                exact kq30 _ rfl
                            · rw [if_neg hc] at hq30
                              refine r_iconst C (v := 0) rfl dL_isGardener_292 ?_
                              refine r_goto C (tgt := 317) rfl dL_isGardener_293 ?_
                              cases hq30
                              refine r_lo [0, 1, 3] (lo' := [(0, .ref (wAd w (7, 11, 6, 0))), (1, .int a1), (5, .int v5)]) rfl ?_
                              exact kq30 _ rfl
                          · rw [if_pos hc] at hq30
                            refine r_iconst C (v := 1) rfl dL_isGardener_283 ?_
                            refine r_goto C (tgt := 317) rfl dL_isGardener_284 ?_
                            cases hq30
                            refine r_lo [0, 1, 3] (lo' := [(0, .ref (wAd w (7, 11, 6, 0))), (1, .int a1), (5, .int v5)]) rfl ?_
                            exact kq30 _ rfl
                        · rw [if_neg hc] at hq30
                          refine r_bipush C (v := 13) rfl dL_isGardener_271 ?_
                          refine r_goto C (tgt := 317) rfl dL_isGardener_273 ?_
                          cases hq30
                          refine r_lo [0, 1, 3] (lo' := [(0, .ref (wAd w (7, 11, 6, 0))), (1, .int a1), (5, .int v5)]) rfl ?_
                          exact kq30 _ rfl
                      refine r_if_le C (tgt := 263) rfl dL_isGardener_236 (fun hc => ?_) (fun hc => ?_)
                      · rw [if_pos hc] at hq27
                        cases hq27
                        refine r_lo [0, 1, 2, 3, 4] (lo' := [(0, .ref (wAd w (7, 11, 6, 0))), (1, .int a1), (4, .int v3), (5, .int v5), (6, .int x16)]) rfl ?_
                        exact kq27 _ rfl
                      · rw [if_neg hc] at hq27
                        refine r_aload_n C (k := 0) rfl rfl dL_isGardener_239 ?_
                        refine r_iload C (k := 2) rfl dL_isGardener_240 ?_
                        refine r_iconst C (v := 1) rfl dL_isGardener_242 ?_
                        refine r_isub C dL_isGardener_243 ?_
                        obtain ⟨v28, hv28, hq27⟩ := ob1_e hq27
                        refine r_callV C (d' := 7) [.int (v3 - 1)] (c_X10_letterAt hW hS e (v3 - 1) (okI_e hv28)) myX10_letterAt wm5_12 ⟨_, _, _, _, (hW.ok k7), rfl, rfl, rfl, rfl⟩ rfl (kR rfl) (by decide) (kR rfl) rfl dL_isGardener_244 ?_
                        refine r_if_ge C (tgt := 261) rfl dL_isGardener_247 (fun hc => ?_) (fun hc => ?_)
                        · rw [if_pos hc] at hq27
                          refine r_iconst C (v := 0) rfl dL_isGardener_261 ?_
                          cases hq27
                          change some _ = some _ at hF
                          cases hF
                          exact r_zreturn C false rfl dL_isGardener_262
                        · rw [if_neg hc] at hq27
                          refine r_aload_n C (k := 0) rfl rfl dL_isGardener_250 ?_
                          refine r_iload C (k := 2) rfl dL_isGardener_251 ?_
                          refine r_iconst C (v := 1) rfl dL_isGardener_253 ?_
                          refine r_isub C dL_isGardener_254 ?_
                          obtain ⟨v29, hv29, hq27⟩ := ob1_e hq27
                          refine r_callV C (d' := 7) [.int (v3 - 1)] (c_X10_isReserved hW hS e (v3 - 1) (okI_e hv29)) myX10_isReserved wm5_31 ⟨_, _, _, _, (hW.ok k7), rfl, rfl, rfl, rfl⟩ rfl (kR rfl) (by decide) (kR rfl) rfl dL_isGardener_255 ?_
                          refine r_if_eq C (tgt := 263) rfl dL_isGardener_258 (fun hc => ?_) (fun hc => ?_)
                          · rw [if_neg (b2i_f hc)] at hq27
                            cases hq27
                            refine r_lo [0, 1, 2, 3, 4] (lo' := [(0, .ref (wAd w (7, 11, 6, 0))), (1, .int a1), (4, .int v3), (5, .int v5), (6, .int x16)]) rfl ?_
                            exact kq27 _ rfl
                          · rw [if_pos (b2i_t hc)] at hq27
                            refine r_iconst C (v := 0) rfl dL_isGardener_261 ?_
                            cases hq27
                            change some _ = some _ at hF
                            cases hF
                            exact r_zreturn C false rfl dL_isGardener_262
                    refine r_lo [1, 2, 3, 4, 5, 0] (lo' := [(0, .ref (wAd w (7, 11, 6, 0))), (1, .int a1), (4, .int v3), (5, .int v5), (6, .int x16), (7, .int 0)]) rfl ?_
                    refine lq_L_isGardener_178 hW hS e a1 v3 v5 x16 C N 0 hq26 kq26 ?_
                    intro r hr
                    subst hr
                    change some _ = some _ at hF
                    cases hF
                    rfl
                  refine r_if_lt C (tgt := 175) rfl dL_isGardener_165 (fun hc => ?_) (fun hc => ?_)
                  · rw [if_pos hc] at hq22
                    cases hq22
                    refine r_lo [0, 1, 2, 3, 4] (lo' := [(0, .ref (wAd w (7, 11, 6, 0))), (1, .int a1), (4, .int v3), (5, .int v5), (6, .int x16)]) rfl ?_
                    exact kq22 _ rfl
                  · rw [if_neg hc] at hq22
                    refine r_iload C (k := 4) rfl dL_isGardener_168 ?_
                    refine r_if_ne C (tgt := 175) rfl dL_isGardener_170 (fun hc => ?_) (fun hc => ?_)
                    · rw [if_neg hc] at hq22
                      cases hq22
                      refine r_lo [0, 1, 2, 3, 4] (lo' := [(0, .ref (wAd w (7, 11, 6, 0))), (1, .int a1), (4, .int v3), (5, .int v5), (6, .int x16)]) rfl ?_
                      exact kq22 _ rfl
                    · rw [if_pos hc] at hq22
                      refine r_iconst C (v := 0) rfl dL_isGardener_173 ?_
                      cases hq22
                      change some _ = some _ at hF
                      cases hF
                      exact r_zreturn C false rfl dL_isGardener_174
              refine r_if_ne C (tgt := 159) rfl dL_isGardener_152 (fun hc => ?_) (fun hc => ?_)
              · rw [if_neg hc] at hq20
                refine r_iconst C (v := 0) rfl dL_isGardener_159 ?_
                cases hq20
                refine r_lo [0, 1, 2, 3, 4] (lo' := [(0, .ref (wAd w (7, 11, 6, 0))), (1, .int a1), (4, .int v3), (5, .int v5), (6, .int x16)]) rfl ?_
                exact kq20 _ rfl
              · rw [if_pos hc] at hq20
                refine r_iconst C (v := 1) rfl dL_isGardener_155 ?_
                refine r_goto C (tgt := 160) rfl dL_isGardener_156 ?_
                cases hq20
                refine r_lo [0, 1, 2, 3, 4] (lo' := [(0, .ref (wAd w (7, 11, 6, 0))), (1, .int a1), (4, .int v3), (5, .int v5), (6, .int x16)]) rfl ?_
                exact kq20 _ rfl
            refine r_if_ne C (tgt := 149) rfl dL_isGardener_142 (fun hc => ?_) (fun hc => ?_)
            · rw [if_neg hc] at hq18
              refine r_iconst C (v := 0) rfl dL_isGardener_149 ?_
              cases hq18
              refine r_lo [0, 1, 2, 3, 4] (lo' := [(0, .ref (wAd w (7, 11, 6, 0))), (1, .int a1), (4, .int v3), (5, .int v5), (6, .int x16)]) rfl ?_
              exact kq18 _ rfl
            · rw [if_pos hc] at hq18
              refine r_iconst C (v := 1) rfl dL_isGardener_145 ?_
              refine r_goto C (tgt := 150) rfl dL_isGardener_146 ?_
              cases hq18
              refine r_lo [0, 1, 2, 3, 4] (lo' := [(0, .ref (wAd w (7, 11, 6, 0))), (1, .int a1), (4, .int v3), (5, .int v5), (6, .int x16)]) rfl ?_
              exact kq18 _ rfl
          refine r_lo [1, 2, 3, 4, 0] (lo' := [(0, .ref (wAd w (7, 11, 6, 0))), (1, .int a1), (4, .int v3), (5, .int v5), (6, .int 0)]) rfl ?_
          refine lq_L_isGardener_120 hW hS e a1 v3 v5 C N 0 hq15 kq15 ?_
          intro r hr
          subst hr
          change some _ = some _ at hF
          cases hF
          rfl
        refine r_if_eq C (tgt := 117) rfl dL_isGardener_92 (fun hc => ?_) (fun hc => ?_)
        · rw [if_pos hc] at hq11
          cases hq11
          refine r_lo [0, 1, 4, 5] (lo' := [(0, .ref (wAd w (7, 11, 6, 0))), (1, .int a1), (4, .int v3), (5, .int v5)]) rfl ?_
          exact kq11 _ rfl
        · rw [if_neg hc] at hq11
          refine r_aload_n C (k := 0) rfl rfl dL_isGardener_95 ?_
          refine r_iload_n C (k := 2) rfl rfl dL_isGardener_96 ?_
          refine r_iload_n C (k := 3) rfl rfl dL_isGardener_97 ?_
          refine r_iadd C dL_isGardener_98 ?_
          obtain ⟨v12, hv12, hq11⟩ := ob1_e hq11
          refine r_callV C (d' := 7) [.int (v1 + v2)] (c_X10_isReserved hW hS e (v1 + v2) (okI_e hv12)) myX10_isReserved wm5_31 ⟨_, _, _, _, (hW.ok k7), rfl, rfl, rfl, rfl⟩ rfl (kR rfl) (by decide) (kR rfl) rfl dL_isGardener_99 ?_
          refine r_if_eq C (tgt := 115) rfl dL_isGardener_102 (fun hc => ?_) (fun hc => ?_)
          · rw [if_neg (b2i_f hc)] at hq11
            refine r_iconst C (v := 0) rfl dL_isGardener_115 ?_
            cases hq11
            change some _ = some _ at hF
            cases hF
            exact r_zreturn C false rfl dL_isGardener_116
          · rw [if_pos (b2i_t hc)] at hq11
            refine r_aload_n C (k := 0) rfl rfl dL_isGardener_105 ?_
            refine r_iload_n C (k := 2) rfl rfl dL_isGardener_106 ?_
            refine r_iload_n C (k := 3) rfl rfl dL_isGardener_107 ?_
            refine r_iadd C dL_isGardener_108 ?_
            obtain ⟨v13, hv13, hq11⟩ := ob1_e hq11
            refine r_callV C (d' := 7) [.int (v1 + v2)] (c_X10_letterAt hW hS e (v1 + v2) (okI_e hv13)) myX10_letterAt wm5_12 ⟨_, _, _, _, (hW.ok k7), rfl, rfl, rfl, rfl⟩ rfl (kR rfl) (by decide) (kR rfl) rfl dL_isGardener_109 ?_
            refine r_if_lt C (tgt := 117) rfl dL_isGardener_112 (fun hc => ?_) (fun hc => ?_)
            · rw [if_pos hc] at hq11
              cases hq11
              refine r_lo [0, 1, 4, 5] (lo' := [(0, .ref (wAd w (7, 11, 6, 0))), (1, .int a1), (4, .int v3), (5, .int v5)]) rfl ?_
              exact kq11 _ rfl
            · rw [if_neg hc] at hq11
              refine r_iconst C (v := 0) rfl dL_isGardener_115 ?_
              cases hq11
              change some _ = some _ at hF
              cases hF
              exact r_zreturn C false rfl dL_isGardener_116
      refine r_if_ne C (tgt := 90) rfl dL_isGardener_83 (fun hc => ?_) (fun hc => ?_)
      · rw [if_neg hc] at hq10
        cases hq10
        refine r_lo [0, 1, 2, 3, 4, 5] (lo' := [(0, .ref (wAd w (7, 11, 6, 0))), (1, .int a1), (2, .int v1), (3, .int v2), (4, .int v3), (5, .int v5)]) rfl ?_
        exact kq10 _ rfl
      · rw [if_pos hc] at hq10
        refine r_iload_n C (k := 3) rfl rfl dL_isGardener_86 ?_
        refine r_if_gt C (tgt := 115) rfl dL_isGardener_87 (fun hc => ?_) (fun hc => ?_)
        · rw [if_pos hc] at hq10
          refine r_iconst C (v := 0) rfl dL_isGardener_115 ?_
          cases hq10
          change some _ = some _ at hF
          cases hF
          exact r_zreturn C false rfl dL_isGardener_116
        · rw [if_neg hc] at hq10
          cases hq10
          refine r_lo [0, 1, 2, 3, 4, 5] (lo' := [(0, .ref (wAd w (7, 11, 6, 0))), (1, .int a1), (2, .int v1), (3, .int v2), (4, .int v3), (5, .int v5)]) rfl ?_
          exact kq10 _ rfl
    refine r_lo [2, 3, 4, 5, 6, 1, 0] (lo' := [(0, .ref (wAd w (7, 11, 6, 0))), (1, .int a1), (2, .int v1), (3, .int v2), (4, .int v3), (5, .int v5), (6, .int 0)]) rfl ?_
    refine lq_L_isGardener_33 hW hS e a1 v1 v2 v3 v5 C N 0 hq9 kq9 ?_
    intro r hr
    subst hr
    change some _ = some _ at hF
    cases hF
    rfl
  refine r_if_lt C (tgt := 27) rfl dL_isGardener_20 (fun hc => ?_) (fun hc => ?_)
  · rw [if_pos hc] at hq4
    refine r_iconst C (v := 0) rfl dL_isGardener_27 ?_
    cases hq4
    refine r_lo [3, 4, 2, 1, 0] (lo' := [(0, .ref (wAd w (7, 11, 6, 0))), (1, .int a1), (2, .int v1), (3, .int v2), (4, .int v3)]) rfl ?_
    exact kq4 _ rfl
  · rw [if_neg hc] at hq4
    refine r_iconst C (v := 1) rfl dL_isGardener_23 ?_
    refine r_goto C (tgt := 28) rfl dL_isGardener_24 ?_
    cases hq4
    refine r_lo [3, 4, 2, 1, 0] (lo' := [(0, .ref (wAd w (7, 11, 6, 0))), (1, .int a1), (2, .int v1), (3, .int v2), (4, .int v3)]) rfl ?_
    exact kq4 _ rfl
theorem dL_stands_0 : decode cL_stands 0 = .ok (.iconst 0, 1) := by decide +kernel
theorem dL_stands_1 : decode cL_stands 1 = .ok (.istore_n 1, 1) := by decide +kernel
theorem dL_stands_2 : decode cL_stands 2 = .ok (.iconst 0, 1) := by decide +kernel
theorem dL_stands_3 : decode cL_stands 3 = .ok (.istore_n 2, 1) := by decide +kernel
theorem dL_stands_4 : decode cL_stands 4 = .ok (.iconst 0, 1) := by decide +kernel
theorem dL_stands_5 : decode cL_stands 5 = .ok (.istore_n 3, 1) := by decide +kernel
theorem dL_stands_6 : decode cL_stands 6 = .ok (.iconst 0, 1) := by decide +kernel
theorem dL_stands_7 : decode cL_stands 7 = .ok (.istore 4, 2) := by decide +kernel
theorem dL_stands_9 : decode cL_stands 9 = .ok (.iload 4, 2) := by decide +kernel
theorem dL_stands_11 : decode cL_stands 11 = .ok (.aload_n 0, 1) := by decide +kernel
theorem dL_stands_12 : decode cL_stands 12 = .ok (.invokevirtual 112, 3) := by decide +kernel
theorem dL_stands_15 : decode cL_stands 15 = .ok (.if_icmp .ge 63, 3) := by decide +kernel
theorem dL_stands_18 : decode cL_stands 18 = .ok (.aload_n 0, 1) := by decide +kernel
theorem dL_stands_19 : decode cL_stands 19 = .ok (.iload 4, 2) := by decide +kernel
theorem dL_stands_21 : decode cL_stands 21 = .ok (.invokestatic 200, 3) := by decide +kernel
theorem dL_stands_24 : decode cL_stands 24 = .ok (.ifCond .ne 5, 3) := by decide +kernel
theorem dL_stands_27 : decode cL_stands 27 = .ok (.iconst 0, 1) := by decide +kernel
theorem dL_stands_28 : decode cL_stands 28 = .ok (.ireturn, 1) := by decide +kernel
theorem dL_stands_29 : decode cL_stands 29 = .ok (.iload_n 1, 1) := by decide +kernel
theorem dL_stands_30 : decode cL_stands 30 = .ok (.aload_n 0, 1) := by decide +kernel
theorem dL_stands_31 : decode cL_stands 31 = .ok (.iload 4, 2) := by decide +kernel
theorem dL_stands_33 : decode cL_stands 33 = .ok (.invokevirtual 115, 3) := by decide +kernel
theorem dL_stands_36 : decode cL_stands 36 = .ok (.ifCond .lt 7, 3) := by decide +kernel
theorem dL_stands_39 : decode cL_stands 39 = .ok (.iconst 1, 1) := by decide +kernel
theorem dL_stands_40 : decode cL_stands 40 = .ok (.goto 4, 3) := by decide +kernel
theorem dL_stands_43 : decode cL_stands 43 = .ok (.iconst 0, 1) := by decide +kernel
theorem dL_stands_44 : decode cL_stands 44 = .ok (.iadd, 1) := by decide +kernel
theorem dL_stands_45 : decode cL_stands 45 = .ok (.istore_n 1, 1) := by decide +kernel
theorem dL_stands_46 : decode cL_stands 46 = .ok (.iload_n 2, 1) := by decide +kernel
theorem dL_stands_47 : decode cL_stands 47 = .ok (.aload_n 0, 1) := by decide +kernel
theorem dL_stands_48 : decode cL_stands 48 = .ok (.iload 4, 2) := by decide +kernel
theorem dL_stands_50 : decode cL_stands 50 = .ok (.invokevirtual 128, 3) := by decide +kernel
theorem dL_stands_53 : decode cL_stands 53 = .ok (.ifCond .le 7, 3) := by decide +kernel
theorem dL_stands_56 : decode cL_stands 56 = .ok (.iconst 1, 1) := by decide +kernel
theorem dL_stands_57 : decode cL_stands 57 = .ok (.goto 4, 3) := by decide +kernel
theorem dL_stands_60 : decode cL_stands 60 = .ok (.iconst 0, 1) := by decide +kernel
theorem dL_stands_61 : decode cL_stands 61 = .ok (.iadd, 1) := by decide +kernel
theorem dL_stands_62 : decode cL_stands 62 = .ok (.istore_n 2, 1) := by decide +kernel
theorem dL_stands_63 : decode cL_stands 63 = .ok (.iload_n 3, 1) := by decide +kernel
theorem dL_stands_64 : decode cL_stands 64 = .ok (.aload_n 0, 1) := by decide +kernel
theorem dL_stands_65 : decode cL_stands 65 = .ok (.iload 4, 2) := by decide +kernel
theorem dL_stands_67 : decode cL_stands 67 = .ok (.invokevirtual 125, 3) := by decide +kernel
theorem dL_stands_70 : decode cL_stands 70 = .ok (.iadd, 1) := by decide +kernel
theorem dL_stands_71 : decode cL_stands 71 = .ok (.istore_n 3, 1) := by decide +kernel
theorem dL_stands_72 : decode cL_stands 72 = .ok (.iinc 4 1, 3) := by decide +kernel
theorem dL_stands_75 : decode cL_stands 75 = .ok (.goto (-66), 3) := by decide +kernel
theorem dL_stands_78 : decode cL_stands 78 = .ok (.aload_n 0, 1) := by decide +kernel
theorem dL_stands_79 : decode cL_stands 79 = .ok (.iconst 0, 1) := by decide +kernel
theorem dL_stands_80 : decode cL_stands 80 = .ok (.invokestatic 203, 3) := by decide +kernel
theorem dL_stands_83 : decode cL_stands 83 = .ok (.ifCond .eq 126, 3) := by decide +kernel
theorem dL_stands_86 : decode cL_stands 86 = .ok (.aload_n 0, 1) := by decide +kernel
theorem dL_stands_87 : decode cL_stands 87 = .ok (.iconst 1, 1) := by decide +kernel
theorem dL_stands_88 : decode cL_stands 88 = .ok (.invokestatic 203, 3) := by decide +kernel
theorem dL_stands_91 : decode cL_stands 91 = .ok (.ifCond .eq 118, 3) := by decide +kernel
theorem dL_stands_94 : decode cL_stands 94 = .ok (.iload_n 1, 1) := by decide +kernel
theorem dL_stands_95 : decode cL_stands 95 = .ok (.aload_n 0, 1) := by decide +kernel
theorem dL_stands_96 : decode cL_stands 96 = .ok (.invokevirtual 206, 3) := by decide +kernel
theorem dL_stands_99 : decode cL_stands 99 = .ok (.if_icmp .ne 110, 3) := by decide +kernel
theorem dL_stands_102 : decode cL_stands 102 = .ok (.iload_n 2, 1) := by decide +kernel
theorem dL_stands_103 : decode cL_stands 103 = .ok (.aload_n 0, 1) := by decide +kernel
theorem dL_stands_104 : decode cL_stands 104 = .ok (.invokevirtual 209, 3) := by decide +kernel
theorem dL_stands_107 : decode cL_stands 107 = .ok (.if_icmp .ne 102, 3) := by decide +kernel
theorem dL_stands_110 : decode cL_stands 110 = .ok (.iload_n 2, 1) := by decide +kernel
theorem dL_stands_111 : decode cL_stands 111 = .ok (.bipush 6, 2) := by decide +kernel
theorem dL_stands_113 : decode cL_stands 113 = .ok (.if_icmp .gt 96, 3) := by decide +kernel
theorem dL_stands_116 : decode cL_stands 116 = .ok (.aload_n 0, 1) := by decide +kernel
theorem dL_stands_117 : decode cL_stands 117 = .ok (.invokevirtual 169, 3) := by decide +kernel
theorem dL_stands_120 : decode cL_stands 120 = .ok (.aload_n 0, 1) := by decide +kernel
theorem dL_stands_121 : decode cL_stands 121 = .ok (.invokevirtual 88, 3) := by decide +kernel
theorem dL_stands_124 : decode cL_stands 124 = .ok (.iconst 2, 1) := by decide +kernel
theorem dL_stands_125 : decode cL_stands 125 = .ok (.irem, 1) := by decide +kernel
theorem dL_stands_126 : decode cL_stands 126 = .ok (.if_icmp .ne 83, 3) := by decide +kernel
theorem dL_stands_129 : decode cL_stands 129 = .ok (.aload_n 0, 1) := by decide +kernel
theorem dL_stands_130 : decode cL_stands 130 = .ok (.invokevirtual 99, 3) := by decide +kernel
theorem dL_stands_133 : decode cL_stands 133 = .ok (.aload_n 0, 1) := by decide +kernel
theorem dL_stands_134 : decode cL_stands 134 = .ok (.invokevirtual 104, 3) := by decide +kernel
theorem dL_stands_137 : decode cL_stands 137 = .ok (.isub, 1) := by decide +kernel
theorem dL_stands_138 : decode cL_stands 138 = .ok (.aload_n 0, 1) := by decide +kernel
theorem dL_stands_139 : decode cL_stands 139 = .ok (.invokevirtual 109, 3) := by decide +kernel
theorem dL_stands_142 : decode cL_stands 142 = .ok (.isub, 1) := by decide +kernel
theorem dL_stands_143 : decode cL_stands 143 = .ok (.iload_n 1, 1) := by decide +kernel
theorem dL_stands_144 : decode cL_stands 144 = .ok (.if_icmp .ne 65, 3) := by decide +kernel
theorem dL_stands_147 : decode cL_stands 147 = .ok (.aload_n 0, 1) := by decide +kernel
theorem dL_stands_148 : decode cL_stands 148 = .ok (.invokevirtual 212, 3) := by decide +kernel
theorem dL_stands_151 : decode cL_stands 151 = .ok (.iload_n 1, 1) := by decide +kernel
theorem dL_stands_152 : decode cL_stands 152 = .ok (.ifCond .ne 7, 3) := by decide +kernel
theorem dL_stands_155 : decode cL_stands 155 = .ok (.fconst 0, 1) := by decide +kernel
theorem dL_stands_156 : decode cL_stands 156 = .ok (.goto 8, 3) := by decide +kernel
theorem dL_stands_159 : decode cL_stands 159 = .ok (.iload_n 3, 1) := by decide +kernel
theorem dL_stands_160 : decode cL_stands 160 = .ok (.i2f, 1) := by decide +kernel
theorem dL_stands_161 : decode cL_stands 161 = .ok (.iload_n 1, 1) := by decide +kernel
theorem dL_stands_162 : decode cL_stands 162 = .ok (.i2f, 1) := by decide +kernel
theorem dL_stands_163 : decode cL_stands 163 = .ok (.fdiv, 1) := by decide +kernel
theorem dL_stands_164 : decode cL_stands 164 = .ok (.fcmp .l, 1) := by decide +kernel
theorem dL_stands_165 : decode cL_stands 165 = .ok (.ifCond .ne 44, 3) := by decide +kernel
theorem dL_stands_168 : decode cL_stands 168 = .ok (.aload_n 0, 1) := by decide +kernel
theorem dL_stands_169 : decode cL_stands 169 = .ok (.invokevirtual 216, 3) := by decide +kernel
theorem dL_stands_172 : decode cL_stands 172 = .ok (.iload_n 1, 1) := by decide +kernel
theorem dL_stands_173 : decode cL_stands 173 = .ok (.i2d, 1) := by decide +kernel
theorem dL_stands_174 : decode cL_stands 174 = .ok (.aload_n 0, 1) := by decide +kernel
theorem dL_stands_175 : decode cL_stands 175 = .ok (.invokevirtual 112, 3) := by decide +kernel
theorem dL_stands_178 : decode cL_stands 178 = .ok (.i2d, 1) := by decide +kernel
theorem dL_stands_179 : decode cL_stands 179 = .ok (.ddiv, 1) := by decide +kernel
theorem dL_stands_180 : decode cL_stands 180 = .ok (.dcmp .l, 1) := by decide +kernel
theorem dL_stands_181 : decode cL_stands 181 = .ok (.ifCond .ne 28, 3) := by decide +kernel
theorem dL_stands_184 : decode cL_stands 184 = .ok (.aload_n 0, 1) := by decide +kernel
theorem dL_stands_185 : decode cL_stands 185 = .ok (.invokevirtual 220, 3) := by decide +kernel
theorem dL_stands_188 : decode cL_stands 188 = .ok (.ifCond .ne 21, 3) := by decide +kernel
theorem dL_stands_191 : decode cL_stands 191 = .ok (.aload_n 0, 1) := by decide +kernel
theorem dL_stands_192 : decode cL_stands 192 = .ok (.invokevirtual 223, 3) := by decide +kernel
theorem dL_stands_195 : decode cL_stands 195 = .ok (.ifCond .ne 14, 3) := by decide +kernel
theorem dL_stands_198 : decode cL_stands 198 = .ok (.aload_n 0, 1) := by decide +kernel
theorem dL_stands_199 : decode cL_stands 199 = .ok (.invokevirtual 226, 3) := by decide +kernel
theorem dL_stands_202 : decode cL_stands 202 = .ok (.ifCond .ne 7, 3) := by decide +kernel
theorem dL_stands_205 : decode cL_stands 205 = .ok (.iconst 1, 1) := by decide +kernel
theorem dL_stands_206 : decode cL_stands 206 = .ok (.goto 4, 3) := by decide +kernel
theorem dL_stands_209 : decode cL_stands 209 = .ok (.iconst 0, 1) := by decide +kernel
theorem dL_stands_210 : decode cL_stands 210 = .ok (.ireturn, 1) := by decide +kernel
def st_L_stands_9 (N : Nat) (l1 : Int32) (l2 : Int32) (l3 : Int32) (l4 : Int32) (S : Nat → Nat → HV) : Option ((Int32 × Int32 × Int32 × Int32) ⊕ ((Int32 × Int32 × Int32) ⊕ Bool)) := (if (F_X10_slotCount S) ≤ l4 then some (.inr (.inl (l1, l2, l3))) else (ob1 (F_L_isSlot N l4 S) fun v1 => (if v1 = true then (ob1 (okI (F_X10_letterAt l4 S)) fun v2 => (ob1 ((if v2 < 0 then some 0 else some 1) : Option Int32) fun v4 => (ob1 (okI (F_X10_nestDays l4 S)) fun v5 => (ob1 ((if v5 ≤ 0 then some 0 else some 1) : Option Int32) fun v7 => (ob1 (okI (F_X10_lengthAt l4 S)) fun v8 => some (.inl ((l1 + v4), (l2 + v7), (l3 + v8), (l4 + 1)))))))) else some (.inr (.inr false)))))
def F_L_stands (N : Nat)  (S : Nat → Nat → HV) : Option Bool := (om (lpN N (fun z => st_L_stands_9 N z.1 z.2.1 z.2.2.1 z.2.2.2 S) (0, 0, 0, 0)) (fun r => some r) (fun z : Int32 × Int32 × Int32 => match z with | (x10, x11, x12) => (ob1 (F_L_isGardener N 0 S) fun v13 => (if v13 = true then (ob1 (F_L_isGardener N 1 S) fun v14 => (if v14 = true then (ob1 (F_X10_twigCount N S) fun v15 => (if x10 = v15 then (ob1 (F_X10_nestCount N S) fun v16 => (if x11 = v16 then (if 6 < x11 then some false else (if (F_X10_activeGardener S) = ((F_X10_day S) - (F_X10_day S) / 2 * 2) then (if (((F_X10_twigsPlanted S) - (F_X10_twigsPruned S)) - (F_X10_twigsRemoved S)) = x10 then (ob1 (F_X10_meanLength N S) fun v17 => (ob1 ((if x10 = 0 then some FP.fconst0 else (if n32 (FP.fdiv (FP.i2f x12) (FP.i2f x10)) = true then some (FP.fdiv (FP.i2f x12) (FP.i2f x10)) else none)) : Option UInt32) fun v19 => (if (Op.cmpValue (FP.fcmp v17 v19) .l) = 0 then (ob1 (F_X10_occupancy N S) fun v21 => (if n64 (FP.ddiv (FP.i2d x10) (FP.i2d (F_X10_slotCount S))) = true then (if (Op.cmpValue (FP.dcmp v21 (FP.ddiv (FP.i2d x10) (FP.i2d (F_X10_slotCount S)))) .l) = 0 then (ob1 (F_X10_twigImbalance N S) fun v23 => (if v23 = 0 then (if (F_X10_messageImbalance S) = 0 then (ob1 (F_X10_wrongLetters N S) fun v24 => (if v24 = 0 then some true else some false)) else some false) else some false)) else some false) else none)) else some false))) else some false) else some false)) else some false)) else some false)) else some false)) else some false))))
theorem lq_L_stands_9 {w : WP} (hW : gW w) (hS : gS w) {Ω : OM} {S : Nat → Nat → HV} (e : Ω.1 = S)  {N : Nat} {X : CX} (C : gC w X cL_stands "HedgeMessagesLaw" (some .boolean) 11 5) {q : (Int32 × Int32 × Int32) ⊕ Bool} {u : Option Value × CT} : ∀ (n : Nat) (l1 : Int32) (l2 : Int32) (l3 : Int32) (l4 : Int32), lpN n (fun z : Int32 × Int32 × Int32 × Int32 => st_L_stands_9 N z.1 z.2.1 z.2.2.1 z.2.2.2 S) (l1, l2, l3, l4) = some q → (∀ a : Int32 × Int32 × Int32, q = .inl a → gU w X (qR w X u) (cA w Ω) 78 [(0, .ref (wAd w (7, 11, 6, 0))), (1, .int a.1), (2, .int a.2.1), (3, .int a.2.2)] []) → (∀ r, q = .inr r → qR w X u = qR w X ((some (.int (b2i r))), cA w Ω)) → gU w X (qR w X u) (cA w Ω) 9 [(0, .ref (wAd w (7, 11, 6, 0))), (1, .int l1), (2, .int l2), (3, .int l3), (4, .int l4)] [] := by
  intro n
  induction n with
  | zero => intro l1 l2 l3 l4 hL; exact lpN_0 hL
  | succ n ih =>
    intro l1 l2 l3 l4 hL kJ kR9
    replace ih := fun l1 l2 l3 l4 hL => ih l1 l2 l3 l4 hL kJ kR9
    obtain ⟨q9, hF, hL⟩ := lpN_e hL
    change st_L_stands_9 N l1 l2 l3 l4 S = some q9 at hF
    unfold st_L_stands_9 at hF
    refine r_iload C (k := 4) rfl dL_stands_9 ?_
    refine r_aload_n C (k := 0) rfl rfl dL_stands_11 ?_
    refine r_callV C (d' := 0) [] (c_X10_slotCount hW e rfl) myX10_slotCount wm5_8 ⟨_, _, _, _, (hW.ok k7), rfl, rfl, rfl, rfl⟩ rfl (kR rfl) (by decide) (kR rfl) rfl dL_stands_12 ?_
    refine r_icmp_ge C (tgt := 78) rfl dL_stands_15 (fun hc => ?_) (fun hc => ?_)
    · rw [if_pos hc] at hF
      cases hF
      change some _ = some _ at hL
      cases hL
      refine r_lo [0, 1, 2, 3] (lo' := [(0, .ref (wAd w (7, 11, 6, 0))), (1, .int l1), (2, .int l2), (3, .int l3)]) rfl ?_
      exact kJ _ rfl
    · rw [if_neg hc] at hF
      refine r_aload_n C (k := 0) rfl rfl dL_stands_18 ?_
      refine r_iload C (k := 4) rfl dL_stands_19 ?_
      obtain ⟨v1, hv1, hF⟩ := ob1_e hF
      refine r_callS C (d' := 10) [.ref (wAd w (7, 11, 6, 0)), .int l4] (c_L_isSlot hW hS e N l4 hv1) myL_isSlot wm5_85 rfl (kR rfl) (by decide) (kR rfl) rfl dL_stands_21 ?_
      refine r_if_ne C (tgt := 29) rfl dL_stands_24 (fun hc => ?_) (fun hc => ?_)
      · rw [if_pos (b2i_t hc)] at hF
        refine r_iload_n C (k := 1) rfl rfl dL_stands_29 ?_
        refine r_aload_n C (k := 0) rfl rfl dL_stands_30 ?_
        refine r_iload C (k := 4) rfl dL_stands_31 ?_
        obtain ⟨v2, hv2, hF⟩ := ob1_e hF
        refine r_callV C (d' := 7) [.int l4] (c_X10_letterAt hW hS e l4 (okI_e hv2)) myX10_letterAt wm5_12 ⟨_, _, _, _, (hW.ok k7), rfl, rfl, rfl, rfl⟩ rfl (kR rfl) (by decide) (kR rfl) rfl dL_stands_33 ?_
        obtain ⟨v4, hq3, hF⟩ := ob1_e hF
        have kq3 : ∀ a, v4 = a → gU w X (qR w X u) (cA w Ω) 44 [(0, .ref (wAd w (7, 11, 6, 0))), (2, .int l2), (3, .int l3), (4, .int l4)] (.int a :: [.int l1]) := by
          intro a ha
          subst ha
          refine r_iadd C dL_stands_44 ?_
          refine r_istore_n C (lo' := [(1, .int (l1 + v4)), (0, .ref (wAd w (7, 11, 6, 0))), (2, .int l2), (3, .int l3), (4, .int l4)]) rfl (by decide) rfl dL_stands_45 ?_
          refine r_iload_n C (k := 2) rfl rfl dL_stands_46 ?_
          refine r_aload_n C (k := 1) rfl rfl dL_stands_47 ?_
          refine r_iload C (k := 4) rfl dL_stands_48 ?_
          obtain ⟨v5, hv5, hF⟩ := ob1_e hF
          refine r_callV C (d' := 7) [.int l4] (c_X10_nestDays hW hS e l4 (okI_e hv5)) myX10_nestDays wm5_27 ⟨_, _, _, _, (hW.ok k7), rfl, rfl, rfl, rfl⟩ rfl (kR rfl) (by decide) (kR rfl) rfl dL_stands_50 ?_
          obtain ⟨v7, hq6, hF⟩ := ob1_e hF
          have kq6 : ∀ a, v7 = a → gU w X (qR w X u) (cA w Ω) 61 [(0, .ref (wAd w (7, 11, 6, 0))), (1, .int (l1 + v4)), (3, .int l3), (4, .int l4)] (.int a :: [.int l2]) := by
            intro a ha
            subst ha
            refine r_iadd C dL_stands_61 ?_
            refine r_istore_n C (lo' := [(2, .int (l2 + v7)), (0, .ref (wAd w (7, 11, 6, 0))), (1, .int (l1 + v4)), (3, .int l3), (4, .int l4)]) rfl (by decide) rfl dL_stands_62 ?_
            refine r_iload_n C (k := 3) rfl rfl dL_stands_63 ?_
            refine r_aload_n C (k := 1) rfl rfl dL_stands_64 ?_
            refine r_iload C (k := 4) rfl dL_stands_65 ?_
            obtain ⟨v8, hv8, hF⟩ := ob1_e hF
            refine r_callV C (d' := 7) [.int l4] (c_X10_lengthAt hW hS e l4 (okI_e hv8)) myX10_lengthAt wm5_23 ⟨_, _, _, _, (hW.ok k7), rfl, rfl, rfl, rfl⟩ rfl (kR rfl) (by decide) (kR rfl) rfl dL_stands_67 ?_
            refine r_iadd C dL_stands_70 ?_
            refine r_istore_n C (lo' := [(3, .int (l3 + v8)), (2, .int (l2 + v7)), (0, .ref (wAd w (7, 11, 6, 0))), (1, .int (l1 + v4)), (4, .int l4)]) rfl (by decide) rfl dL_stands_71 ?_
            refine r_iinc C (k := 4) (v := (l4 + 1)) (lo' := [(4, .int (l4 + 1)), (3, .int (l3 + v8)), (2, .int (l2 + v7)), (0, .ref (wAd w (7, 11, 6, 0))), (1, .int (l1 + v4))]) rfl rfl (by decide) rfl dL_stands_72 ?_
            refine r_goto C (tgt := 9) rfl dL_stands_75 ?_
            cases hF
            change lpN n _ _ = some _ at hL
            refine r_lo [3, 4, 2, 1, 0] (lo' := [(0, .ref (wAd w (7, 11, 6, 0))), (1, .int (l1 + v4)), (2, .int (l2 + v7)), (3, .int (l3 + v8)), (4, .int (l4 + 1))]) rfl ?_
            exact ih (l1 + v4) (l2 + v7) (l3 + v8) (l4 + 1) hL
          refine r_if_le C (tgt := 60) rfl dL_stands_53 (fun hc => ?_) (fun hc => ?_)
          · rw [if_pos hc] at hq6
            refine r_iconst C (v := 0) rfl dL_stands_60 ?_
            cases hq6
            refine r_lo [1, 0, 3, 4] (lo' := [(0, .ref (wAd w (7, 11, 6, 0))), (1, .int (l1 + v4)), (3, .int l3), (4, .int l4)]) rfl ?_
            exact kq6 _ rfl
          · rw [if_neg hc] at hq6
            refine r_iconst C (v := 1) rfl dL_stands_56 ?_
            refine r_goto C (tgt := 61) rfl dL_stands_57 ?_
            cases hq6
            refine r_lo [1, 0, 3, 4] (lo' := [(0, .ref (wAd w (7, 11, 6, 0))), (1, .int (l1 + v4)), (3, .int l3), (4, .int l4)]) rfl ?_
            exact kq6 _ rfl
        refine r_if_lt C (tgt := 43) rfl dL_stands_36 (fun hc => ?_) (fun hc => ?_)
        · rw [if_pos hc] at hq3
          refine r_iconst C (v := 0) rfl dL_stands_43 ?_
          cases hq3
          refine r_lo [0, 2, 3, 4] (lo' := [(0, .ref (wAd w (7, 11, 6, 0))), (2, .int l2), (3, .int l3), (4, .int l4)]) rfl ?_
          exact kq3 _ rfl
        · rw [if_neg hc] at hq3
          refine r_iconst C (v := 1) rfl dL_stands_39 ?_
          refine r_goto C (tgt := 44) rfl dL_stands_40 ?_
          cases hq3
          refine r_lo [0, 2, 3, 4] (lo' := [(0, .ref (wAd w (7, 11, 6, 0))), (2, .int l2), (3, .int l3), (4, .int l4)]) rfl ?_
          exact kq3 _ rfl
      · rw [if_neg (b2i_f hc)] at hF
        refine r_iconst C (v := 0) rfl dL_stands_27 ?_
        cases hF
        change some _ = some _ at hL
        cases hL
        rw [kR9 _ rfl]
        exact r_zreturn C false rfl dL_stands_28
theorem c_L_stands {w : WP} (hW : gW w) (hS : gS w) {Ω : OM} {S : Nat → Nat → HV} (e : Ω.1 = S) (N : Nat)  {v : Bool} (hF : F_L_stands N S = some v) : gM w 11 yL_stands cL_stands 5 (some .boolean) [.ref (wAd w (7, 11, 6, 0))] (cA w Ω) (some (.int (b2i v))) (cA w Ω) := by
  refine gM_of "HedgeMessagesLaw" rfl (by decide) (kR rfl) fun X C => ?_
  unfold F_L_stands at hF
  show gU w X (qR w X ((some (.int (b2i v))), cA w Ω)) (cA w Ω) 0 [(0, .ref (wAd w (7, 11, 6, 0)))] []
  refine r_iconst C (v := 0) rfl dL_stands_0 ?_
  refine r_istore_n C (lo' := [(1, .int 0), (0, .ref (wAd w (7, 11, 6, 0)))]) rfl (by decide) rfl dL_stands_1 ?_
  refine r_iconst C (v := 0) rfl dL_stands_2 ?_
  refine r_istore_n C (lo' := [(2, .int 0), (1, .int 0), (0, .ref (wAd w (7, 11, 6, 0)))]) rfl (by decide) rfl dL_stands_3 ?_
  refine r_iconst C (v := 0) rfl dL_stands_4 ?_
  refine r_istore_n C (lo' := [(3, .int 0), (2, .int 0), (1, .int 0), (0, .ref (wAd w (7, 11, 6, 0)))]) rfl (by decide) rfl dL_stands_5 ?_
  refine r_iconst C (v := 0) rfl dL_stands_6 ?_
  refine r_istore C (lo' := [(4, .int 0), (3, .int 0), (2, .int 0), (1, .int 0), (0, .ref (wAd w (7, 11, 6, 0)))]) (by decide) rfl dL_stands_7 ?_
  obtain ⟨q9, hq9, hF⟩ := om_e hF
  have kq9 : ∀ a : Int32 × Int32 × Int32, q9 = .inl a → gU w X (qR w X ((some (.int (b2i v))), cA w Ω)) (cA w Ω) 78 [(0, .ref (wAd w (7, 11, 6, 0))), (1, .int a.1), (2, .int a.2.1), (3, .int a.2.2)] [] := by
    rintro ⟨x10, x11, x12⟩ ha
    subst ha
    dsimp only [Sum.elim_inl] at hF
    refine r_aload_n C (k := 0) rfl rfl dL_stands_78 ?_
    refine r_iconst C (v := 0) rfl dL_stands_79 ?_
    obtain ⟨v13, hv13, hF⟩ := ob1_e hF
    refine r_callS C (d' := 8) [.ref (wAd w (7, 11, 6, 0)), .int 0] (c_L_isGardener hW hS e N 0 hv13) myL_isGardener wm5_130 rfl (kR rfl) (by decide) (kR rfl) rfl dL_stands_80 ?_
    refine r_if_eq C (tgt := 209) rfl dL_stands_83 (fun hc => ?_) (fun hc => ?_)
    · rw [if_neg (b2i_f hc)] at hF
      refine r_iconst C (v := 0) rfl dL_stands_209 ?_
      cases hF
      exact r_zreturn C false rfl dL_stands_210
    · rw [if_pos (b2i_t hc)] at hF
      refine r_aload_n C (k := 0) rfl rfl dL_stands_86 ?_
      refine r_iconst C (v := 1) rfl dL_stands_87 ?_
      obtain ⟨v14, hv14, hF⟩ := ob1_e hF
      refine r_callS C (d' := 8) [.ref (wAd w (7, 11, 6, 0)), .int 1] (c_L_isGardener hW hS e N 1 hv14) myL_isGardener wm5_130 rfl (kR rfl) (by decide) (kR rfl) rfl dL_stands_88 ?_
      refine r_if_eq C (tgt := 209) rfl dL_stands_91 (fun hc => ?_) (fun hc => ?_)
      · rw [if_neg (b2i_f hc)] at hF
        refine r_iconst C (v := 0) rfl dL_stands_209 ?_
        cases hF
        exact r_zreturn C false rfl dL_stands_210
      · rw [if_pos (b2i_t hc)] at hF
        refine r_iload_n C (k := 1) rfl rfl dL_stands_94 ?_
        refine r_aload_n C (k := 0) rfl rfl dL_stands_95 ?_
        obtain ⟨v15, hv15, hF⟩ := ob1_e hF
        refine r_callV C (d' := 2) [] (c_X10_twigCount hW e N hv15) myX10_twigCount wm5_146 ⟨_, _, _, _, (hW.ok k7), rfl, rfl, rfl, rfl⟩ rfl (kR rfl) (by decide) (kR rfl) rfl dL_stands_96 ?_
        refine r_icmp_ne C (tgt := 209) rfl dL_stands_99 (fun hc => ?_) (fun hc => ?_)
        · rw [if_neg hc] at hF
          refine r_iconst C (v := 0) rfl dL_stands_209 ?_
          cases hF
          exact r_zreturn C false rfl dL_stands_210
        · rw [if_pos hc] at hF
          refine r_iload_n C (k := 2) rfl rfl dL_stands_102 ?_
          refine r_aload_n C (k := 0) rfl rfl dL_stands_103 ?_
          obtain ⟨v16, hv16, hF⟩ := ob1_e hF
          refine r_callV C (d' := 2) [] (c_X10_nestCount hW e N hv16) myX10_nestCount wm5_150 ⟨_, _, _, _, (hW.ok k7), rfl, rfl, rfl, rfl⟩ rfl (kR rfl) (by decide) (kR rfl) rfl dL_stands_104 ?_
          refine r_icmp_ne C (tgt := 209) rfl dL_stands_107 (fun hc => ?_) (fun hc => ?_)
          · rw [if_neg hc] at hF
            refine r_iconst C (v := 0) rfl dL_stands_209 ?_
            cases hF
            exact r_zreturn C false rfl dL_stands_210
          · rw [if_pos hc] at hF
            refine r_iload_n C (k := 2) rfl rfl dL_stands_110 ?_
            refine r_bipush C (v := 6) rfl dL_stands_111 ?_
            refine r_icmp_gt C (tgt := 209) rfl dL_stands_113 (fun hc => ?_) (fun hc => ?_)
            · rw [if_pos hc] at hF
              refine r_iconst C (v := 0) rfl dL_stands_209 ?_
              cases hF
              exact r_zreturn C false rfl dL_stands_210
            · rw [if_neg hc] at hF
              refine r_aload_n C (k := 0) rfl rfl dL_stands_116 ?_
              refine r_callV C (d' := 1) [] (c_X10_activeGardener hW e rfl) myX10_activeGardener wm5_88 ⟨_, _, _, _, (hW.ok k7), rfl, rfl, rfl, rfl⟩ rfl (kR rfl) (by decide) (kR rfl) rfl dL_stands_117 ?_
              refine r_aload_n C (k := 0) rfl rfl dL_stands_120 ?_
              refine r_callV C (d' := 0) [] (c_X10_day hW e rfl) myX10_day wm2_187 ⟨_, _, _, _, (hW.ok k7), rfl, rfl, rfl, rfl⟩ rfl (kR rfl) (by decide) (kR rfl) rfl dL_stands_121 ?_
              refine r_iconst C (v := 2) rfl dL_stands_124 ?_
              refine r_irem C (by decide) dL_stands_125 ?_
              refine r_icmp_ne C (tgt := 209) rfl dL_stands_126 (fun hc => ?_) (fun hc => ?_)
              · rw [if_neg hc] at hF
                refine r_iconst C (v := 0) rfl dL_stands_209 ?_
                cases hF
                exact r_zreturn C false rfl dL_stands_210
              · rw [if_pos hc] at hF
                refine r_aload_n C (k := 0) rfl rfl dL_stands_129 ?_
                refine r_callV C (d' := 0) [] (c_X10_twigsPlanted hW e rfl) myX10_twigsPlanted wm4_234 ⟨_, _, _, _, (hW.ok k7), rfl, rfl, rfl, rfl⟩ rfl (kR rfl) (by decide) (kR rfl) rfl dL_stands_130 ?_
                refine r_aload_n C (k := 0) rfl rfl dL_stands_133 ?_
                refine r_callV C (d' := 0) [] (c_X10_twigsPruned hW e rfl) myX10_twigsPruned wm4_239 ⟨_, _, _, _, (hW.ok k7), rfl, rfl, rfl, rfl⟩ rfl (kR rfl) (by decide) (kR rfl) rfl dL_stands_134 ?_
                refine r_isub C dL_stands_137 ?_
                refine r_aload_n C (k := 0) rfl rfl dL_stands_138 ?_
                refine r_callV C (d' := 0) [] (c_X10_twigsRemoved hW e rfl) myX10_twigsRemoved wm5_4 ⟨_, _, _, _, (hW.ok k7), rfl, rfl, rfl, rfl⟩ rfl (kR rfl) (by decide) (kR rfl) rfl dL_stands_139 ?_
                refine r_isub C dL_stands_142 ?_
                refine r_iload_n C (k := 1) rfl rfl dL_stands_143 ?_
                refine r_icmp_ne C (tgt := 209) rfl dL_stands_144 (fun hc => ?_) (fun hc => ?_)
                · rw [if_neg hc] at hF
                  refine r_iconst C (v := 0) rfl dL_stands_209 ?_
                  cases hF
                  exact r_zreturn C false rfl dL_stands_210
                · rw [if_pos hc] at hF
                  refine r_aload_n C (k := 0) rfl rfl dL_stands_147 ?_
                  obtain ⟨v17, hv17, hF⟩ := ob1_e hF
                  refine r_callV C (d' := 2) [] (c_X10_meanLength hW e N hv17) myX10_meanLength wm5_154 ⟨_, _, _, _, (hW.ok k7), rfl, rfl, rfl, rfl⟩ rfl (kR rfl) (by decide) (kR rfl) rfl dL_stands_148 ?_
                  refine r_iload_n C (k := 1) rfl rfl dL_stands_151 ?_
                  obtain ⟨v19, hq18, hF⟩ := ob1_e hF
                  have kq18 : ∀ a, v19 = a → gU w X (qR w X ((some (.int (b2i v))), cA w Ω)) (cA w Ω) 164 [(0, .ref (wAd w (7, 11, 6, 0))), (1, .int x10)] (.float a :: [.float v17]) := by
                    intro a ha
                    subst ha
                    refine r_fcmp C (v := (Op.cmpValue (FP.fcmp v17 v19) .l)) rfl dL_stands_164 ?_
                    refine r_if_ne C (tgt := 209) rfl dL_stands_165 (fun hc => ?_) (fun hc => ?_)
                    · rw [if_neg hc] at hF
                      refine r_iconst C (v := 0) rfl dL_stands_209 ?_
                      cases hF
                      exact r_zreturn C false rfl dL_stands_210
                    · rw [if_pos hc] at hF
                      refine r_aload_n C (k := 0) rfl rfl dL_stands_168 ?_
                      obtain ⟨v21, hv21, hF⟩ := ob1_e hF
                      refine r_callV C (d' := 2) [] (c_X10_occupancy hW e N hv21) myX10_occupancy wm5_162 ⟨_, _, _, _, (hW.ok k7), rfl, rfl, rfl, rfl⟩ rfl (kR rfl) (by decide) (kR rfl) rfl dL_stands_169 ?_
                      refine r_iload_n C (k := 1) rfl rfl dL_stands_172 ?_
                      refine r_i2d C dL_stands_173 ?_
                      refine r_aload_n C (k := 0) rfl rfl dL_stands_174 ?_
                      refine r_callV C (d' := 0) [] (c_X10_slotCount hW e rfl) myX10_slotCount wm5_8 ⟨_, _, _, _, (hW.ok k7), rfl, rfl, rfl, rfl⟩ rfl (kR rfl) (by decide) (kR rfl) rfl dL_stands_175 ?_
                      refine r_i2d C dL_stands_178 ?_
                      obtain ⟨b22, hF⟩ := gd_e hF
                      refine r_ddiv C b22 dL_stands_179 ?_
                      refine r_dcmp C (v := (Op.cmpValue (FP.dcmp v21 (FP.ddiv (FP.i2d x10) (FP.i2d (F_X10_slotCount S)))) .l)) rfl dL_stands_180 ?_
                      refine r_if_ne C (tgt := 209) rfl dL_stands_181 (fun hc => ?_) (fun hc => ?_)
                      · rw [if_neg hc] at hF
                        refine r_iconst C (v := 0) rfl dL_stands_209 ?_
                        cases hF
                        exact r_zreturn C false rfl dL_stands_210
                      · rw [if_pos hc] at hF
                        refine r_aload_n C (k := 0) rfl rfl dL_stands_184 ?_
                        obtain ⟨v23, hv23, hF⟩ := ob1_e hF
                        refine r_callV C (d' := 2) [] (c_X10_twigImbalance hW e N hv23) myX10_twigImbalance wm5_166 ⟨_, _, _, _, (hW.ok k7), rfl, rfl, rfl, rfl⟩ rfl (kR rfl) (by decide) (kR rfl) rfl dL_stands_185 ?_
                        refine r_if_ne C (tgt := 209) rfl dL_stands_188 (fun hc => ?_) (fun hc => ?_)
                        · rw [if_neg hc] at hF
                          refine r_iconst C (v := 0) rfl dL_stands_209 ?_
                          cases hF
                          exact r_zreturn C false rfl dL_stands_210
                        · rw [if_pos hc] at hF
                          refine r_aload_n C (k := 0) rfl rfl dL_stands_191 ?_
                          refine r_callV C (d' := 2) [] (c_X10_messageImbalance hW e rfl) myX10_messageImbalance wm5_170 ⟨_, _, _, _, (hW.ok k7), rfl, rfl, rfl, rfl⟩ rfl (kR rfl) (by decide) (kR rfl) rfl dL_stands_192 ?_
                          refine r_if_ne C (tgt := 209) rfl dL_stands_195 (fun hc => ?_) (fun hc => ?_)
                          · rw [if_neg hc] at hF
                            refine r_iconst C (v := 0) rfl dL_stands_209 ?_
                            cases hF
                            exact r_zreturn C false rfl dL_stands_210
                          · rw [if_pos hc] at hF
                            refine r_aload_n C (k := 0) rfl rfl dL_stands_198 ?_
                            obtain ⟨v24, hv24, hF⟩ := ob1_e hF
                            refine r_callV C (d' := 4) [] (c_X10_wrongLetters hW e N hv24) myX10_wrongLetters wm5_179 ⟨_, _, _, _, (hW.ok k7), rfl, rfl, rfl, rfl⟩ rfl (kR rfl) (by decide) (kR rfl) rfl dL_stands_199 ?_
                            refine r_if_ne C (tgt := 209) rfl dL_stands_202 (fun hc => ?_) (fun hc => ?_)
                            · rw [if_neg hc] at hF
                              refine r_iconst C (v := 0) rfl dL_stands_209 ?_
                              cases hF
                              exact r_zreturn C false rfl dL_stands_210
                            · rw [if_pos hc] at hF
                              refine r_iconst C (v := 1) rfl dL_stands_205 ?_
                              refine r_goto C (tgt := 210) rfl dL_stands_206 ?_
                              cases hF
                              exact r_zreturn C true rfl dL_stands_210
                  refine r_if_ne C (tgt := 159) rfl dL_stands_152 (fun hc => ?_) (fun hc => ?_)
                  · rw [if_neg hc] at hq18
                    refine r_iload_n C (k := 3) rfl rfl dL_stands_159 ?_
                    refine r_i2f C dL_stands_160 ?_
                    refine r_iload_n C (k := 1) rfl rfl dL_stands_161 ?_
                    refine r_i2f C dL_stands_162 ?_
                    obtain ⟨b20, hq18⟩ := gd_e hq18
                    refine r_fdiv C b20 dL_stands_163 ?_
                    cases hq18
                    refine r_lo [0, 1] (lo' := [(0, .ref (wAd w (7, 11, 6, 0))), (1, .int x10)]) rfl ?_
                    exact kq18 _ rfl
                  · rw [if_pos hc] at hq18
                    refine r_fconst C dL_stands_155 ?_
                    refine r_goto C (tgt := 164) rfl dL_stands_156 ?_
                    cases hq18
                    refine r_lo [0, 1] (lo' := [(0, .ref (wAd w (7, 11, 6, 0))), (1, .int x10)]) rfl ?_
                    exact kq18 _ rfl
  refine r_lo [4, 3, 2, 1, 0] (lo' := [(0, .ref (wAd w (7, 11, 6, 0))), (1, .int 0), (2, .int 0), (3, .int 0), (4, .int 0)]) rfl ?_
  refine lq_L_stands_9 hW hS e C N 0 0 0 0 hq9 kq9 ?_
  intro r hr
  subst hr
  change some _ = some _ at hF
  cases hF
  rfl
theorem dL_sum_0 : decode cL_sum 0 = .ok (.ldc2_w 86, 3) := by decide +kernel
theorem dL_sum_3 : decode cL_sum 3 = .ok (.aload_n 0, 1) := by decide +kernel
theorem dL_sum_4 : decode cL_sum 4 = .ok (.invokevirtual 88, 3) := by decide +kernel
theorem dL_sum_7 : decode cL_sum 7 = .ok (.i2l, 1) := by decide +kernel
theorem dL_sum_8 : decode cL_sum 8 = .ok (.lmul, 1) := by decide +kernel
theorem dL_sum_9 : decode cL_sum 9 = .ok (.aload_n 0, 1) := by decide +kernel
theorem dL_sum_10 : decode cL_sum 10 = .ok (.invokevirtual 91, 3) := by decide +kernel
theorem dL_sum_13 : decode cL_sum 13 = .ok (.i2l, 1) := by decide +kernel
theorem dL_sum_14 : decode cL_sum 14 = .ok (.ladd, 1) := by decide +kernel
theorem dL_sum_15 : decode cL_sum 15 = .ok (.lstore_n 1, 1) := by decide +kernel
theorem dL_sum_16 : decode cL_sum 16 = .ok (.ldc2_w 86, 3) := by decide +kernel
theorem dL_sum_19 : decode cL_sum 19 = .ok (.lload_n 1, 1) := by decide +kernel
theorem dL_sum_20 : decode cL_sum 20 = .ok (.lmul, 1) := by decide +kernel
theorem dL_sum_21 : decode cL_sum 21 = .ok (.aload_n 0, 1) := by decide +kernel
theorem dL_sum_22 : decode cL_sum 22 = .ok (.invokevirtual 94, 3) := by decide +kernel
theorem dL_sum_25 : decode cL_sum 25 = .ok (.i2l, 1) := by decide +kernel
theorem dL_sum_26 : decode cL_sum 26 = .ok (.ladd, 1) := by decide +kernel
theorem dL_sum_27 : decode cL_sum 27 = .ok (.ldc2_w 97, 3) := by decide +kernel
theorem dL_sum_30 : decode cL_sum 30 = .ok (.aload_n 0, 1) := by decide +kernel
theorem dL_sum_31 : decode cL_sum 31 = .ok (.invokevirtual 99, 3) := by decide +kernel
theorem dL_sum_34 : decode cL_sum 34 = .ok (.i2l, 1) := by decide +kernel
theorem dL_sum_35 : decode cL_sum 35 = .ok (.lmul, 1) := by decide +kernel
theorem dL_sum_36 : decode cL_sum 36 = .ok (.ladd, 1) := by decide +kernel
theorem dL_sum_37 : decode cL_sum 37 = .ok (.ldc2_w 102, 3) := by decide +kernel
theorem dL_sum_40 : decode cL_sum 40 = .ok (.aload_n 0, 1) := by decide +kernel
theorem dL_sum_41 : decode cL_sum 41 = .ok (.invokevirtual 104, 3) := by decide +kernel
theorem dL_sum_44 : decode cL_sum 44 = .ok (.i2l, 1) := by decide +kernel
theorem dL_sum_45 : decode cL_sum 45 = .ok (.lmul, 1) := by decide +kernel
theorem dL_sum_46 : decode cL_sum 46 = .ok (.ladd, 1) := by decide +kernel
theorem dL_sum_47 : decode cL_sum 47 = .ok (.ldc2_w 107, 3) := by decide +kernel
theorem dL_sum_50 : decode cL_sum 50 = .ok (.aload_n 0, 1) := by decide +kernel
theorem dL_sum_51 : decode cL_sum 51 = .ok (.invokevirtual 109, 3) := by decide +kernel
theorem dL_sum_54 : decode cL_sum 54 = .ok (.i2l, 1) := by decide +kernel
theorem dL_sum_55 : decode cL_sum 55 = .ok (.lmul, 1) := by decide +kernel
theorem dL_sum_56 : decode cL_sum 56 = .ok (.ladd, 1) := by decide +kernel
theorem dL_sum_57 : decode cL_sum 57 = .ok (.lstore_n 1, 1) := by decide +kernel
theorem dL_sum_58 : decode cL_sum 58 = .ok (.iconst 0, 1) := by decide +kernel
theorem dL_sum_59 : decode cL_sum 59 = .ok (.istore_n 3, 1) := by decide +kernel
theorem dL_sum_60 : decode cL_sum 60 = .ok (.iload_n 3, 1) := by decide +kernel
theorem dL_sum_61 : decode cL_sum 61 = .ok (.aload_n 0, 1) := by decide +kernel
theorem dL_sum_62 : decode cL_sum 62 = .ok (.invokevirtual 112, 3) := by decide +kernel
theorem dL_sum_65 : decode cL_sum 65 = .ok (.if_icmp .ge 71, 3) := by decide +kernel
theorem dL_sum_68 : decode cL_sum 68 = .ok (.ldc2_w 86, 3) := by decide +kernel
theorem dL_sum_71 : decode cL_sum 71 = .ok (.lload_n 1, 1) := by decide +kernel
theorem dL_sum_72 : decode cL_sum 72 = .ok (.lmul, 1) := by decide +kernel
theorem dL_sum_73 : decode cL_sum 73 = .ok (.aload_n 0, 1) := by decide +kernel
theorem dL_sum_74 : decode cL_sum 74 = .ok (.iload_n 3, 1) := by decide +kernel
theorem dL_sum_75 : decode cL_sum 75 = .ok (.invokevirtual 115, 3) := by decide +kernel
theorem dL_sum_78 : decode cL_sum 78 = .ok (.i2l, 1) := by decide +kernel
theorem dL_sum_79 : decode cL_sum 79 = .ok (.ladd, 1) := by decide +kernel
theorem dL_sum_80 : decode cL_sum 80 = .ok (.ldc2_w 118, 3) := by decide +kernel
theorem dL_sum_83 : decode cL_sum 83 = .ok (.aload_n 0, 1) := by decide +kernel
theorem dL_sum_84 : decode cL_sum 84 = .ok (.iload_n 3, 1) := by decide +kernel
theorem dL_sum_85 : decode cL_sum 85 = .ok (.invokevirtual 120, 3) := by decide +kernel
theorem dL_sum_88 : decode cL_sum 88 = .ok (.i2l, 1) := by decide +kernel
theorem dL_sum_89 : decode cL_sum 89 = .ok (.lmul, 1) := by decide +kernel
theorem dL_sum_90 : decode cL_sum 90 = .ok (.ladd, 1) := by decide +kernel
theorem dL_sum_91 : decode cL_sum 91 = .ok (.ldc2_w 123, 3) := by decide +kernel
theorem dL_sum_94 : decode cL_sum 94 = .ok (.aload_n 0, 1) := by decide +kernel
theorem dL_sum_95 : decode cL_sum 95 = .ok (.iload_n 3, 1) := by decide +kernel
theorem dL_sum_96 : decode cL_sum 96 = .ok (.invokevirtual 125, 3) := by decide +kernel
theorem dL_sum_99 : decode cL_sum 99 = .ok (.i2l, 1) := by decide +kernel
theorem dL_sum_100 : decode cL_sum 100 = .ok (.lmul, 1) := by decide +kernel
theorem dL_sum_101 : decode cL_sum 101 = .ok (.ladd, 1) := by decide +kernel
theorem dL_sum_102 : decode cL_sum 102 = .ok (.ldc2_w 97, 3) := by decide +kernel
theorem dL_sum_105 : decode cL_sum 105 = .ok (.aload_n 0, 1) := by decide +kernel
theorem dL_sum_106 : decode cL_sum 106 = .ok (.iload_n 3, 1) := by decide +kernel
theorem dL_sum_107 : decode cL_sum 107 = .ok (.invokevirtual 128, 3) := by decide +kernel
theorem dL_sum_110 : decode cL_sum 110 = .ok (.i2l, 1) := by decide +kernel
theorem dL_sum_111 : decode cL_sum 111 = .ok (.lmul, 1) := by decide +kernel
theorem dL_sum_112 : decode cL_sum 112 = .ok (.ladd, 1) := by decide +kernel
theorem dL_sum_113 : decode cL_sum 113 = .ok (.aload_n 0, 1) := by decide +kernel
theorem dL_sum_114 : decode cL_sum 114 = .ok (.iload_n 3, 1) := by decide +kernel
theorem dL_sum_115 : decode cL_sum 115 = .ok (.invokevirtual 131, 3) := by decide +kernel
theorem dL_sum_118 : decode cL_sum 118 = .ok (.ifCond .eq 9, 3) := by decide +kernel
theorem dL_sum_121 : decode cL_sum 121 = .ok (.ldc2_w 102, 3) := by decide +kernel
theorem dL_sum_124 : decode cL_sum 124 = .ok (.goto 4, 3) := by decide +kernel
theorem dL_sum_127 : decode cL_sum 127 = .ok (.lconst 0, 1) := by decide +kernel
theorem dL_sum_128 : decode cL_sum 128 = .ok (.ladd, 1) := by decide +kernel
theorem dL_sum_129 : decode cL_sum 129 = .ok (.lstore_n 1, 1) := by decide +kernel
theorem dL_sum_130 : decode cL_sum 130 = .ok (.iinc 3 1, 3) := by decide +kernel
theorem dL_sum_133 : decode cL_sum 133 = .ok (.goto (-73), 3) := by decide +kernel
theorem dL_sum_136 : decode cL_sum 136 = .ok (.iconst 0, 1) := by decide +kernel
theorem dL_sum_137 : decode cL_sum 137 = .ok (.istore_n 3, 1) := by decide +kernel
theorem dL_sum_138 : decode cL_sum 138 = .ok (.iload_n 3, 1) := by decide +kernel
theorem dL_sum_139 : decode cL_sum 139 = .ok (.iconst 2, 1) := by decide +kernel
theorem dL_sum_140 : decode cL_sum 140 = .ok (.if_icmp .ge 153, 3) := by decide +kernel
theorem dL_sum_143 : decode cL_sum 143 = .ok (.ldc2_w 86, 3) := by decide +kernel
theorem dL_sum_146 : decode cL_sum 146 = .ok (.lload_n 1, 1) := by decide +kernel
theorem dL_sum_147 : decode cL_sum 147 = .ok (.lmul, 1) := by decide +kernel
theorem dL_sum_148 : decode cL_sum 148 = .ok (.aload_n 0, 1) := by decide +kernel
theorem dL_sum_149 : decode cL_sum 149 = .ok (.iload_n 3, 1) := by decide +kernel
theorem dL_sum_150 : decode cL_sum 150 = .ok (.invokevirtual 135, 3) := by decide +kernel
theorem dL_sum_153 : decode cL_sum 153 = .ok (.i2l, 1) := by decide +kernel
theorem dL_sum_154 : decode cL_sum 154 = .ok (.ladd, 1) := by decide +kernel
theorem dL_sum_155 : decode cL_sum 155 = .ok (.ldc2_w 118, 3) := by decide +kernel
theorem dL_sum_158 : decode cL_sum 158 = .ok (.aload_n 0, 1) := by decide +kernel
theorem dL_sum_159 : decode cL_sum 159 = .ok (.iload_n 3, 1) := by decide +kernel
theorem dL_sum_160 : decode cL_sum 160 = .ok (.invokevirtual 138, 3) := by decide +kernel
theorem dL_sum_163 : decode cL_sum 163 = .ok (.i2l, 1) := by decide +kernel
theorem dL_sum_164 : decode cL_sum 164 = .ok (.lmul, 1) := by decide +kernel
theorem dL_sum_165 : decode cL_sum 165 = .ok (.ladd, 1) := by decide +kernel
theorem dL_sum_166 : decode cL_sum 166 = .ok (.ldc2_w 123, 3) := by decide +kernel
theorem dL_sum_169 : decode cL_sum 169 = .ok (.aload_n 0, 1) := by decide +kernel
theorem dL_sum_170 : decode cL_sum 170 = .ok (.iload_n 3, 1) := by decide +kernel
theorem dL_sum_171 : decode cL_sum 171 = .ok (.invokevirtual 141, 3) := by decide +kernel
theorem dL_sum_174 : decode cL_sum 174 = .ok (.i2l, 1) := by decide +kernel
theorem dL_sum_175 : decode cL_sum 175 = .ok (.lmul, 1) := by decide +kernel
theorem dL_sum_176 : decode cL_sum 176 = .ok (.ladd, 1) := by decide +kernel
theorem dL_sum_177 : decode cL_sum 177 = .ok (.ldc2_w 97, 3) := by decide +kernel
theorem dL_sum_180 : decode cL_sum 180 = .ok (.aload_n 0, 1) := by decide +kernel
theorem dL_sum_181 : decode cL_sum 181 = .ok (.iload_n 3, 1) := by decide +kernel
theorem dL_sum_182 : decode cL_sum 182 = .ok (.invokevirtual 144, 3) := by decide +kernel
theorem dL_sum_185 : decode cL_sum 185 = .ok (.i2l, 1) := by decide +kernel
theorem dL_sum_186 : decode cL_sum 186 = .ok (.lmul, 1) := by decide +kernel
theorem dL_sum_187 : decode cL_sum 187 = .ok (.ladd, 1) := by decide +kernel
theorem dL_sum_188 : decode cL_sum 188 = .ok (.lstore_n 1, 1) := by decide +kernel
theorem dL_sum_189 : decode cL_sum 189 = .ok (.ldc2_w 86, 3) := by decide +kernel
theorem dL_sum_192 : decode cL_sum 192 = .ok (.lload_n 1, 1) := by decide +kernel
theorem dL_sum_193 : decode cL_sum 193 = .ok (.lmul, 1) := by decide +kernel
theorem dL_sum_194 : decode cL_sum 194 = .ok (.aload_n 0, 1) := by decide +kernel
theorem dL_sum_195 : decode cL_sum 195 = .ok (.iload_n 3, 1) := by decide +kernel
theorem dL_sum_196 : decode cL_sum 196 = .ok (.invokevirtual 147, 3) := by decide +kernel
theorem dL_sum_199 : decode cL_sum 199 = .ok (.i2l, 1) := by decide +kernel
theorem dL_sum_200 : decode cL_sum 200 = .ok (.ladd, 1) := by decide +kernel
theorem dL_sum_201 : decode cL_sum 201 = .ok (.ldc2_w 118, 3) := by decide +kernel
theorem dL_sum_204 : decode cL_sum 204 = .ok (.aload_n 0, 1) := by decide +kernel
theorem dL_sum_205 : decode cL_sum 205 = .ok (.iload_n 3, 1) := by decide +kernel
theorem dL_sum_206 : decode cL_sum 206 = .ok (.invokevirtual 150, 3) := by decide +kernel
theorem dL_sum_209 : decode cL_sum 209 = .ok (.i2l, 1) := by decide +kernel
theorem dL_sum_210 : decode cL_sum 210 = .ok (.lmul, 1) := by decide +kernel
theorem dL_sum_211 : decode cL_sum 211 = .ok (.ladd, 1) := by decide +kernel
theorem dL_sum_212 : decode cL_sum 212 = .ok (.ldc2_w 123, 3) := by decide +kernel
theorem dL_sum_215 : decode cL_sum 215 = .ok (.aload_n 0, 1) := by decide +kernel
theorem dL_sum_216 : decode cL_sum 216 = .ok (.iload_n 3, 1) := by decide +kernel
theorem dL_sum_217 : decode cL_sum 217 = .ok (.invokevirtual 153, 3) := by decide +kernel
theorem dL_sum_220 : decode cL_sum 220 = .ok (.i2l, 1) := by decide +kernel
theorem dL_sum_221 : decode cL_sum 221 = .ok (.lmul, 1) := by decide +kernel
theorem dL_sum_222 : decode cL_sum 222 = .ok (.ladd, 1) := by decide +kernel
theorem dL_sum_223 : decode cL_sum 223 = .ok (.ldc2_w 97, 3) := by decide +kernel
theorem dL_sum_226 : decode cL_sum 226 = .ok (.aload_n 0, 1) := by decide +kernel
theorem dL_sum_227 : decode cL_sum 227 = .ok (.iload_n 3, 1) := by decide +kernel
theorem dL_sum_228 : decode cL_sum 228 = .ok (.invokevirtual 156, 3) := by decide +kernel
theorem dL_sum_231 : decode cL_sum 231 = .ok (.i2l, 1) := by decide +kernel
theorem dL_sum_232 : decode cL_sum 232 = .ok (.lmul, 1) := by decide +kernel
theorem dL_sum_233 : decode cL_sum 233 = .ok (.ladd, 1) := by decide +kernel
theorem dL_sum_234 : decode cL_sum 234 = .ok (.lstore_n 1, 1) := by decide +kernel
theorem dL_sum_235 : decode cL_sum 235 = .ok (.iconst 0, 1) := by decide +kernel
theorem dL_sum_236 : decode cL_sum 236 = .ok (.istore 4, 2) := by decide +kernel
theorem dL_sum_238 : decode cL_sum 238 = .ok (.iload 4, 2) := by decide +kernel
theorem dL_sum_240 : decode cL_sum 240 = .ok (.aload_n 0, 1) := by decide +kernel
theorem dL_sum_241 : decode cL_sum 241 = .ok (.iload_n 3, 1) := by decide +kernel
theorem dL_sum_242 : decode cL_sum 242 = .ok (.invokevirtual 135, 3) := by decide +kernel
theorem dL_sum_245 : decode cL_sum 245 = .ok (.if_icmp .ge 42, 3) := by decide +kernel
theorem dL_sum_248 : decode cL_sum 248 = .ok (.iconst 0, 1) := by decide +kernel
theorem dL_sum_249 : decode cL_sum 249 = .ok (.istore 5, 2) := by decide +kernel
theorem dL_sum_251 : decode cL_sum 251 = .ok (.iload 5, 2) := by decide +kernel
theorem dL_sum_253 : decode cL_sum 253 = .ok (.bipush 6, 2) := by decide +kernel
theorem dL_sum_255 : decode cL_sum 255 = .ok (.if_icmp .ge 26, 3) := by decide +kernel
theorem dL_sum_258 : decode cL_sum 258 = .ok (.ldc2_w 86, 3) := by decide +kernel
theorem dL_sum_261 : decode cL_sum 261 = .ok (.lload_n 1, 1) := by decide +kernel
theorem dL_sum_262 : decode cL_sum 262 = .ok (.lmul, 1) := by decide +kernel
theorem dL_sum_263 : decode cL_sum 263 = .ok (.aload_n 0, 1) := by decide +kernel
theorem dL_sum_264 : decode cL_sum 264 = .ok (.iload_n 3, 1) := by decide +kernel
theorem dL_sum_265 : decode cL_sum 265 = .ok (.iload 4, 2) := by decide +kernel
theorem dL_sum_267 : decode cL_sum 267 = .ok (.iload 5, 2) := by decide +kernel
theorem dL_sum_269 : decode cL_sum 269 = .ok (.invokevirtual 159, 3) := by decide +kernel
theorem dL_sum_272 : decode cL_sum 272 = .ok (.i2l, 1) := by decide +kernel
theorem dL_sum_273 : decode cL_sum 273 = .ok (.ladd, 1) := by decide +kernel
theorem dL_sum_274 : decode cL_sum 274 = .ok (.lstore_n 1, 1) := by decide +kernel
theorem dL_sum_275 : decode cL_sum 275 = .ok (.iinc 5 1, 3) := by decide +kernel
theorem dL_sum_278 : decode cL_sum 278 = .ok (.goto (-27), 3) := by decide +kernel
theorem dL_sum_281 : decode cL_sum 281 = .ok (.iinc 4 1, 3) := by decide +kernel
theorem dL_sum_284 : decode cL_sum 284 = .ok (.goto (-46), 3) := by decide +kernel
theorem dL_sum_287 : decode cL_sum 287 = .ok (.iinc 3 1, 3) := by decide +kernel
theorem dL_sum_290 : decode cL_sum 290 = .ok (.goto (-152), 3) := by decide +kernel
theorem dL_sum_293 : decode cL_sum 293 = .ok (.lload_n 1, 1) := by decide +kernel
theorem dL_sum_294 : decode cL_sum 294 = .ok (.lreturn, 1) := by decide +kernel
def st_L_sum_60 (N : Nat) (l1 : Int64) (l3 : Int32) (S : Nat → Nat → HV) : Option ((Int64 × Int32) ⊕ ((Int64) ⊕ Int64)) := (if (F_X10_slotCount S) ≤ l3 then some (.inr (.inl l1)) else (ob1 (okI (F_X10_letterAt l3 S)) fun v1 => (ob1 (okI (F_X10_ownerAt l3 S)) fun v2 => (ob1 (okI (F_X10_lengthAt l3 S)) fun v3 => (ob1 (okI (F_X10_nestDays l3 S)) fun v4 => (ob1 (okI (F_X10_isReserved l3 S)) fun v5 => (ob1 ((if v5 = true then some (11 : Int64) else some (0 : Int64)) : Option Int64) fun v7 => some (.inl ((((((((31 : Int64) * l1) + ((v1 : Int32).toInt64)) + ((3 : Int64) * ((v2 : Int32).toInt64))) + ((5 : Int64) * ((v3 : Int32).toInt64))) + ((7 : Int64) * ((v4 : Int32).toInt64))) + v7), (l3 + 1))))))))))
def st_L_sum_251 (N : Nat) (l3 : Int32) (l4 : Int32) (l1 : Int64) (l5 : Int32) (S : Nat → Nat → HV) : Option ((Int64 × Int32) ⊕ ((Int64) ⊕ Int64)) := (if 6 ≤ l5 then some (.inr (.inl l1)) else (ob1 (okI (F_X10_pendingLetter l3 l4 l5 S)) fun v19 => some (.inl ((((31 : Int64) * l1) + ((v19 : Int32).toInt64)), (l5 + 1)))))
def st_L_sum_238 (N : Nat) (l3 : Int32) (l1 : Int64) (l4 : Int32) (S : Nat → Nat → HV) : Option ((Int64 × Int32) ⊕ ((Int64) ⊕ Int64)) := (ob1 (okI (F_X10_pendingCount l3 S)) fun v18 => (if v18 ≤ l4 then some (.inr (.inl l1)) else (om (lpN N (fun z => st_L_sum_251 N l3 l4 z.1 z.2 S) (l1, 0)) (fun r => some (.inr (.inr r))) (fun x21 => some (.inl (x21, (l4 + 1)))))))
def st_L_sum_138 (N : Nat) (l1 : Int64) (l3 : Int32) (S : Nat → Nat → HV) : Option ((Int64 × Int32) ⊕ ((Int64) ⊕ Int64)) := (if 2 ≤ l3 then some (.inr (.inl l1)) else (ob1 (okI (F_X10_pendingCount l3 S)) fun v10 => (ob1 (okI (F_X10_lettersWritten l3 S)) fun v11 => (ob1 (okI (F_X10_startSlot l3 S)) fun v12 => (ob1 (okI (F_X10_postedCount N l3 S)) fun v13 => (ob1 (okI (F_X10_messagesQueued l3 S)) fun v14 => (ob1 (okI (F_X10_messagesDelivered l3 S)) fun v15 => (ob1 (okI (F_X10_messagesFailed l3 S)) fun v16 => (ob1 (okI (F_X10_messagesDropped l3 S)) fun v17 => (om (lpN N (fun z => st_L_sum_238 N l3 z.1 z.2 S) (((((((31 : Int64) * ((((((31 : Int64) * l1) + ((v10 : Int32).toInt64)) + ((3 : Int64) * ((v11 : Int32).toInt64))) + ((5 : Int64) * ((v12 : Int32).toInt64))) + ((7 : Int64) * ((v13 : Int32).toInt64)))) + ((v14 : Int32).toInt64)) + ((3 : Int64) * ((v15 : Int32).toInt64))) + ((5 : Int64) * ((v16 : Int32).toInt64))) + ((7 : Int64) * ((v17 : Int32).toInt64))), 0)) (fun r => some (.inr (.inr r))) (fun x23 => some (.inl (x23, (l3 + 1))))))))))))))
def F_L_sum (N : Nat)  (S : Nat → Nat → HV) : Option Int64 := (om (lpN N (fun z => st_L_sum_60 N z.1 z.2 S) (((((((31 : Int64) * (((31 : Int64) * (((F_X10_day S) : Int32).toInt64)) + (((F_X10_actionsLeft S) : Int32).toInt64))) + (((F_X10_workLimit S) : Int32).toInt64)) + ((7 : Int64) * (((F_X10_twigsPlanted S) : Int32).toInt64))) + ((11 : Int64) * (((F_X10_twigsPruned S) : Int32).toInt64))) + ((13 : Int64) * (((F_X10_twigsRemoved S) : Int32).toInt64))), 0)) (fun r => some r) (fun x9 => (om (lpN N (fun z => st_L_sum_138 N z.1 z.2 S) (x9, 0)) (fun r => some r) (fun x25 => some x25))))
theorem lq_L_sum_60 {w : WP} (hW : gW w) (hS : gS w) {Ω : OM} {S : Nat → Nat → HV} (e : Ω.1 = S)  {N : Nat} {X : CX} (C : gC w X cL_sum "HedgeMessagesLaw" (some .long) 8 6) {q : (Int64) ⊕ Int64} {u : Option Value × CT} : ∀ (n : Nat) (l1 : Int64) (l3 : Int32), lpN n (fun z : Int64 × Int32 => st_L_sum_60 N z.1 z.2 S) (l1, l3) = some q → (∀ a : Int64, q = .inl a → gU w X (qR w X u) (cA w Ω) 136 [(0, .ref (wAd w (7, 11, 6, 0))), (1, .long a)] []) → (∀ r, q = .inr r → qR w X u = qR w X ((some (.long r)), cA w Ω)) → gU w X (qR w X u) (cA w Ω) 60 [(0, .ref (wAd w (7, 11, 6, 0))), (1, .long l1), (3, .int l3)] [] := by
  intro n
  induction n with
  | zero => intro l1 l3 hL; exact lpN_0 hL
  | succ n ih =>
    intro l1 l3 hL kJ kR9
    replace ih := fun l1 l3 hL => ih l1 l3 hL kJ kR9
    obtain ⟨q9, hF, hL⟩ := lpN_e hL
    change st_L_sum_60 N l1 l3 S = some q9 at hF
    unfold st_L_sum_60 at hF
    refine r_iload_n C (k := 2) rfl rfl dL_sum_60 ?_
    refine r_aload_n C (k := 0) rfl rfl dL_sum_61 ?_
    refine r_callV C (d' := 0) [] (c_X10_slotCount hW e rfl) myX10_slotCount wm5_8 ⟨_, _, _, _, (hW.ok k7), rfl, rfl, rfl, rfl⟩ rfl (kR rfl) (by decide) (kR rfl) rfl dL_sum_62 ?_
    refine r_icmp_ge C (tgt := 136) rfl dL_sum_65 (fun hc => ?_) (fun hc => ?_)
    · rw [if_pos hc] at hF
      cases hF
      change some _ = some _ at hL
      cases hL
      refine r_lo [0, 1] (lo' := [(0, .ref (wAd w (7, 11, 6, 0))), (1, .long l1)]) rfl ?_
      exact kJ _ rfl
    · rw [if_neg hc] at hF
      refine r_ldc2 C wm4_224 dL_sum_68 ?_
      refine r_lload_n C (k := 1) rfl rfl dL_sum_71 ?_
      refine r_lmul C dL_sum_72 ?_
      refine r_aload_n C (k := 0) rfl rfl dL_sum_73 ?_
      refine r_iload_n C (k := 2) rfl rfl dL_sum_74 ?_
      obtain ⟨v1, hv1, hF⟩ := ob1_e hF
      refine r_callV C (d' := 7) [.int l3] (c_X10_letterAt hW hS e l3 (okI_e hv1)) myX10_letterAt wm5_12 ⟨_, _, _, _, (hW.ok k7), rfl, rfl, rfl, rfl⟩ rfl (kR rfl) (by decide) (kR rfl) rfl dL_sum_75 ?_
      refine r_i2l C (v := ((v1 : Int32).toInt64)) rfl dL_sum_78 ?_
      refine r_ladd C dL_sum_79 ?_
      refine r_ldc2 C wm5_17 dL_sum_80 ?_
      refine r_aload_n C (k := 0) rfl rfl dL_sum_83 ?_
      refine r_iload_n C (k := 2) rfl rfl dL_sum_84 ?_
      obtain ⟨v2, hv2, hF⟩ := ob1_e hF
      refine r_callV C (d' := 7) [.int l3] (c_X10_ownerAt hW hS e l3 (okI_e hv2)) myX10_ownerAt wm5_18 ⟨_, _, _, _, (hW.ok k7), rfl, rfl, rfl, rfl⟩ rfl (kR rfl) (by decide) (kR rfl) rfl dL_sum_85 ?_
      refine r_i2l C (v := ((v2 : Int32).toInt64)) rfl dL_sum_88 ?_
      refine r_lmul C dL_sum_89 ?_
      refine r_ladd C dL_sum_90 ?_
      refine r_ldc2 C wm5_22 dL_sum_91 ?_
      refine r_aload_n C (k := 0) rfl rfl dL_sum_94 ?_
      refine r_iload_n C (k := 2) rfl rfl dL_sum_95 ?_
      obtain ⟨v3, hv3, hF⟩ := ob1_e hF
      refine r_callV C (d' := 7) [.int l3] (c_X10_lengthAt hW hS e l3 (okI_e hv3)) myX10_lengthAt wm5_23 ⟨_, _, _, _, (hW.ok k7), rfl, rfl, rfl, rfl⟩ rfl (kR rfl) (by decide) (kR rfl) rfl dL_sum_96 ?_
      refine r_i2l C (v := ((v3 : Int32).toInt64)) rfl dL_sum_99 ?_
      refine r_lmul C dL_sum_100 ?_
      refine r_ladd C dL_sum_101 ?_
      refine r_ldc2 C wm4_233 dL_sum_102 ?_
      refine r_aload_n C (k := 0) rfl rfl dL_sum_105 ?_
      refine r_iload_n C (k := 2) rfl rfl dL_sum_106 ?_
      obtain ⟨v4, hv4, hF⟩ := ob1_e hF
      refine r_callV C (d' := 7) [.int l3] (c_X10_nestDays hW hS e l3 (okI_e hv4)) myX10_nestDays wm5_27 ⟨_, _, _, _, (hW.ok k7), rfl, rfl, rfl, rfl⟩ rfl (kR rfl) (by decide) (kR rfl) rfl dL_sum_107 ?_
      refine r_i2l C (v := ((v4 : Int32).toInt64)) rfl dL_sum_110 ?_
      refine r_lmul C dL_sum_111 ?_
      refine r_ladd C dL_sum_112 ?_
      refine r_aload_n C (k := 0) rfl rfl dL_sum_113 ?_
      refine r_iload_n C (k := 2) rfl rfl dL_sum_114 ?_
      obtain ⟨v5, hv5, hF⟩ := ob1_e hF
      refine r_callV C (d' := 7) [.int l3] (c_X10_isReserved hW hS e l3 (okI_e hv5)) myX10_isReserved wm5_31 ⟨_, _, _, _, (hW.ok k7), rfl, rfl, rfl, rfl⟩ rfl (kR rfl) (by decide) (kR rfl) rfl dL_sum_115 ?_
      obtain ⟨v7, hq6, hF⟩ := ob1_e hF
      have kq6 : ∀ a, v7 = a → gU w X (qR w X u) (cA w Ω) 128 [(0, .ref (wAd w (7, 11, 6, 0))), (3, .int l3)] (.long a :: [.long ((((((31 : Int64) * l1) + ((v1 : Int32).toInt64)) + ((3 : Int64) * ((v2 : Int32).toInt64))) + ((5 : Int64) * ((v3 : Int32).toInt64))) + ((7 : Int64) * ((v4 : Int32).toInt64)))]) := by
        intro a ha
        subst ha
        refine r_ladd C dL_sum_128 ?_
        refine r_lstore_n C (lo' := [(1, .long (((((((31 : Int64) * l1) + ((v1 : Int32).toInt64)) + ((3 : Int64) * ((v2 : Int32).toInt64))) + ((5 : Int64) * ((v3 : Int32).toInt64))) + ((7 : Int64) * ((v4 : Int32).toInt64))) + v7)), (0, .ref (wAd w (7, 11, 6, 0))), (3, .int l3)]) rfl (by decide) rfl dL_sum_129 ?_
        refine r_iinc C (k := 2) (v := (l3 + 1)) (lo' := [(3, .int (l3 + 1)), (1, .long (((((((31 : Int64) * l1) + ((v1 : Int32).toInt64)) + ((3 : Int64) * ((v2 : Int32).toInt64))) + ((5 : Int64) * ((v3 : Int32).toInt64))) + ((7 : Int64) * ((v4 : Int32).toInt64))) + v7)), (0, .ref (wAd w (7, 11, 6, 0)))]) rfl rfl (by decide) rfl dL_sum_130 ?_
        refine r_goto C (tgt := 60) rfl dL_sum_133 ?_
        cases hF
        change lpN n _ _ = some _ at hL
        refine r_lo [2, 1, 0] (lo' := [(0, .ref (wAd w (7, 11, 6, 0))), (1, .long (((((((31 : Int64) * l1) + ((v1 : Int32).toInt64)) + ((3 : Int64) * ((v2 : Int32).toInt64))) + ((5 : Int64) * ((v3 : Int32).toInt64))) + ((7 : Int64) * ((v4 : Int32).toInt64))) + v7)), (3, .int (l3 + 1))]) rfl ?_
        exact ih (((((((31 : Int64) * l1) + ((v1 : Int32).toInt64)) + ((3 : Int64) * ((v2 : Int32).toInt64))) + ((5 : Int64) * ((v3 : Int32).toInt64))) + ((7 : Int64) * ((v4 : Int32).toInt64))) + v7) (l3 + 1) hL
      refine r_if_eq C (tgt := 127) rfl dL_sum_118 (fun hc => ?_) (fun hc => ?_)
      · rw [if_neg (b2i_f hc)] at hq6
        refine r_lconst C (v := 0) rfl dL_sum_127 ?_
        cases hq6
        refine r_lo [0, 2] (lo' := [(0, .ref (wAd w (7, 11, 6, 0))), (3, .int l3)]) rfl ?_
        exact kq6 _ rfl
      · rw [if_pos (b2i_t hc)] at hq6
        refine r_ldc2 C wm4_238 dL_sum_121 ?_
        refine r_goto C (tgt := 128) rfl dL_sum_124 ?_
        cases hq6
        refine r_lo [0, 2] (lo' := [(0, .ref (wAd w (7, 11, 6, 0))), (3, .int l3)]) rfl ?_
        exact kq6 _ rfl
theorem lq_L_sum_251 {w : WP} (hW : gW w) (hS : gS w) {Ω : OM} {S : Nat → Nat → HV} (e : Ω.1 = S) (l3 : Int32) (l4 : Int32) {N : Nat} {X : CX} (C : gC w X cL_sum "HedgeMessagesLaw" (some .long) 8 6) {q : (Int64) ⊕ Int64} {u : Option Value × CT} : ∀ (n : Nat) (l1 : Int64) (l5 : Int32), lpN n (fun z : Int64 × Int32 => st_L_sum_251 N l3 l4 z.1 z.2 S) (l1, l5) = some q → (∀ a : Int64, q = .inl a → gU w X (qR w X u) (cA w Ω) 281 [(0, .ref (wAd w (7, 11, 6, 0))), (1, .long a), (3, .int l3), (4, .int l4)] []) → (∀ r, q = .inr r → qR w X u = qR w X ((some (.long r)), cA w Ω)) → gU w X (qR w X u) (cA w Ω) 251 [(0, .ref (wAd w (7, 11, 6, 0))), (1, .long l1), (3, .int l3), (4, .int l4), (5, .int l5)] [] := by
  intro n
  induction n with
  | zero => intro l1 l5 hL; exact lpN_0 hL
  | succ n ih =>
    intro l1 l5 hL kJ kR9
    replace ih := fun l1 l5 hL => ih l1 l5 hL kJ kR9
    obtain ⟨q9, hF, hL⟩ := lpN_e hL
    change st_L_sum_251 N l3 l4 l1 l5 S = some q9 at hF
    unfold st_L_sum_251 at hF
    refine r_iload C (k := 4) rfl dL_sum_251 ?_
    refine r_bipush C (v := 6) rfl dL_sum_253 ?_
    refine r_icmp_ge C (tgt := 281) rfl dL_sum_255 (fun hc => ?_) (fun hc => ?_)
    · rw [if_pos hc] at hF
      cases hF
      change some _ = some _ at hL
      cases hL
      refine r_lo [0, 1, 2, 3] (lo' := [(0, .ref (wAd w (7, 11, 6, 0))), (1, .long l1), (3, .int l3), (4, .int l4)]) rfl ?_
      exact kJ _ rfl
    · rw [if_neg hc] at hF
      refine r_ldc2 C wm4_224 dL_sum_258 ?_
      refine r_lload_n C (k := 1) rfl rfl dL_sum_261 ?_
      refine r_lmul C dL_sum_262 ?_
      refine r_aload_n C (k := 0) rfl rfl dL_sum_263 ?_
      refine r_iload_n C (k := 2) rfl rfl dL_sum_264 ?_
      refine r_iload C (k := 3) rfl dL_sum_265 ?_
      refine r_iload C (k := 4) rfl dL_sum_267 ?_
      obtain ⟨v19, hv19, hF⟩ := ob1_e hF
      refine r_callV C (d' := 7) [.int l3, .int l4, .int l5] (c_X10_pendingLetter hW hS e l3 l4 l5 (okI_e hv19)) myX10_pendingLetter wm5_73 ⟨_, _, _, _, (hW.ok k7), rfl, rfl, rfl, rfl⟩ rfl (kR rfl) (by decide) (kR rfl) rfl dL_sum_269 ?_
      refine r_i2l C (v := ((v19 : Int32).toInt64)) rfl dL_sum_272 ?_
      refine r_ladd C dL_sum_273 ?_
      refine r_lstore_n C (lo' := [(1, .long (((31 : Int64) * l1) + ((v19 : Int32).toInt64))), (0, .ref (wAd w (7, 11, 6, 0))), (3, .int l3), (4, .int l4), (5, .int l5)]) rfl (by decide) rfl dL_sum_274 ?_
      refine r_iinc C (k := 4) (v := (l5 + 1)) (lo' := [(5, .int (l5 + 1)), (1, .long (((31 : Int64) * l1) + ((v19 : Int32).toInt64))), (0, .ref (wAd w (7, 11, 6, 0))), (3, .int l3), (4, .int l4)]) rfl rfl (by decide) rfl dL_sum_275 ?_
      refine r_goto C (tgt := 251) rfl dL_sum_278 ?_
      cases hF
      change lpN n _ _ = some _ at hL
      refine r_lo [2, 1, 3, 4, 0] (lo' := [(0, .ref (wAd w (7, 11, 6, 0))), (1, .long (((31 : Int64) * l1) + ((v19 : Int32).toInt64))), (3, .int l3), (4, .int l4), (5, .int (l5 + 1))]) rfl ?_
      exact ih (((31 : Int64) * l1) + ((v19 : Int32).toInt64)) (l5 + 1) hL
theorem lq_L_sum_238 {w : WP} (hW : gW w) (hS : gS w) {Ω : OM} {S : Nat → Nat → HV} (e : Ω.1 = S) (l3 : Int32) {N : Nat} {X : CX} (C : gC w X cL_sum "HedgeMessagesLaw" (some .long) 8 6) {q : (Int64) ⊕ Int64} {u : Option Value × CT} : ∀ (n : Nat) (l1 : Int64) (l4 : Int32), lpN n (fun z : Int64 × Int32 => st_L_sum_238 N l3 z.1 z.2 S) (l1, l4) = some q → (∀ a : Int64, q = .inl a → gU w X (qR w X u) (cA w Ω) 287 [(0, .ref (wAd w (7, 11, 6, 0))), (1, .long a), (3, .int l3)] []) → (∀ r, q = .inr r → qR w X u = qR w X ((some (.long r)), cA w Ω)) → gU w X (qR w X u) (cA w Ω) 238 [(0, .ref (wAd w (7, 11, 6, 0))), (1, .long l1), (3, .int l3), (4, .int l4)] [] := by
  intro n
  induction n with
  | zero => intro l1 l4 hL; exact lpN_0 hL
  | succ n ih =>
    intro l1 l4 hL kJ kR9
    replace ih := fun l1 l4 hL => ih l1 l4 hL kJ kR9
    obtain ⟨q9, hF, hL⟩ := lpN_e hL
    change st_L_sum_238 N l3 l1 l4 S = some q9 at hF
    unfold st_L_sum_238 at hF
    refine r_iload C (k := 3) rfl dL_sum_238 ?_
    refine r_aload_n C (k := 0) rfl rfl dL_sum_240 ?_
    refine r_iload_n C (k := 2) rfl rfl dL_sum_241 ?_
    obtain ⟨v18, hv18, hF⟩ := ob1_e hF
    refine r_callV C (d' := 7) [.int l3] (c_X10_pendingCount hW hS e l3 (okI_e hv18)) myX10_pendingCount wm5_36 ⟨_, _, _, _, (hW.ok k7), rfl, rfl, rfl, rfl⟩ rfl (kR rfl) (by decide) (kR rfl) rfl dL_sum_242 ?_
    refine r_icmp_ge C (tgt := 287) rfl dL_sum_245 (fun hc => ?_) (fun hc => ?_)
    · rw [if_pos hc] at hF
      cases hF
      change some _ = some _ at hL
      cases hL
      refine r_lo [0, 1, 2] (lo' := [(0, .ref (wAd w (7, 11, 6, 0))), (1, .long l1), (3, .int l3)]) rfl ?_
      exact kJ _ rfl
    · rw [if_neg hc] at hF
      refine r_iconst C (v := 0) rfl dL_sum_248 ?_
      refine r_istore C (lo' := [(5, .int 0), (0, .ref (wAd w (7, 11, 6, 0))), (1, .long l1), (3, .int l3), (4, .int l4)]) (by decide) rfl dL_sum_249 ?_
      obtain ⟨q20, hq20, hF⟩ := om_e hF
      have kq20 : ∀ a : Int64, q20 = .inl a → gU w X (qR w X u) (cA w Ω) 281 [(0, .ref (wAd w (7, 11, 6, 0))), (1, .long a), (3, .int l3), (4, .int l4)] [] := by
        rintro x21 ha
        subst ha
        dsimp only [Sum.elim_inl] at hF
        refine r_iinc C (k := 3) (v := (l4 + 1)) (lo' := [(4, .int (l4 + 1)), (0, .ref (wAd w (7, 11, 6, 0))), (1, .long x21), (3, .int l3)]) rfl rfl (by decide) rfl dL_sum_281 ?_
        refine r_goto C (tgt := 238) rfl dL_sum_284 ?_
        cases hF
        change lpN n _ _ = some _ at hL
        refine r_lo [1, 2, 3, 0] (lo' := [(0, .ref (wAd w (7, 11, 6, 0))), (1, .long x21), (3, .int l3), (4, .int (l4 + 1))]) rfl ?_
        exact ih x21 (l4 + 1) hL
      refine r_lo [1, 2, 3, 4, 0] (lo' := [(0, .ref (wAd w (7, 11, 6, 0))), (1, .long l1), (3, .int l3), (4, .int l4), (5, .int 0)]) rfl ?_
      refine lq_L_sum_251 hW hS e l3 l4 C N l1 0 hq20 kq20 ?_
      intro r hr
      subst hr
      change some (Sum.inr (Sum.inr _)) = some _ at hF
      cases hF
      change some _ = some _ at hL
      cases hL
      exact kR9 _ rfl
theorem lq_L_sum_138 {w : WP} (hW : gW w) (hS : gS w) {Ω : OM} {S : Nat → Nat → HV} (e : Ω.1 = S)  {N : Nat} {X : CX} (C : gC w X cL_sum "HedgeMessagesLaw" (some .long) 8 6) {q : (Int64) ⊕ Int64} {u : Option Value × CT} : ∀ (n : Nat) (l1 : Int64) (l3 : Int32), lpN n (fun z : Int64 × Int32 => st_L_sum_138 N z.1 z.2 S) (l1, l3) = some q → (∀ a : Int64, q = .inl a → gU w X (qR w X u) (cA w Ω) 293 [(1, .long a)] []) → (∀ r, q = .inr r → qR w X u = qR w X ((some (.long r)), cA w Ω)) → gU w X (qR w X u) (cA w Ω) 138 [(0, .ref (wAd w (7, 11, 6, 0))), (1, .long l1), (3, .int l3)] [] := by
  intro n
  induction n with
  | zero => intro l1 l3 hL; exact lpN_0 hL
  | succ n ih =>
    intro l1 l3 hL kJ kR9
    replace ih := fun l1 l3 hL => ih l1 l3 hL kJ kR9
    obtain ⟨q9, hF, hL⟩ := lpN_e hL
    change st_L_sum_138 N l1 l3 S = some q9 at hF
    unfold st_L_sum_138 at hF
    refine r_iload_n C (k := 2) rfl rfl dL_sum_138 ?_
    refine r_iconst C (v := 2) rfl dL_sum_139 ?_
    refine r_icmp_ge C (tgt := 293) rfl dL_sum_140 (fun hc => ?_) (fun hc => ?_)
    · rw [if_pos hc] at hF
      cases hF
      change some _ = some _ at hL
      cases hL
      refine r_lo [1] (lo' := [(1, .long l1)]) rfl ?_
      exact kJ _ rfl
    · rw [if_neg hc] at hF
      refine r_ldc2 C wm4_224 dL_sum_143 ?_
      refine r_lload_n C (k := 1) rfl rfl dL_sum_146 ?_
      refine r_lmul C dL_sum_147 ?_
      refine r_aload_n C (k := 0) rfl rfl dL_sum_148 ?_
      refine r_iload_n C (k := 2) rfl rfl dL_sum_149 ?_
      obtain ⟨v10, hv10, hF⟩ := ob1_e hF
      refine r_callV C (d' := 7) [.int l3] (c_X10_pendingCount hW hS e l3 (okI_e hv10)) myX10_pendingCount wm5_36 ⟨_, _, _, _, (hW.ok k7), rfl, rfl, rfl, rfl⟩ rfl (kR rfl) (by decide) (kR rfl) rfl dL_sum_150 ?_
      refine r_i2l C (v := ((v10 : Int32).toInt64)) rfl dL_sum_153 ?_
      refine r_ladd C dL_sum_154 ?_
      refine r_ldc2 C wm5_17 dL_sum_155 ?_
      refine r_aload_n C (k := 0) rfl rfl dL_sum_158 ?_
      refine r_iload_n C (k := 2) rfl rfl dL_sum_159 ?_
      obtain ⟨v11, hv11, hF⟩ := ob1_e hF
      refine r_callV C (d' := 7) [.int l3] (c_X10_lettersWritten hW hS e l3 (okI_e hv11)) myX10_lettersWritten wm5_40 ⟨_, _, _, _, (hW.ok k7), rfl, rfl, rfl, rfl⟩ rfl (kR rfl) (by decide) (kR rfl) rfl dL_sum_160 ?_
      refine r_i2l C (v := ((v11 : Int32).toInt64)) rfl dL_sum_163 ?_
      refine r_lmul C dL_sum_164 ?_
      refine r_ladd C dL_sum_165 ?_
      refine r_ldc2 C wm5_22 dL_sum_166 ?_
      refine r_aload_n C (k := 0) rfl rfl dL_sum_169 ?_
      refine r_iload_n C (k := 2) rfl rfl dL_sum_170 ?_
      obtain ⟨v12, hv12, hF⟩ := ob1_e hF
      refine r_callV C (d' := 7) [.int l3] (c_X10_startSlot hW hS e l3 (okI_e hv12)) myX10_startSlot wm5_44 ⟨_, _, _, _, (hW.ok k7), rfl, rfl, rfl, rfl⟩ rfl (kR rfl) (by decide) (kR rfl) rfl dL_sum_171 ?_
      refine r_i2l C (v := ((v12 : Int32).toInt64)) rfl dL_sum_174 ?_
      refine r_lmul C dL_sum_175 ?_
      refine r_ladd C dL_sum_176 ?_
      refine r_ldc2 C wm4_233 dL_sum_177 ?_
      refine r_aload_n C (k := 0) rfl rfl dL_sum_180 ?_
      refine r_iload_n C (k := 2) rfl rfl dL_sum_181 ?_
      obtain ⟨v13, hv13, hF⟩ := ob1_e hF
      refine r_callV C (d' := 7) [.int l3] (c_X10_postedCount hW hS e N l3 (okI_e hv13)) myX10_postedCount wm5_49 ⟨_, _, _, _, (hW.ok k7), rfl, rfl, rfl, rfl⟩ rfl (kR rfl) (by decide) (kR rfl) rfl dL_sum_182 ?_
      refine r_i2l C (v := ((v13 : Int32).toInt64)) rfl dL_sum_185 ?_
      refine r_lmul C dL_sum_186 ?_
      refine r_ladd C dL_sum_187 ?_
      refine r_lstore_n C (lo' := [(1, .long ((((((31 : Int64) * l1) + ((v10 : Int32).toInt64)) + ((3 : Int64) * ((v11 : Int32).toInt64))) + ((5 : Int64) * ((v12 : Int32).toInt64))) + ((7 : Int64) * ((v13 : Int32).toInt64)))), (0, .ref (wAd w (7, 11, 6, 0))), (3, .int l3)]) rfl (by decide) rfl dL_sum_188 ?_
      refine r_ldc2 C wm4_224 dL_sum_189 ?_
      refine r_lload_n C (k := 0) rfl rfl dL_sum_192 ?_
      refine r_lmul C dL_sum_193 ?_
      refine r_aload_n C (k := 1) rfl rfl dL_sum_194 ?_
      refine r_iload_n C (k := 2) rfl rfl dL_sum_195 ?_
      obtain ⟨v14, hv14, hF⟩ := ob1_e hF
      refine r_callV C (d' := 7) [.int l3] (c_X10_messagesQueued hW hS e l3 (okI_e hv14)) myX10_messagesQueued wm5_57 ⟨_, _, _, _, (hW.ok k7), rfl, rfl, rfl, rfl⟩ rfl (kR rfl) (by decide) (kR rfl) rfl dL_sum_196 ?_
      refine r_i2l C (v := ((v14 : Int32).toInt64)) rfl dL_sum_199 ?_
      refine r_ladd C dL_sum_200 ?_
      refine r_ldc2 C wm5_17 dL_sum_201 ?_
      refine r_aload_n C (k := 1) rfl rfl dL_sum_204 ?_
      refine r_iload_n C (k := 2) rfl rfl dL_sum_205 ?_
      obtain ⟨v15, hv15, hF⟩ := ob1_e hF
      refine r_callV C (d' := 7) [.int l3] (c_X10_messagesDelivered hW hS e l3 (okI_e hv15)) myX10_messagesDelivered wm5_61 ⟨_, _, _, _, (hW.ok k7), rfl, rfl, rfl, rfl⟩ rfl (kR rfl) (by decide) (kR rfl) rfl dL_sum_206 ?_
      refine r_i2l C (v := ((v15 : Int32).toInt64)) rfl dL_sum_209 ?_
      refine r_lmul C dL_sum_210 ?_
      refine r_ladd C dL_sum_211 ?_
      refine r_ldc2 C wm5_22 dL_sum_212 ?_
      refine r_aload_n C (k := 1) rfl rfl dL_sum_215 ?_
      refine r_iload_n C (k := 2) rfl rfl dL_sum_216 ?_
      obtain ⟨v16, hv16, hF⟩ := ob1_e hF
      refine r_callV C (d' := 7) [.int l3] (c_X10_messagesFailed hW hS e l3 (okI_e hv16)) myX10_messagesFailed wm5_65 ⟨_, _, _, _, (hW.ok k7), rfl, rfl, rfl, rfl⟩ rfl (kR rfl) (by decide) (kR rfl) rfl dL_sum_217 ?_
      refine r_i2l C (v := ((v16 : Int32).toInt64)) rfl dL_sum_220 ?_
      refine r_lmul C dL_sum_221 ?_
      refine r_ladd C dL_sum_222 ?_
      refine r_ldc2 C wm4_233 dL_sum_223 ?_
      refine r_aload_n C (k := 1) rfl rfl dL_sum_226 ?_
      refine r_iload_n C (k := 2) rfl rfl dL_sum_227 ?_
      obtain ⟨v17, hv17, hF⟩ := ob1_e hF
      refine r_callV C (d' := 7) [.int l3] (c_X10_messagesDropped hW hS e l3 (okI_e hv17)) myX10_messagesDropped wm5_69 ⟨_, _, _, _, (hW.ok k7), rfl, rfl, rfl, rfl⟩ rfl (kR rfl) (by decide) (kR rfl) rfl dL_sum_228 ?_
      refine r_i2l C (v := ((v17 : Int32).toInt64)) rfl dL_sum_231 ?_
      refine r_lmul C dL_sum_232 ?_
      refine r_ladd C dL_sum_233 ?_
      refine r_lstore_n C (lo' := [(1, .long ((((((31 : Int64) * ((((((31 : Int64) * l1) + ((v10 : Int32).toInt64)) + ((3 : Int64) * ((v11 : Int32).toInt64))) + ((5 : Int64) * ((v12 : Int32).toInt64))) + ((7 : Int64) * ((v13 : Int32).toInt64)))) + ((v14 : Int32).toInt64)) + ((3 : Int64) * ((v15 : Int32).toInt64))) + ((5 : Int64) * ((v16 : Int32).toInt64))) + ((7 : Int64) * ((v17 : Int32).toInt64)))), (0, .ref (wAd w (7, 11, 6, 0))), (3, .int l3)]) rfl (by decide) rfl dL_sum_234 ?_
      refine r_iconst C (v := 0) rfl dL_sum_235 ?_
      refine r_istore C (lo' := [(4, .int 0), (1, .long ((((((31 : Int64) * ((((((31 : Int64) * l1) + ((v10 : Int32).toInt64)) + ((3 : Int64) * ((v11 : Int32).toInt64))) + ((5 : Int64) * ((v12 : Int32).toInt64))) + ((7 : Int64) * ((v13 : Int32).toInt64)))) + ((v14 : Int32).toInt64)) + ((3 : Int64) * ((v15 : Int32).toInt64))) + ((5 : Int64) * ((v16 : Int32).toInt64))) + ((7 : Int64) * ((v17 : Int32).toInt64)))), (0, .ref (wAd w (7, 11, 6, 0))), (3, .int l3)]) (by decide) rfl dL_sum_236 ?_
      obtain ⟨q22, hq22, hF⟩ := om_e hF
      have kq22 : ∀ a : Int64, q22 = .inl a → gU w X (qR w X u) (cA w Ω) 287 [(0, .ref (wAd w (7, 11, 6, 0))), (1, .long a), (3, .int l3)] [] := by
        rintro x23 ha
        subst ha
        dsimp only [Sum.elim_inl] at hF
        refine r_iinc C (k := 2) (v := (l3 + 1)) (lo' := [(3, .int (l3 + 1)), (0, .ref (wAd w (7, 11, 6, 0))), (1, .long x23)]) rfl rfl (by decide) rfl dL_sum_287 ?_
        refine r_goto C (tgt := 138) rfl dL_sum_290 ?_
        cases hF
        change lpN n _ _ = some _ at hL
        refine r_lo [1, 2, 0] (lo' := [(0, .ref (wAd w (7, 11, 6, 0))), (1, .long x23), (3, .int (l3 + 1))]) rfl ?_
        exact ih x23 (l3 + 1) hL
      refine r_lo [2, 1, 3, 0] (lo' := [(0, .ref (wAd w (7, 11, 6, 0))), (1, .long ((((((31 : Int64) * ((((((31 : Int64) * l1) + ((v10 : Int32).toInt64)) + ((3 : Int64) * ((v11 : Int32).toInt64))) + ((5 : Int64) * ((v12 : Int32).toInt64))) + ((7 : Int64) * ((v13 : Int32).toInt64)))) + ((v14 : Int32).toInt64)) + ((3 : Int64) * ((v15 : Int32).toInt64))) + ((5 : Int64) * ((v16 : Int32).toInt64))) + ((7 : Int64) * ((v17 : Int32).toInt64)))), (3, .int l3), (4, .int 0)]) rfl ?_
      refine lq_L_sum_238 hW hS e l3 C N ((((((31 : Int64) * ((((((31 : Int64) * l1) + ((v10 : Int32).toInt64)) + ((3 : Int64) * ((v11 : Int32).toInt64))) + ((5 : Int64) * ((v12 : Int32).toInt64))) + ((7 : Int64) * ((v13 : Int32).toInt64)))) + ((v14 : Int32).toInt64)) + ((3 : Int64) * ((v15 : Int32).toInt64))) + ((5 : Int64) * ((v16 : Int32).toInt64))) + ((7 : Int64) * ((v17 : Int32).toInt64))) 0 hq22 kq22 ?_
      intro r hr
      subst hr
      change some (Sum.inr (Sum.inr _)) = some _ at hF
      cases hF
      change some _ = some _ at hL
      cases hL
      exact kR9 _ rfl
theorem c_L_sum {w : WP} (hW : gW w) (hS : gS w) {Ω : OM} {S : Nat → Nat → HV} (e : Ω.1 = S) (N : Nat)  {v : Int64} (hF : F_L_sum N S = some v) : gM w 8 yL_sum cL_sum 6 (some .long) [.ref (wAd w (7, 11, 6, 0))] (cA w Ω) (some (.long v)) (cA w Ω) := by
  refine gM_of "HedgeMessagesLaw" rfl (by decide) (kR rfl) fun X C => ?_
  unfold F_L_sum at hF
  show gU w X (qR w X ((some (.long v)), cA w Ω)) (cA w Ω) 0 [(0, .ref (wAd w (7, 11, 6, 0)))] []
  refine r_ldc2 C wm4_224 dL_sum_0 ?_
  refine r_aload_n C (k := 0) rfl rfl dL_sum_3 ?_
  refine r_callV C (d' := 0) [] (c_X10_day hW e rfl) myX10_day wm2_187 ⟨_, _, _, _, (hW.ok k7), rfl, rfl, rfl, rfl⟩ rfl (kR rfl) (by decide) (kR rfl) rfl dL_sum_4 ?_
  refine r_i2l C (v := (((F_X10_day S) : Int32).toInt64)) rfl dL_sum_7 ?_
  refine r_lmul C dL_sum_8 ?_
  refine r_aload_n C (k := 0) rfl rfl dL_sum_9 ?_
  refine r_callV C (d' := 0) [] (c_X10_actionsLeft hW e rfl) myX10_actionsLeft wm4_225 ⟨_, _, _, _, (hW.ok k7), rfl, rfl, rfl, rfl⟩ rfl (kR rfl) (by decide) (kR rfl) rfl dL_sum_10 ?_
  refine r_i2l C (v := (((F_X10_actionsLeft S) : Int32).toInt64)) rfl dL_sum_13 ?_
  refine r_ladd C dL_sum_14 ?_
  refine r_lstore_n C (lo' := [(1, .long (((31 : Int64) * (((F_X10_day S) : Int32).toInt64)) + (((F_X10_actionsLeft S) : Int32).toInt64))), (0, .ref (wAd w (7, 11, 6, 0)))]) rfl (by decide) rfl dL_sum_15 ?_
  refine r_ldc2 C wm4_224 dL_sum_16 ?_
  refine r_lload_n C (k := 0) rfl rfl dL_sum_19 ?_
  refine r_lmul C dL_sum_20 ?_
  refine r_aload_n C (k := 1) rfl rfl dL_sum_21 ?_
  refine r_callV C (d' := 0) [] (c_X10_workLimit hW e rfl) myX10_workLimit wm4_229 ⟨_, _, _, _, (hW.ok k7), rfl, rfl, rfl, rfl⟩ rfl (kR rfl) (by decide) (kR rfl) rfl dL_sum_22 ?_
  refine r_i2l C (v := (((F_X10_workLimit S) : Int32).toInt64)) rfl dL_sum_25 ?_
  refine r_ladd C dL_sum_26 ?_
  refine r_ldc2 C wm4_233 dL_sum_27 ?_
  refine r_aload_n C (k := 1) rfl rfl dL_sum_30 ?_
  refine r_callV C (d' := 0) [] (c_X10_twigsPlanted hW e rfl) myX10_twigsPlanted wm4_234 ⟨_, _, _, _, (hW.ok k7), rfl, rfl, rfl, rfl⟩ rfl (kR rfl) (by decide) (kR rfl) rfl dL_sum_31 ?_
  refine r_i2l C (v := (((F_X10_twigsPlanted S) : Int32).toInt64)) rfl dL_sum_34 ?_
  refine r_lmul C dL_sum_35 ?_
  refine r_ladd C dL_sum_36 ?_
  refine r_ldc2 C wm4_238 dL_sum_37 ?_
  refine r_aload_n C (k := 1) rfl rfl dL_sum_40 ?_
  refine r_callV C (d' := 0) [] (c_X10_twigsPruned hW e rfl) myX10_twigsPruned wm4_239 ⟨_, _, _, _, (hW.ok k7), rfl, rfl, rfl, rfl⟩ rfl (kR rfl) (by decide) (kR rfl) rfl dL_sum_41 ?_
  refine r_i2l C (v := (((F_X10_twigsPruned S) : Int32).toInt64)) rfl dL_sum_44 ?_
  refine r_lmul C dL_sum_45 ?_
  refine r_ladd C dL_sum_46 ?_
  refine r_ldc2 C wm5_3 dL_sum_47 ?_
  refine r_aload_n C (k := 1) rfl rfl dL_sum_50 ?_
  refine r_callV C (d' := 0) [] (c_X10_twigsRemoved hW e rfl) myX10_twigsRemoved wm5_4 ⟨_, _, _, _, (hW.ok k7), rfl, rfl, rfl, rfl⟩ rfl (kR rfl) (by decide) (kR rfl) rfl dL_sum_51 ?_
  refine r_i2l C (v := (((F_X10_twigsRemoved S) : Int32).toInt64)) rfl dL_sum_54 ?_
  refine r_lmul C dL_sum_55 ?_
  refine r_ladd C dL_sum_56 ?_
  refine r_lstore_n C (lo' := [(1, .long ((((((31 : Int64) * (((31 : Int64) * (((F_X10_day S) : Int32).toInt64)) + (((F_X10_actionsLeft S) : Int32).toInt64))) + (((F_X10_workLimit S) : Int32).toInt64)) + ((7 : Int64) * (((F_X10_twigsPlanted S) : Int32).toInt64))) + ((11 : Int64) * (((F_X10_twigsPruned S) : Int32).toInt64))) + ((13 : Int64) * (((F_X10_twigsRemoved S) : Int32).toInt64)))), (0, .ref (wAd w (7, 11, 6, 0)))]) rfl (by decide) rfl dL_sum_57 ?_
  refine r_iconst C (v := 0) rfl dL_sum_58 ?_
  refine r_istore_n C (lo' := [(3, .int 0), (1, .long ((((((31 : Int64) * (((31 : Int64) * (((F_X10_day S) : Int32).toInt64)) + (((F_X10_actionsLeft S) : Int32).toInt64))) + (((F_X10_workLimit S) : Int32).toInt64)) + ((7 : Int64) * (((F_X10_twigsPlanted S) : Int32).toInt64))) + ((11 : Int64) * (((F_X10_twigsPruned S) : Int32).toInt64))) + ((13 : Int64) * (((F_X10_twigsRemoved S) : Int32).toInt64)))), (0, .ref (wAd w (7, 11, 6, 0)))]) rfl (by decide) rfl dL_sum_59 ?_
  obtain ⟨q8, hq8, hF⟩ := om_e hF
  have kq8 : ∀ a : Int64, q8 = .inl a → gU w X (qR w X ((some (.long v)), cA w Ω)) (cA w Ω) 136 [(0, .ref (wAd w (7, 11, 6, 0))), (1, .long a)] [] := by
    rintro x9 ha
    subst ha
    dsimp only [Sum.elim_inl] at hF
    refine r_iconst C (v := 0) rfl dL_sum_136 ?_
    refine r_istore_n C (lo' := [(3, .int 0), (0, .ref (wAd w (7, 11, 6, 0))), (1, .long x9)]) rfl (by decide) rfl dL_sum_137 ?_
    obtain ⟨q24, hq24, hF⟩ := om_e hF
    have kq24 : ∀ a : Int64, q24 = .inl a → gU w X (qR w X ((some (.long v)), cA w Ω)) (cA w Ω) 293 [(1, .long a)] [] := by
      rintro x25 ha
      subst ha
      dsimp only [Sum.elim_inl] at hF
      refine r_lload_n C (k := 0) rfl rfl dL_sum_293 ?_
      cases hF
      exact r_lreturn C dL_sum_294
    refine r_lo [1, 2, 0] (lo' := [(0, .ref (wAd w (7, 11, 6, 0))), (1, .long x9), (3, .int 0)]) rfl ?_
    refine lq_L_sum_138 hW hS e C N x9 0 hq24 kq24 ?_
    intro r hr
    subst hr
    change some _ = some _ at hF
    cases hF
    rfl
  refine r_lo [2, 1, 0] (lo' := [(0, .ref (wAd w (7, 11, 6, 0))), (1, .long ((((((31 : Int64) * (((31 : Int64) * (((F_X10_day S) : Int32).toInt64)) + (((F_X10_actionsLeft S) : Int32).toInt64))) + (((F_X10_workLimit S) : Int32).toInt64)) + ((7 : Int64) * (((F_X10_twigsPlanted S) : Int32).toInt64))) + ((11 : Int64) * (((F_X10_twigsPruned S) : Int32).toInt64))) + ((13 : Int64) * (((F_X10_twigsRemoved S) : Int32).toInt64)))), (3, .int 0)]) rfl ?_
  refine lq_L_sum_60 hW hS e C N ((((((31 : Int64) * (((31 : Int64) * (((F_X10_day S) : Int32).toInt64)) + (((F_X10_actionsLeft S) : Int32).toInt64))) + (((F_X10_workLimit S) : Int32).toInt64)) + ((7 : Int64) * (((F_X10_twigsPlanted S) : Int32).toInt64))) + ((11 : Int64) * (((F_X10_twigsPruned S) : Int32).toInt64))) + ((13 : Int64) * (((F_X10_twigsRemoved S) : Int32).toInt64))) 0 hq8 kq8 ?_
  intro r hr
  subst hr
  change some _ = some _ at hF
  cases hF
  rfl