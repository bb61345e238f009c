/-! ===== 26.model: printed by wip/whole/genmodel.py ===== -/
theorem dX11_isBufferWord_0 : decode cX11_isBufferWord 0 = .ok (.aload_n 0, 1) := by decide +kernel
theorem dX11_isBufferWord_1 : decode cX11_isBufferWord 1 = .ok (.getfield 53, 3) := by decide +kernel
theorem dX11_isBufferWord_4 : decode cX11_isBufferWord 4 = .ok (.i2l, 1) := by decide +kernel
theorem dX11_isBufferWord_5 : decode cX11_isBufferWord 5 = .ok (.lconst 1, 1) := by decide +kernel
theorem dX11_isBufferWord_6 : decode cX11_isBufferWord 6 = .ok (.ldc2_w 264, 3) := by decide +kernel
theorem dX11_isBufferWord_9 : decode cX11_isBufferWord 9 = .ok (.invokestatic 65, 3) := by decide +kernel
theorem dX11_isBufferWord_12 : decode cX11_isBufferWord 12 = .ok (.istore_n 1, 1) := by decide +kernel
theorem dX11_isBufferWord_13 : decode cX11_isBufferWord 13 = .ok (.iconst 0, 1) := by decide +kernel
theorem dX11_isBufferWord_14 : decode cX11_isBufferWord 14 = .ok (.istore_n 2, 1) := by decide +kernel
theorem dX11_isBufferWord_15 : decode cX11_isBufferWord 15 = .ok (.iload_n 2, 1) := by decide +kernel
theorem dX11_isBufferWord_16 : decode cX11_isBufferWord 16 = .ok (.aload_n 0, 1) := by decide +kernel
theorem dX11_isBufferWord_17 : decode cX11_isBufferWord 17 = .ok (.getfield 53, 3) := by decide +kernel
theorem dX11_isBufferWord_20 : decode cX11_isBufferWord 20 = .ok (.if_icmp .ge 30, 3) := by decide +kernel
theorem dX11_isBufferWord_23 : decode cX11_isBufferWord 23 = .ok (.iload_n 1, 1) := by decide +kernel
theorem dX11_isBufferWord_24 : decode cX11_isBufferWord 24 = .ok (.ifCond .eq 26, 3) := by decide +kernel
theorem dX11_isBufferWord_27 : decode cX11_isBufferWord 27 = .ok (.aload_n 0, 1) := by decide +kernel
theorem dX11_isBufferWord_28 : decode cX11_isBufferWord 28 = .ok (.getfield 28, 3) := by decide +kernel
theorem dX11_isBufferWord_31 : decode cX11_isBufferWord 31 = .ok (.iload_n 2, 1) := by decide +kernel
theorem dX11_isBufferWord_32 : decode cX11_isBufferWord 32 = .ok (.iaload, 1) := by decide +kernel
theorem dX11_isBufferWord_33 : decode cX11_isBufferWord 33 = .ok (.i2l, 1) := by decide +kernel
theorem dX11_isBufferWord_34 : decode cX11_isBufferWord 34 = .ok (.ldc2_w 240, 3) := by decide +kernel
theorem dX11_isBufferWord_37 : decode cX11_isBufferWord 37 = .ok (.ldc2_w 242, 3) := by decide +kernel
theorem dX11_isBufferWord_40 : decode cX11_isBufferWord 40 = .ok (.invokestatic 65, 3) := by decide +kernel
theorem dX11_isBufferWord_43 : decode cX11_isBufferWord 43 = .ok (.istore_n 1, 1) := by decide +kernel
theorem dX11_isBufferWord_44 : decode cX11_isBufferWord 44 = .ok (.iinc 2 1, 3) := by decide +kernel
theorem dX11_isBufferWord_47 : decode cX11_isBufferWord 47 = .ok (.goto (-32), 3) := by decide +kernel
theorem dX11_isBufferWord_50 : decode cX11_isBufferWord 50 = .ok (.iload_n 1, 1) := by decide +kernel
theorem dX11_isBufferWord_51 : decode cX11_isBufferWord 51 = .ok (.ifCond .eq 12, 3) := by decide +kernel
theorem dX11_isBufferWord_54 : decode cX11_isBufferWord 54 = .ok (.aload_n 0, 1) := by decide +kernel
theorem dX11_isBufferWord_55 : decode cX11_isBufferWord 55 = .ok (.iconst 0, 1) := by decide +kernel
theorem dX11_isBufferWord_56 : decode cX11_isBufferWord 56 = .ok (.aload_n 0, 1) := by decide +kernel
theorem dX11_isBufferWord_57 : decode cX11_isBufferWord 57 = .ok (.getfield 53, 3) := by decide +kernel
theorem dX11_isBufferWord_60 : decode cX11_isBufferWord 60 = .ok (.invokevirtual 266, 3) := by decide +kernel
theorem dX11_isBufferWord_63 : decode cX11_isBufferWord 63 = .ok (.iload_n 1, 1) := by decide +kernel
theorem dX11_isBufferWord_64 : decode cX11_isBufferWord 64 = .ok (.ireturn, 1) := by decide +kernel
def st_X11_isBufferWord_15 (N : Nat) (l1 : Bool) (l2 : Int32) (t : HV) : Option ((Bool × Int32 × HV) ⊕ (Bool × (HV))) := (if (t.1 11) ≤ l2 then (if l1 = true then (ob1 (F_X11_takesWord N 0 (t.1 11) t) fun t2 => some (.inr (l1, t2))) else some (.inr (l1, t))) else (if l1 = true then (if vpb l2 800 = true then some (.inl ((F_X11_in (((ag t 10 l2) : Int32).toInt64) (97 : Int64) (122 : Int64)), (l2 + 1), t)) else none) else (if l1 = true then (ob1 (F_X11_takesWord N 0 (t.1 11) t) fun t4 => some (.inr (l1, t4))) else some (.inr (l1, t)))))
def F_X11_isBufferWord (N : Nat) (t : HV) : Option (Bool × (HV)) := (lpN N (fun z => st_X11_isBufferWord_15 N z.1 z.2.1 z.2.2) ((F_X11_in (((t.1 11) : Int32).toInt64) (1 : Int64) (12 : Int64)), 0, t))
theorem lp_X11_isBufferWord_15 {w : WP} (hW : gWM w) {Ω : OM}    {N : Nat} {X : CX} (C : gC w X cX11_isBufferWord "HedgeMessagesModel" (some .boolean) 1 3) {v : Bool} {t' : HV}  : ∀ (n : Nat) (l1 : Bool) (l2 : Int32) (t : HV), lpN n (fun z : Bool × Int32 × HV => st_X11_isBufferWord_15 N z.1 z.2.1 z.2.2) (l1, l2, t) = some (v, t') → gV w X (some (.int (b2i v)), cA w (sM Ω t')) (cA w (sM Ω t)) 15 [(0, .ref (wAd w (11, 12, 0, 0))), (1, .int (b2i l1)), (2, .int l2)] [] := by
  intro n
  induction n with
  | zero => intro l1 l2 t hL; exact lpN_0 hL
  | succ n ih =>
    intro l1 l2 t hL
    obtain ⟨q9, hF, hL⟩ := lpN_e hL
    change st_X11_isBufferWord_15 N l1 l2 t = some q9 at hF
    unfold st_X11_isBufferWord_15 at hF
    refine r_iload_n C (k := 2) rfl rfl dX11_isBufferWord_15 ?_
    refine r_aload_n C (k := 0) rfl rfl dX11_isBufferWord_16 ?_
    refine og_11_11 C (hW.ok k11) (show (sM Ω t).2.1 = t from rfl) wm7_78 dX11_isBufferWord_17 ?_
    refine r_icmp_ge C (tgt := 50) rfl dX11_isBufferWord_20 (fun hc => ?_) (fun hc => ?_)
    · rw [if_pos hc] at hF
      refine r_iload_n C (k := 1) rfl rfl dX11_isBufferWord_50 ?_
      refine r_if_eq C (tgt := 63) rfl dX11_isBufferWord_51 (fun hc => ?_) (fun hc => ?_)
      · rw [if_neg (b2i_f hc)] at hF
        refine r_iload_n C (k := 1) rfl rfl dX11_isBufferWord_63 ?_
        cases hF
        change some _ = some _ at hL
        cases hL
        exact r_zreturn C _ rfl dX11_isBufferWord_64
      · rw [if_pos (b2i_t hc)] at hF
        refine r_aload_n C (k := 0) rfl rfl dX11_isBufferWord_54 ?_
        refine r_iconst C (v := 0) rfl dX11_isBufferWord_55 ?_
        refine r_aload_n C (k := 0) rfl rfl dX11_isBufferWord_56 ?_
        refine og_11_11 C (hW.ok k11) (show (sM Ω t).2.1 = t from rfl) wm7_78 dX11_isBufferWord_57 ?_
        obtain ⟨t2, ht2, hF⟩ := ob1_e hF
        refine r_callV C (d' := 0) [.int 0, .int (t.1 11)] (c_X11_takesWord hW (show (sM Ω t).2.1 = t from rfl) N 0 (t.1 11) ht2 rfl) myX11_takesWord wm7_48 ⟨_, _, _, _, (hW.ok k11), rfl, rfl, rfl, rfl⟩ rfl (kR rfl) (by decide) (kR rfl) rfl dX11_isBufferWord_60 ?_
        refine r_iload_n C (k := 1) rfl rfl dX11_isBufferWord_63 ?_
        cases hF
        change some _ = some _ at hL
        cases hL
        exact r_zreturn C _ rfl dX11_isBufferWord_64
    · rw [if_neg hc] at hF
      refine r_iload_n C (k := 1) rfl rfl dX11_isBufferWord_23 ?_
      refine r_if_eq C (tgt := 50) rfl dX11_isBufferWord_24 (fun hc => ?_) (fun hc => ?_)
      · rw [if_neg (b2i_f hc)] at hF
        refine r_iload_n C (k := 1) rfl rfl dX11_isBufferWord_50 ?_
        refine r_if_eq C (tgt := 63) rfl dX11_isBufferWord_51 (fun hc => ?_) (fun hc => ?_)
        · rw [if_neg (b2i_f hc)] at hF
          refine r_iload_n C (k := 1) rfl rfl dX11_isBufferWord_63 ?_
          cases hF
          change some _ = some _ at hL
          cases hL
          exact r_zreturn C _ rfl dX11_isBufferWord_64
        · rw [if_pos (b2i_t hc)] at hF
          refine r_aload_n C (k := 0) rfl rfl dX11_isBufferWord_54 ?_
          refine r_iconst C (v := 0) rfl dX11_isBufferWord_55 ?_
          refine r_aload_n C (k := 0) rfl rfl dX11_isBufferWord_56 ?_
          refine og_11_11 C (hW.ok k11) (show (sM Ω t).2.1 = t from rfl) wm7_78 dX11_isBufferWord_57 ?_
          obtain ⟨t4, ht4, hF⟩ := ob1_e hF
          refine r_callV C (d' := 0) [.int 0, .int (t.1 11)] (c_X11_takesWord hW (show (sM Ω t).2.1 = t from rfl) N 0 (t.1 11) ht4 rfl) myX11_takesWord wm7_48 ⟨_, _, _, _, (hW.ok k11), rfl, rfl, rfl, rfl⟩ rfl (kR rfl) (by decide) (kR rfl) rfl dX11_isBufferWord_60 ?_
          refine r_iload_n C (k := 1) rfl rfl dX11_isBufferWord_63 ?_
          cases hF
          change some _ = some _ at hL
          cases hL
          exact r_zreturn C _ rfl dX11_isBufferWord_64
      · rw [if_pos (b2i_t hc)] at hF
        refine r_aload_n C (k := 0) rfl rfl dX11_isBufferWord_27 ?_
        refine og_11_10 C (hW.ok k11) wm7_77 dX11_isBufferWord_28 ?_
        refine r_iload_n C (k := 2) rfl rfl dX11_isBufferWord_31 ?_
        obtain ⟨b5, hF⟩ := gd_e hF
        refine m_ald C (hW.ok (k12 (a := 10) (by unfold okMa; decide))) (show (sM Ω t).2.1 = t from rfl) rfl b5 dX11_isBufferWord_32 ?_
        refine r_i2l C (v := (((ag t 10 l2) : Int32).toInt64)) rfl dX11_isBufferWord_33 ?_
        refine r_ldc2 C wm6_206 dX11_isBufferWord_34 ?_
        refine r_ldc2 C wm6_207 dX11_isBufferWord_37 ?_
        refine r_callS C (d' := 0) [.long (((ag t 10 l2) : Int32).toInt64), .long (97 : Int64), .long (122 : Int64)] (c_X11_in (((ag t 10 l2) : Int32).toInt64) (97 : Int64) (122 : Int64) rfl) myX11_in wm6_208 rfl (kR rfl) (by decide) (kR rfl) rfl dX11_isBufferWord_40 ?_
        refine r_istore_n C (lo' := [(1, .int (b2i (F_X11_in (((ag t 10 l2) : Int32).toInt64) (97 : Int64) (122 : Int64)))), (0, .ref (wAd w (11, 12, 0, 0))), (2, .int l2)]) rfl (by decide) rfl dX11_isBufferWord_43 ?_
        refine r_iinc C (k := 2) (v := (l2 + 1)) (lo' := [(2, .int (l2 + 1)), (1, .int (b2i (F_X11_in (((ag t 10 l2) : Int32).toInt64) (97 : Int64) (122 : Int64)))), (0, .ref (wAd w (11, 12, 0, 0)))]) rfl rfl (by decide) rfl dX11_isBufferWord_44 ?_
        refine r_goto C (tgt := 15) rfl dX11_isBufferWord_47 ?_
        cases hF
        change lpN n _ _ = some _ at hL
        refine r_lo [2, 1, 0] (lo' := [(0, .ref (wAd w (11, 12, 0, 0))), (1, .int (b2i (F_X11_in (((ag t 10 l2) : Int32).toInt64) (97 : Int64) (122 : Int64)))), (2, .int (l2 + 1))]) rfl ?_
        exact ih (F_X11_in (((ag t 10 l2) : Int32).toInt64) (97 : Int64) (122 : Int64)) (l2 + 1) t hL
theorem c_X11_isBufferWord {w : WP} (hW : gWM w) {Ω : OM}  {t : HV} (e : Ω.2.1 = t) (N : Nat)  {v : Bool} {t' : HV} (hF : F_X11_isBufferWord N t = some (v, t')) {Ω' : OM} (e2 : (sM Ω t') = Ω') : gM w 1 yX11_isBufferWord cX11_isBufferWord 3 (some .boolean) [.ref (wAd w (11, 12, 0, 0))] (cA w Ω) (some (.int (b2i v))) (cA w Ω') := by
  refine gM_of "HedgeMessagesModel" rfl (by decide) (kR rfl) fun X C => ?_
  unfold F_X11_isBufferWord at hF
  subst e2
  show gV w X _ _ 0 [(0, .ref (wAd w (11, 12, 0, 0)))] []
  refine r_ct (ct' := cA w (sM Ω t)) (congrArg (cA w) (sM_i e).symm) ?_
  refine r_aload_n C (k := 0) rfl rfl dX11_isBufferWord_0 ?_
  refine og_11_11 C (hW.ok k11) (show (sM Ω t).2.1 = t from rfl) wm7_78 dX11_isBufferWord_1 ?_
  refine r_i2l C (v := (((t.1 11) : Int32).toInt64)) rfl dX11_isBufferWord_4 ?_
  refine r_lconst C (v := 1) rfl dX11_isBufferWord_5 ?_
  refine r_ldc2 C wm7_47 dX11_isBufferWord_6 ?_
  refine r_callS C (d' := 0) [.long (((t.1 11) : Int32).toInt64), .long (1 : Int64), .long (12 : Int64)] (c_X11_in (((t.1 11) : Int32).toInt64) (1 : Int64) (12 : Int64) rfl) myX11_in wm6_208 rfl (kR rfl) (by decide) (kR rfl) rfl dX11_isBufferWord_9 ?_
  refine r_istore_n C (lo' := [(1, .int (b2i (F_X11_in (((t.1 11) : Int32).toInt64) (1 : Int64) (12 : Int64)))), (0, .ref (wAd w (11, 12, 0, 0)))]) rfl (by decide) rfl dX11_isBufferWord_12 ?_
  refine r_iconst C (v := 0) rfl dX11_isBufferWord_13 ?_
  refine r_istore_n C (lo' := [(2, .int 0), (1, .int (b2i (F_X11_in (((t.1 11) : Int32).toInt64) (1 : Int64) (12 : Int64)))), (0, .ref (wAd w (11, 12, 0, 0)))]) rfl (by decide) rfl dX11_isBufferWord_14 ?_
  refine r_lo [2, 1, 0] (lo' := [(0, .ref (wAd w (11, 12, 0, 0))), (1, .int (b2i (F_X11_in (((t.1 11) : Int32).toInt64) (1 : Int64) (12 : Int64)))), (2, .int 0)]) rfl ?_
  exact lp_X11_isBufferWord_15 hW C N (F_X11_in (((t.1 11) : Int32).toInt64) (1 : Int64) (12 : Int64)) 0 t hF
theorem dX11_queueMessage_0 : decode cX11_queueMessage 0 = .ok (.iload_n 1, 1) := by decide +kernel
theorem dX11_queueMessage_1 : decode cX11_queueMessage 1 = .ok (.invokestatic 385, 3) := by decide +kernel
theorem dX11_queueMessage_4 : decode cX11_queueMessage 4 = .ok (.ifCond .eq 14, 3) := by decide +kernel
theorem dX11_queueMessage_7 : decode cX11_queueMessage 7 = .ok (.aload_n 0, 1) := by decide +kernel
theorem dX11_queueMessage_8 : decode cX11_queueMessage 8 = .ok (.invokevirtual 439, 3) := by decide +kernel
theorem dX11_queueMessage_11 : decode cX11_queueMessage 11 = .ok (.ifCond .eq 7, 3) := by decide +kernel
theorem dX11_queueMessage_14 : decode cX11_queueMessage 14 = .ok (.iconst 1, 1) := by decide +kernel
theorem dX11_queueMessage_15 : decode cX11_queueMessage 15 = .ok (.goto 4, 3) := by decide +kernel
theorem dX11_queueMessage_18 : decode cX11_queueMessage 18 = .ok (.iconst 0, 1) := by decide +kernel
theorem dX11_queueMessage_19 : decode cX11_queueMessage 19 = .ok (.istore_n 2, 1) := by decide +kernel
theorem dX11_queueMessage_20 : decode cX11_queueMessage 20 = .ok (.aload_n 0, 1) := by decide +kernel
theorem dX11_queueMessage_21 : decode cX11_queueMessage 21 = .ok (.aload_n 0, 1) := by decide +kernel
theorem dX11_queueMessage_22 : decode cX11_queueMessage 22 = .ok (.iload_n 2, 1) := by decide +kernel
theorem dX11_queueMessage_23 : decode cX11_queueMessage 23 = .ok (.iload_n 2, 1) := by decide +kernel
theorem dX11_queueMessage_24 : decode cX11_queueMessage 24 = .ok (.ifCond .eq 21, 3) := by decide +kernel
theorem dX11_queueMessage_27 : decode cX11_queueMessage 27 = .ok (.aload_n 0, 1) := by decide +kernel
theorem dX11_queueMessage_28 : decode cX11_queueMessage 28 = .ok (.getfield 7, 3) := by decide +kernel
theorem dX11_queueMessage_31 : decode cX11_queueMessage 31 = .ok (.bipush 12, 2) := by decide +kernel
theorem dX11_queueMessage_33 : decode cX11_queueMessage 33 = .ok (.iload_n 1, 1) := by decide +kernel
theorem dX11_queueMessage_34 : decode cX11_queueMessage 34 = .ok (.iadd, 1) := by decide +kernel
theorem dX11_queueMessage_35 : decode cX11_queueMessage 35 = .ok (.iaload, 1) := by decide +kernel
theorem dX11_queueMessage_36 : decode cX11_queueMessage 36 = .ok (.bipush 8, 2) := by decide +kernel
theorem dX11_queueMessage_38 : decode cX11_queueMessage 38 = .ok (.if_icmp .ge 7, 3) := by decide +kernel
theorem dX11_queueMessage_41 : decode cX11_queueMessage 41 = .ok (.iconst 1, 1) := by decide +kernel
theorem dX11_queueMessage_42 : decode cX11_queueMessage 42 = .ok (.goto 4, 3) := by decide +kernel
theorem dX11_queueMessage_45 : decode cX11_queueMessage 45 = .ok (.iconst 0, 1) := by decide +kernel
theorem dX11_queueMessage_46 : decode cX11_queueMessage 46 = .ok (.invokevirtual 431, 3) := by decide +kernel
theorem dX11_queueMessage_49 : decode cX11_queueMessage 49 = .ok (.invokevirtual 425, 3) := by decide +kernel
theorem dX11_queueMessage_52 : decode cX11_queueMessage 52 = .ok (.ifCond .ne 5, 3) := by decide +kernel
theorem dX11_queueMessage_55 : decode cX11_queueMessage 55 = .ok (.iconst 0, 1) := by decide +kernel
theorem dX11_queueMessage_56 : decode cX11_queueMessage 56 = .ok (.ireturn, 1) := by decide +kernel
theorem dX11_queueMessage_57 : decode cX11_queueMessage 57 = .ok (.aload_n 0, 1) := by decide +kernel
theorem dX11_queueMessage_58 : decode cX11_queueMessage 58 = .ok (.iconst 0, 1) := by decide +kernel
theorem dX11_queueMessage_59 : decode cX11_queueMessage 59 = .ok (.putfield 53, 3) := by decide +kernel
theorem dX11_queueMessage_62 : decode cX11_queueMessage 62 = .ok (.aload_n 0, 1) := by decide +kernel
theorem dX11_queueMessage_63 : decode cX11_queueMessage 63 = .ok (.aload_n 0, 1) := by decide +kernel
theorem dX11_queueMessage_64 : decode cX11_queueMessage 64 = .ok (.iload_n 1, 1) := by decide +kernel
theorem dX11_queueMessage_65 : decode cX11_queueMessage 65 = .ok (.invokevirtual 290, 3) := by decide +kernel
theorem dX11_queueMessage_68 : decode cX11_queueMessage 68 = .ok (.invokevirtual 428, 3) := by decide +kernel
theorem dX11_queueMessage_71 : decode cX11_queueMessage 71 = .ok (.ireturn, 1) := by decide +kernel
def F_X11_queueMessage (N : Nat) (a1 : Int32) (t : HV) : Option (Int32 × (HV)) := (if (F_X11_isGardener a1) = true then (ob (F_X11_isBufferWord N t) fun v10 t11 => (if v10 = true then (if vpb (12 + a1) 760 = true then (if 8 ≤ (ag t11 0 (12 + a1)) then (lt2 (F_X11_passesBoth true false t11) fun v22 t23 => (ob (F_X11_tried N v22 t23) fun v24 t25 => (if v24 = true then (lt (sS t25 11 0) fun t26 => (ob (F_X11_messageNow N a1 t26) fun v27 t28 => (ob (F_X11_done N v27 t28) fun v29 t30 => some (v29, t30)))) else some (0, t25)))) else (lt2 (F_X11_passesBoth true true t11) fun v31 t32 => (ob (F_X11_tried N v31 t32) fun v33 t34 => (if v33 = true then (lt (sS t34 11 0) fun t35 => (ob (F_X11_messageNow N a1 t35) fun v36 t37 => (ob (F_X11_done N v36 t37) fun v38 t39 => some (v38, t39)))) else some (0, t34))))) else none) else (lt2 (F_X11_passesBoth false false t11) fun v12 t13 => (ob (F_X11_tried N v12 t13) fun v14 t15 => (if v14 = true then (lt (sS t15 11 0) fun t16 => (ob (F_X11_messageNow N a1 t16) fun v17 t18 => (ob (F_X11_done N v17 t18) fun v19 t20 => some (v19, t20)))) else some (0, t15)))))) else (lt2 (F_X11_passesBoth false false t) fun v1 t2 => (ob (F_X11_tried N v1 t2) fun v3 t4 => (if v3 = true then (lt (sS t4 11 0) fun t5 => (ob (F_X11_messageNow N a1 t5) fun v6 t7 => (ob (F_X11_done N v6 t7) fun v8 t9 => some (v8, t9)))) else some (0, t4)))))
theorem c_X11_queueMessage {w : WP} (hW : gWM w) {Ω : OM}  {t : HV} (e : Ω.2.1 = t) (N : Nat) (a1 : Int32) {v : Int32} {t' : HV} (hF : F_X11_queueMessage N a1 t = some (v, t')) {Ω' : OM} (e2 : (sM Ω t') = Ω') : gM w 3 yX11_queueMessage cX11_queueMessage 3 (some .int) [.ref (wAd w (11, 12, 0, 0)), .int a1] (cA w Ω) (some (.int v)) (cA w Ω') := by
  refine gM_of "HedgeMessagesModel" rfl (by decide) (kR rfl) fun X C => ?_
  unfold F_X11_queueMessage at hF
  subst e2
  show gV w X _ _ 0 [(0, .ref (wAd w (11, 12, 0, 0))), (1, .int a1)] []
  refine r_ct (ct' := cA w (sM Ω t)) (congrArg (cA w) (sM_i e).symm) ?_
  refine r_iload_n C (k := 1) rfl rfl dX11_queueMessage_0 ?_
  refine r_callS C (d' := 1) [.int a1] (c_X11_isGardener a1 rfl) myX11_isGardener wm8_193 rfl (kR rfl) (by decide) (kR rfl) rfl dX11_queueMessage_1 ?_
  refine r_if_eq C (tgt := 18) rfl dX11_queueMessage_4 (fun hc => ?_) (fun hc => ?_)
  · rw [if_neg (b2i_f hc)] at hF
    refine r_iconst C (v := 0) rfl dX11_queueMessage_18 ?_
    refine r_istore_n C (lo' := [(2, .int 0), (0, .ref (wAd w (11, 12, 0, 0))), (1, .int a1)]) rfl (by decide) rfl dX11_queueMessage_19 ?_
    refine r_aload_n C (k := 1) rfl rfl dX11_queueMessage_20 ?_
    refine r_aload_n C (k := 1) rfl rfl dX11_queueMessage_21 ?_
    refine r_iload_n C (k := 0) rfl rfl dX11_queueMessage_22 ?_
    refine r_iload_n C (k := 0) rfl rfl dX11_queueMessage_23 ?_
    refine r_if_eq C (tgt := 45) rfl dX11_queueMessage_24 (fun _ => ?_) (fun h => absurd h (by decide))
    refine r_iconst C (v := 0) rfl dX11_queueMessage_45 ?_
    obtain ⟨v1, t2, ht2, hF⟩ := lt2_e hF
    refine r_callV C (d' := 0) [.int (b2i false), .int (b2i false)] (c_X11_passesBoth hW (show (sM Ω t).2.1 = t from rfl) false false ht2 rfl) myX11_passesBoth wm9_136 ⟨_, _, _, _, (hW.ok k11), rfl, rfl, rfl, rfl⟩ rfl (kR rfl) (by decide) (kR rfl) rfl dX11_queueMessage_46 ?_
    obtain ⟨v3, t4, ht4, hF⟩ := ob_e hF
    refine r_callV C (d' := 1) [.int (b2i v1)] (c_X11_tried hW (show (sM Ω t2).2.1 = t2 from rfl) N v1 ht4 rfl) myX11_tried wm9_124 ⟨_, _, _, _, (hW.ok k11), rfl, rfl, rfl, rfl⟩ rfl (kR rfl) (by decide) (kR rfl) rfl dX11_queueMessage_49 ?_
    refine r_if_ne C (tgt := 57) rfl dX11_queueMessage_52 (fun hc => ?_) (fun hc => ?_)
    · rw [if_pos (b2i_t hc)] at hF
      refine r_aload_n C (k := 1) rfl rfl dX11_queueMessage_57 ?_
      refine r_iconst C (v := 0) rfl dX11_queueMessage_58 ?_
      obtain ⟨t5, et5, hF⟩ := lt_e hF
      refine op_11_11 C hW.x (hW.fr k11) (show (sM Ω t4).2.1 = t4 from rfl) wm7_78 dX11_queueMessage_59 (congrArg (sM Ω) et5) ?_
      refine r_aload_n C (k := 1) rfl rfl dX11_queueMessage_62 ?_
      refine r_aload_n C (k := 1) rfl rfl dX11_queueMessage_63 ?_
      refine r_iload_n C (k := 2) rfl rfl dX11_queueMessage_64 ?_
      obtain ⟨v6, t7, ht7, hF⟩ := ob_e hF
      refine r_callV C (d' := 1) [.int a1] (c_X11_messageNow hW (show (sM Ω t5).2.1 = t5 from rfl) N a1 ht7 rfl) myX11_messageNow wm7_52 ⟨_, _, _, _, (hW.ok k11), rfl, rfl, rfl, rfl⟩ rfl (kR rfl) (by decide) (kR rfl) rfl dX11_queueMessage_65 ?_
      obtain ⟨v8, t9, ht9, hF⟩ := ob_e hF
      refine r_callV C (d' := 2) [.int (b2i v6)] (c_X11_done hW (show (sM Ω t7).2.1 = t7 from rfl) N v6 ht9 rfl) myX11_done wm9_128 ⟨_, _, _, _, (hW.ok k11), rfl, rfl, rfl, rfl⟩ rfl (kR rfl) (by decide) (kR rfl) rfl dX11_queueMessage_68 ?_
      cases hF
      exact r_ireturn C dX11_queueMessage_71
    · rw [if_neg (b2i_f hc)] at hF
      refine r_iconst C (v := 0) rfl dX11_queueMessage_55 ?_
      cases hF
      exact r_ireturn C dX11_queueMessage_56
  · rw [if_pos (b2i_t hc)] at hF
    refine r_aload_n C (k := 0) rfl rfl dX11_queueMessage_7 ?_
    obtain ⟨v10, t11, ht11, hF⟩ := ob_e hF
    refine r_callV C (d' := 1) [] (c_X11_isBufferWord hW (show (sM Ω t).2.1 = t from rfl) N ht11 rfl) myX11_isBufferWord wm9_154 ⟨_, _, _, _, (hW.ok k11), rfl, rfl, rfl, rfl⟩ rfl (kR rfl) (by decide) (kR rfl) rfl dX11_queueMessage_8 ?_
    refine r_if_eq C (tgt := 18) rfl dX11_queueMessage_11 (fun hc => ?_) (fun hc => ?_)
    · rw [if_neg (b2i_f hc)] at hF
      refine r_iconst C (v := 0) rfl dX11_queueMessage_18 ?_
      refine r_istore_n C (lo' := [(2, .int 0), (0, .ref (wAd w (11, 12, 0, 0))), (1, .int a1)]) rfl (by decide) rfl dX11_queueMessage_19 ?_
      refine r_aload_n C (k := 1) rfl rfl dX11_queueMessage_20 ?_
      refine r_aload_n C (k := 1) rfl rfl dX11_queueMessage_21 ?_
      refine r_iload_n C (k := 0) rfl rfl dX11_queueMessage_22 ?_
      refine r_iload_n C (k := 0) rfl rfl dX11_queueMessage_23 ?_
      refine r_if_eq C (tgt := 45) rfl dX11_queueMessage_24 (fun _ => ?_) (fun h => absurd h (by decide))
      refine r_iconst C (v := 0) rfl dX11_queueMessage_45 ?_
      obtain ⟨v12, t13, ht13, hF⟩ := lt2_e hF
      refine r_callV C (d' := 0) [.int (b2i false), .int (b2i false)] (c_X11_passesBoth hW (show (sM Ω t11).2.1 = t11 from rfl) false false ht13 rfl) myX11_passesBoth wm9_136 ⟨_, _, _, _, (hW.ok k11), rfl, rfl, rfl, rfl⟩ rfl (kR rfl) (by decide) (kR rfl) rfl dX11_queueMessage_46 ?_
      obtain ⟨v14, t15, ht15, hF⟩ := ob_e hF
      refine r_callV C (d' := 1) [.int (b2i v12)] (c_X11_tried hW (show (sM Ω t13).2.1 = t13 from rfl) N v12 ht15 rfl) myX11_tried wm9_124 ⟨_, _, _, _, (hW.ok k11), rfl, rfl, rfl, rfl⟩ rfl (kR rfl) (by decide) (kR rfl) rfl dX11_queueMessage_49 ?_
      refine r_if_ne C (tgt := 57) rfl dX11_queueMessage_52 (fun hc => ?_) (fun hc => ?_)
      · rw [if_pos (b2i_t hc)] at hF
        refine r_aload_n C (k := 1) rfl rfl dX11_queueMessage_57 ?_
        refine r_iconst C (v := 0) rfl dX11_queueMessage_58 ?_
        obtain ⟨t16, et16, hF⟩ := lt_e hF
        refine op_11_11 C hW.x (hW.fr k11) (show (sM Ω t15).2.1 = t15 from rfl) wm7_78 dX11_queueMessage_59 (congrArg (sM Ω) et16) ?_
        refine r_aload_n C (k := 1) rfl rfl dX11_queueMessage_62 ?_
        refine r_aload_n C (k := 1) rfl rfl dX11_queueMessage_63 ?_
        refine r_iload_n C (k := 2) rfl rfl dX11_queueMessage_64 ?_
        obtain ⟨v17, t18, ht18, hF⟩ := ob_e hF
        refine r_callV C (d' := 1) [.int a1] (c_X11_messageNow hW (show (sM Ω t16).2.1 = t16 from rfl) N a1 ht18 rfl) myX11_messageNow wm7_52 ⟨_, _, _, _, (hW.ok k11), rfl, rfl, rfl, rfl⟩ rfl (kR rfl) (by decide) (kR rfl) rfl dX11_queueMessage_65 ?_
        obtain ⟨v19, t20, ht20, hF⟩ := ob_e hF
        refine r_callV C (d' := 2) [.int (b2i v17)] (c_X11_done hW (show (sM Ω t18).2.1 = t18 from rfl) N v17 ht20 rfl) myX11_done wm9_128 ⟨_, _, _, _, (hW.ok k11), rfl, rfl, rfl, rfl⟩ rfl (kR rfl) (by decide) (kR rfl) rfl dX11_queueMessage_68 ?_
        cases hF
        exact r_ireturn C dX11_queueMessage_71
      · rw [if_neg (b2i_f hc)] at hF
        refine r_iconst C (v := 0) rfl dX11_queueMessage_55 ?_
        cases hF
        exact r_ireturn C dX11_queueMessage_56
    · rw [if_pos (b2i_t hc)] at hF
      refine r_iconst C (v := 1) rfl dX11_queueMessage_14 ?_
      refine r_goto C (tgt := 19) rfl dX11_queueMessage_15 ?_
      refine r_istore_n C (lo' := [(2, .int 1), (0, .ref (wAd w (11, 12, 0, 0))), (1, .int a1)]) rfl (by decide) rfl dX11_queueMessage_19 ?_
      refine r_aload_n C (k := 1) rfl rfl dX11_queueMessage_20 ?_
      refine r_aload_n C (k := 1) rfl rfl dX11_queueMessage_21 ?_
      refine r_iload_n C (k := 0) rfl rfl dX11_queueMessage_22 ?_
      refine r_iload_n C (k := 0) rfl rfl dX11_queueMessage_23 ?_
      refine r_if_eq C (tgt := 45) rfl dX11_queueMessage_24 (fun h => absurd h (by decide)) (fun _ => ?_)
      refine r_aload_n C (k := 1) rfl rfl dX11_queueMessage_27 ?_
      refine og_11_0 C (hW.ok k11) wm7_67 dX11_queueMessage_28 ?_
      refine r_bipush C (v := 12) rfl dX11_queueMessage_31 ?_
      refine r_iload_n C (k := 2) rfl rfl dX11_queueMessage_33 ?_
      refine r_iadd C dX11_queueMessage_34 ?_
      obtain ⟨b21, hF⟩ := gd_e hF
      refine m_ald C (hW.ok (k12 (a := 0) (by unfold okMa; decide))) (show (sM Ω t11).2.1 = t11 from rfl) rfl b21 dX11_queueMessage_35 ?_
      refine r_bipush C (v := 8) rfl dX11_queueMessage_36 ?_
      refine r_icmp_ge C (tgt := 45) rfl dX11_queueMessage_38 (fun hc => ?_) (fun hc => ?_)
      · rw [if_pos hc] at hF
        refine r_iconst C (v := 0) rfl dX11_queueMessage_45 ?_
        obtain ⟨v22, t23, ht23, hF⟩ := lt2_e hF
        refine r_callV C (d' := 0) [.int (b2i true), .int (b2i false)] (c_X11_passesBoth hW (show (sM Ω t11).2.1 = t11 from rfl) true false ht23 rfl) myX11_passesBoth wm9_136 ⟨_, _, _, _, (hW.ok k11), rfl, rfl, rfl, rfl⟩ rfl (kR rfl) (by decide) (kR rfl) rfl dX11_queueMessage_46 ?_
        obtain ⟨v24, t25, ht25, hF⟩ := ob_e hF
        refine r_callV C (d' := 1) [.int (b2i v22)] (c_X11_tried hW (show (sM Ω t23).2.1 = t23 from rfl) N v22 ht25 rfl) myX11_tried wm9_124 ⟨_, _, _, _, (hW.ok k11), rfl, rfl, rfl, rfl⟩ rfl (kR rfl) (by decide) (kR rfl) rfl dX11_queueMessage_49 ?_
        refine r_if_ne C (tgt := 57) rfl dX11_queueMessage_52 (fun hc => ?_) (fun hc => ?_)
        · rw [if_pos (b2i_t hc)] at hF
          refine r_aload_n C (k := 1) rfl rfl dX11_queueMessage_57 ?_
          refine r_iconst C (v := 0) rfl dX11_queueMessage_58 ?_
          obtain ⟨t26, et26, hF⟩ := lt_e hF
          refine op_11_11 C hW.x (hW.fr k11) (show (sM Ω t25).2.1 = t25 from rfl) wm7_78 dX11_queueMessage_59 (congrArg (sM Ω) et26) ?_
          refine r_aload_n C (k := 1) rfl rfl dX11_queueMessage_62 ?_
          refine r_aload_n C (k := 1) rfl rfl dX11_queueMessage_63 ?_
          refine r_iload_n C (k := 2) rfl rfl dX11_queueMessage_64 ?_
          obtain ⟨v27, t28, ht28, hF⟩ := ob_e hF
          refine r_callV C (d' := 1) [.int a1] (c_X11_messageNow hW (show (sM Ω t26).2.1 = t26 from rfl) N a1 ht28 rfl) myX11_messageNow wm7_52 ⟨_, _, _, _, (hW.ok k11), rfl, rfl, rfl, rfl⟩ rfl (kR rfl) (by decide) (kR rfl) rfl dX11_queueMessage_65 ?_
          obtain ⟨v29, t30, ht30, hF⟩ := ob_e hF
          refine r_callV C (d' := 2) [.int (b2i v27)] (c_X11_done hW (show (sM Ω t28).2.1 = t28 from rfl) N v27 ht30 rfl) myX11_done wm9_128 ⟨_, _, _, _, (hW.ok k11), rfl, rfl, rfl, rfl⟩ rfl (kR rfl) (by decide) (kR rfl) rfl dX11_queueMessage_68 ?_
          cases hF
          exact r_ireturn C dX11_queueMessage_71
        · rw [if_neg (b2i_f hc)] at hF
          refine r_iconst C (v := 0) rfl dX11_queueMessage_55 ?_
          cases hF
          exact r_ireturn C dX11_queueMessage_56
      · rw [if_neg hc] at hF
        refine r_iconst C (v := 1) rfl dX11_queueMessage_41 ?_
        refine r_goto C (tgt := 46) rfl dX11_queueMessage_42 ?_
        obtain ⟨v31, t32, ht32, hF⟩ := lt2_e hF
        refine r_callV C (d' := 0) [.int (b2i true), .int (b2i true)] (c_X11_passesBoth hW (show (sM Ω t11).2.1 = t11 from rfl) true true ht32 rfl) myX11_passesBoth wm9_136 ⟨_, _, _, _, (hW.ok k11), rfl, rfl, rfl, rfl⟩ rfl (kR rfl) (by decide) (kR rfl) rfl dX11_queueMessage_46 ?_
        obtain ⟨v33, t34, ht34, hF⟩ := ob_e hF
        refine r_callV C (d' := 1) [.int (b2i v31)] (c_X11_tried hW (show (sM Ω t32).2.1 = t32 from rfl) N v31 ht34 rfl) myX11_tried wm9_124 ⟨_, _, _, _, (hW.ok k11), rfl, rfl, rfl, rfl⟩ rfl (kR rfl) (by decide) (kR rfl) rfl dX11_queueMessage_49 ?_
        refine r_if_ne C (tgt := 57) rfl dX11_queueMessage_52 (fun hc => ?_) (fun hc => ?_)
        · rw [if_pos (b2i_t hc)] at hF
          refine r_aload_n C (k := 1) rfl rfl dX11_queueMessage_57 ?_
          refine r_iconst C (v := 0) rfl dX11_queueMessage_58 ?_
          obtain ⟨t35, et35, hF⟩ := lt_e hF
          refine op_11_11 C hW.x (hW.fr k11) (show (sM Ω t34).2.1 = t34 from rfl) wm7_78 dX11_queueMessage_59 (congrArg (sM Ω) et35) ?_
          refine r_aload_n C (k := 1) rfl rfl dX11_queueMessage_62 ?_
          refine r_aload_n C (k := 1) rfl rfl dX11_queueMessage_63 ?_
          refine r_iload_n C (k := 2) rfl rfl dX11_queueMessage_64 ?_
          obtain ⟨v36, t37, ht37, hF⟩ := ob_e hF
          refine r_callV C (d' := 1) [.int a1] (c_X11_messageNow hW (show (sM Ω t35).2.1 = t35 from rfl) N a1 ht37 rfl) myX11_messageNow wm7_52 ⟨_, _, _, _, (hW.ok k11), rfl, rfl, rfl, rfl⟩ rfl (kR rfl) (by decide) (kR rfl) rfl dX11_queueMessage_65 ?_
          obtain ⟨v38, t39, ht39, hF⟩ := ob_e hF
          refine r_callV C (d' := 2) [.int (b2i v36)] (c_X11_done hW (show (sM Ω t37).2.1 = t37 from rfl) N v36 ht39 rfl) myX11_done wm9_128 ⟨_, _, _, _, (hW.ok k11), rfl, rfl, rfl, rfl⟩ rfl (kR rfl) (by decide) (kR rfl) rfl dX11_queueMessage_68 ?_
          cases hF
          exact r_ireturn C dX11_queueMessage_71
        · rw [if_neg (b2i_f hc)] at hF
          refine r_iconst C (v := 0) rfl dX11_queueMessage_55 ?_
          cases hF
          exact r_ireturn C dX11_queueMessage_56
theorem dX11_cancelMessage_0 : decode cX11_cancelMessage 0 = .ok (.iload_n 1, 1) := by decide +kernel
theorem dX11_cancelMessage_1 : decode cX11_cancelMessage 1 = .ok (.invokestatic 385, 3) := by decide +kernel
theorem dX11_cancelMessage_4 : decode cX11_cancelMessage 4 = .ok (.ifCond .eq 28, 3) := by decide +kernel
theorem dX11_cancelMessage_7 : decode cX11_cancelMessage 7 = .ok (.iload_n 2, 1) := by decide +kernel
theorem dX11_cancelMessage_8 : decode cX11_cancelMessage 8 = .ok (.i2l, 1) := by decide +kernel
theorem dX11_cancelMessage_9 : decode cX11_cancelMessage 9 = .ok (.lconst 0, 1) := by decide +kernel
theorem dX11_cancelMessage_10 : decode cX11_cancelMessage 10 = .ok (.aload_n 0, 1) := by decide +kernel
theorem dX11_cancelMessage_11 : decode cX11_cancelMessage 11 = .ok (.getfield 7, 3) := by decide +kernel
theorem dX11_cancelMessage_14 : decode cX11_cancelMessage 14 = .ok (.bipush 12, 2) := by decide +kernel
theorem dX11_cancelMessage_16 : decode cX11_cancelMessage 16 = .ok (.iload_n 1, 1) := by decide +kernel
theorem dX11_cancelMessage_17 : decode cX11_cancelMessage 17 = .ok (.iadd, 1) := by decide +kernel
theorem dX11_cancelMessage_18 : decode cX11_cancelMessage 18 = .ok (.iaload, 1) := by decide +kernel
theorem dX11_cancelMessage_19 : decode cX11_cancelMessage 19 = .ok (.iconst 1, 1) := by decide +kernel
theorem dX11_cancelMessage_20 : decode cX11_cancelMessage 20 = .ok (.isub, 1) := by decide +kernel
theorem dX11_cancelMessage_21 : decode cX11_cancelMessage 21 = .ok (.i2l, 1) := by decide +kernel
theorem dX11_cancelMessage_22 : decode cX11_cancelMessage 22 = .ok (.invokestatic 65, 3) := by decide +kernel
theorem dX11_cancelMessage_25 : decode cX11_cancelMessage 25 = .ok (.ifCond .eq 7, 3) := by decide +kernel
theorem dX11_cancelMessage_28 : decode cX11_cancelMessage 28 = .ok (.iconst 1, 1) := by decide +kernel
theorem dX11_cancelMessage_29 : decode cX11_cancelMessage 29 = .ok (.goto 4, 3) := by decide +kernel
theorem dX11_cancelMessage_32 : decode cX11_cancelMessage 32 = .ok (.iconst 0, 1) := by decide +kernel
theorem dX11_cancelMessage_33 : decode cX11_cancelMessage 33 = .ok (.istore_n 3, 1) := by decide +kernel
theorem dX11_cancelMessage_34 : decode cX11_cancelMessage 34 = .ok (.aload_n 0, 1) := by decide +kernel
theorem dX11_cancelMessage_35 : decode cX11_cancelMessage 35 = .ok (.aload_n 0, 1) := by decide +kernel
theorem dX11_cancelMessage_36 : decode cX11_cancelMessage 36 = .ok (.iload_n 1, 1) := by decide +kernel
theorem dX11_cancelMessage_37 : decode cX11_cancelMessage 37 = .ok (.invokestatic 385, 3) := by decide +kernel
theorem dX11_cancelMessage_40 : decode cX11_cancelMessage 40 = .ok (.iload_n 3, 1) := by decide +kernel
theorem dX11_cancelMessage_41 : decode cX11_cancelMessage 41 = .ok (.invokevirtual 431, 3) := by decide +kernel
theorem dX11_cancelMessage_44 : decode cX11_cancelMessage 44 = .ok (.invokevirtual 425, 3) := by decide +kernel
theorem dX11_cancelMessage_47 : decode cX11_cancelMessage 47 = .ok (.ifCond .eq 16, 3) := by decide +kernel
theorem dX11_cancelMessage_50 : decode cX11_cancelMessage 50 = .ok (.aload_n 0, 1) := by decide +kernel
theorem dX11_cancelMessage_51 : decode cX11_cancelMessage 51 = .ok (.aload_n 0, 1) := by decide +kernel
theorem dX11_cancelMessage_52 : decode cX11_cancelMessage 52 = .ok (.iload_n 1, 1) := by decide +kernel
theorem dX11_cancelMessage_53 : decode cX11_cancelMessage 53 = .ok (.iload_n 2, 1) := by decide +kernel
theorem dX11_cancelMessage_54 : decode cX11_cancelMessage 54 = .ok (.invokevirtual 366, 3) := by decide +kernel
theorem dX11_cancelMessage_57 : decode cX11_cancelMessage 57 = .ok (.invokevirtual 428, 3) := by decide +kernel
theorem dX11_cancelMessage_60 : decode cX11_cancelMessage 60 = .ok (.goto 4, 3) := by decide +kernel
theorem dX11_cancelMessage_63 : decode cX11_cancelMessage 63 = .ok (.iconst 0, 1) := by decide +kernel
theorem dX11_cancelMessage_64 : decode cX11_cancelMessage 64 = .ok (.ireturn, 1) := by decide +kernel
def F_X11_cancelMessage (N : Nat) (a1 : Int32) (a2 : Int32) (t : HV) : Option (Int32 × (HV)) := (if (F_X11_isGardener a1) = true then (if vpb (12 + a1) 760 = true then (if (F_X11_in ((a2 : Int32).toInt64) (0 : Int64) ((((ag t 0 (12 + a1)) - 1) : Int32).toInt64)) = true then (lt2 (F_X11_passesBoth (F_X11_isGardener a1) true t) fun v18 t19 => (ob (F_X11_tried N v18 t19) fun v20 t21 => (if v20 = true then (ob (F_X11_cancelNow N a1 a2 t21) fun v22 t23 => (ob (F_X11_done N v22 t23) fun v24 t25 => some (v24, t25))) else some (0, t21)))) else (lt2 (F_X11_passesBoth (F_X11_isGardener a1) false t) fun v10 t11 => (ob (F_X11_tried N v10 t11) fun v12 t13 => (if v12 = true then (ob (F_X11_cancelNow N a1 a2 t13) fun v14 t15 => (ob (F_X11_done N v14 t15) fun v16 t17 => some (v16, t17))) else some (0, t13))))) else none) else (lt2 (F_X11_passesBoth (F_X11_isGardener a1) false t) fun v1 t2 => (ob (F_X11_tried N v1 t2) fun v3 t4 => (if v3 = true then (ob (F_X11_cancelNow N a1 a2 t4) fun v5 t6 => (ob (F_X11_done N v5 t6) fun v7 t8 => some (v7, t8))) else some (0, t4)))))
theorem c_X11_cancelMessage {w : WP} (hW : gWM w) {Ω : OM}  {t : HV} (e : Ω.2.1 = t) (N : Nat) (a1 : Int32) (a2 : Int32) {v : Int32} {t' : HV} (hF : F_X11_cancelMessage N a1 a2 t = some (v, t')) {Ω' : OM} (e2 : (sM Ω t') = Ω') : gM w 3 yX11_cancelMessage cX11_cancelMessage 4 (some .int) [.ref (wAd w (11, 12, 0, 0)), .int a1, .int a2] (cA w Ω) (some (.int v)) (cA w Ω') := by
  refine gM_of "HedgeMessagesModel" rfl (by decide) (kR rfl) fun X C => ?_
  unfold F_X11_cancelMessage at hF
  subst e2
  show gV w X _ _ 0 [(0, .ref (wAd w (11, 12, 0, 0))), (1, .int a1), (2, .int a2)] []
  refine r_ct (ct' := cA w (sM Ω t)) (congrArg (cA w) (sM_i e).symm) ?_
  refine r_iload_n C (k := 1) rfl rfl dX11_cancelMessage_0 ?_
  refine r_callS C (d' := 1) [.int a1] (c_X11_isGardener a1 rfl) myX11_isGardener wm8_193 rfl (kR rfl) (by decide) (kR rfl) rfl dX11_cancelMessage_1 ?_
  refine r_if_eq C (tgt := 32) rfl dX11_cancelMessage_4 (fun hc => ?_) (fun hc => ?_)
  · rw [if_neg (b2i_f hc)] at hF
    refine r_iconst C (v := 0) rfl dX11_cancelMessage_32 ?_
    refine r_istore_n C (lo' := [(3, .int 0), (0, .ref (wAd w (11, 12, 0, 0))), (1, .int a1), (2, .int a2)]) rfl (by decide) rfl dX11_cancelMessage_33 ?_
    refine r_aload_n C (k := 1) rfl rfl dX11_cancelMessage_34 ?_
    refine r_aload_n C (k := 1) rfl rfl dX11_cancelMessage_35 ?_
    refine r_iload_n C (k := 2) rfl rfl dX11_cancelMessage_36 ?_
    refine r_callS C (d' := 1) [.int a1] (c_X11_isGardener a1 rfl) myX11_isGardener wm8_193 rfl (kR rfl) (by decide) (kR rfl) rfl dX11_cancelMessage_37 ?_
    refine r_iload_n C (k := 0) rfl rfl dX11_cancelMessage_40 ?_
    obtain ⟨v1, t2, ht2, hF⟩ := lt2_e hF
    refine r_callV C (d' := 0) [.int (b2i (F_X11_isGardener a1)), .int (b2i false)] (c_X11_passesBoth hW (show (sM Ω t).2.1 = t from rfl) (F_X11_isGardener a1) false ht2 rfl) myX11_passesBoth wm9_136 ⟨_, _, _, _, (hW.ok k11), rfl, rfl, rfl, rfl⟩ rfl (kR rfl) (by decide) (kR rfl) rfl dX11_cancelMessage_41 ?_
    obtain ⟨v3, t4, ht4, hF⟩ := ob_e hF
    refine r_callV C (d' := 1) [.int (b2i v1)] (c_X11_tried hW (show (sM Ω t2).2.1 = t2 from rfl) N v1 ht4 rfl) myX11_tried wm9_124 ⟨_, _, _, _, (hW.ok k11), rfl, rfl, rfl, rfl⟩ rfl (kR rfl) (by decide) (kR rfl) rfl dX11_cancelMessage_44 ?_
    refine r_if_eq C (tgt := 63) rfl dX11_cancelMessage_47 (fun hc => ?_) (fun hc => ?_)
    · rw [if_neg (b2i_f hc)] at hF
      refine r_iconst C (v := 0) rfl dX11_cancelMessage_63 ?_
      cases hF
      exact r_ireturn C dX11_cancelMessage_64
    · rw [if_pos (b2i_t hc)] at hF
      refine r_aload_n C (k := 1) rfl rfl dX11_cancelMessage_50 ?_
      refine r_aload_n C (k := 1) rfl rfl dX11_cancelMessage_51 ?_
      refine r_iload_n C (k := 2) rfl rfl dX11_cancelMessage_52 ?_
      refine r_iload_n C (k := 3) rfl rfl dX11_cancelMessage_53 ?_
      obtain ⟨v5, t6, ht6, hF⟩ := ob_e hF
      refine r_callV C (d' := 2) [.int a1, .int a2] (c_X11_cancelNow hW (show (sM Ω t4).2.1 = t4 from rfl) N a1 a2 ht6 rfl) myX11_cancelNow wm8_33 ⟨_, _, _, _, (hW.ok k11), rfl, rfl, rfl, rfl⟩ rfl (kR rfl) (by decide) (kR rfl) rfl dX11_cancelMessage_54 ?_
      obtain ⟨v7, t8, ht8, hF⟩ := ob_e hF
      refine r_callV C (d' := 2) [.int (b2i v5)] (c_X11_done hW (show (sM Ω t6).2.1 = t6 from rfl) N v5 ht8 rfl) myX11_done wm9_128 ⟨_, _, _, _, (hW.ok k11), rfl, rfl, rfl, rfl⟩ rfl (kR rfl) (by decide) (kR rfl) rfl dX11_cancelMessage_57 ?_
      refine r_goto C (tgt := 64) rfl dX11_cancelMessage_60 ?_
      cases hF
      exact r_ireturn C dX11_cancelMessage_64
  · rw [if_pos (b2i_t hc)] at hF
    refine r_iload_n C (k := 2) rfl rfl dX11_cancelMessage_7 ?_
    refine r_i2l C (v := ((a2 : Int32).toInt64)) rfl dX11_cancelMessage_8 ?_
    refine r_lconst C (v := 0) rfl dX11_cancelMessage_9 ?_
    refine r_aload_n C (k := 0) rfl rfl dX11_cancelMessage_10 ?_
    refine og_11_0 C (hW.ok k11) wm7_67 dX11_cancelMessage_11 ?_
    refine r_bipush C (v := 12) rfl dX11_cancelMessage_14 ?_
    refine r_iload_n C (k := 1) rfl rfl dX11_cancelMessage_16 ?_
    refine r_iadd C dX11_cancelMessage_17 ?_
    obtain ⟨b9, hF⟩ := gd_e hF
    refine m_ald C (hW.ok (k12 (a := 0) (by unfold okMa; decide))) (show (sM Ω t).2.1 = t from rfl) rfl b9 dX11_cancelMessage_18 ?_
    refine r_iconst C (v := 1) rfl dX11_cancelMessage_19 ?_
    refine r_isub C dX11_cancelMessage_20 ?_
    refine r_i2l C (v := ((((ag t 0 (12 + a1)) - 1) : Int32).toInt64)) rfl dX11_cancelMessage_21 ?_
    refine r_callS C (d' := 0) [.long ((a2 : Int32).toInt64), .long (0 : Int64), .long ((((ag t 0 (12 + a1)) - 1) : Int32).toInt64)] (c_X11_in ((a2 : Int32).toInt64) (0 : Int64) ((((ag t 0 (12 + a1)) - 1) : Int32).toInt64) rfl) myX11_in wm6_208 rfl (kR rfl) (by decide) (kR rfl) rfl dX11_cancelMessage_22 ?_
    refine r_if_eq C (tgt := 32) rfl dX11_cancelMessage_25 (fun hc => ?_) (fun hc => ?_)
    · rw [if_neg (b2i_f hc)] at hF
      refine r_iconst C (v := 0) rfl dX11_cancelMessage_32 ?_
      refine r_istore_n C (lo' := [(3, .int 0), (0, .ref (wAd w (11, 12, 0, 0))), (1, .int a1), (2, .int a2)]) rfl (by decide) rfl dX11_cancelMessage_33 ?_
      refine r_aload_n C (k := 1) rfl rfl dX11_cancelMessage_34 ?_
      refine r_aload_n C (k := 1) rfl rfl dX11_cancelMessage_35 ?_
      refine r_iload_n C (k := 2) rfl rfl dX11_cancelMessage_36 ?_
      refine r_callS C (d' := 1) [.int a1] (c_X11_isGardener a1 rfl) myX11_isGardener wm8_193 rfl (kR rfl) (by decide) (kR rfl) rfl dX11_cancelMessage_37 ?_
      refine r_iload_n C (k := 0) rfl rfl dX11_cancelMessage_40 ?_
      obtain ⟨v10, t11, ht11, hF⟩ := lt2_e hF
      refine r_callV C (d' := 0) [.int (b2i (F_X11_isGardener a1)), .int (b2i false)] (c_X11_passesBoth hW (show (sM Ω t).2.1 = t from rfl) (F_X11_isGardener a1) false ht11 rfl) myX11_passesBoth wm9_136 ⟨_, _, _, _, (hW.ok k11), rfl, rfl, rfl, rfl⟩ rfl (kR rfl) (by decide) (kR rfl) rfl dX11_cancelMessage_41 ?_
      obtain ⟨v12, t13, ht13, hF⟩ := ob_e hF
      refine r_callV C (d' := 1) [.int (b2i v10)] (c_X11_tried hW (show (sM Ω t11).2.1 = t11 from rfl) N v10 ht13 rfl) myX11_tried wm9_124 ⟨_, _, _, _, (hW.ok k11), rfl, rfl, rfl, rfl⟩ rfl (kR rfl) (by decide) (kR rfl) rfl dX11_cancelMessage_44 ?_
      refine r_if_eq C (tgt := 63) rfl dX11_cancelMessage_47 (fun hc => ?_) (fun hc => ?_)
      · rw [if_neg (b2i_f hc)] at hF
        refine r_iconst C (v := 0) rfl dX11_cancelMessage_63 ?_
        cases hF
        exact r_ireturn C dX11_cancelMessage_64
      · rw [if_pos (b2i_t hc)] at hF
        refine r_aload_n C (k := 1) rfl rfl dX11_cancelMessage_50 ?_
        refine r_aload_n C (k := 1) rfl rfl dX11_cancelMessage_51 ?_
        refine r_iload_n C (k := 2) rfl rfl dX11_cancelMessage_52 ?_
        refine r_iload_n C (k := 3) rfl rfl dX11_cancelMessage_53 ?_
        obtain ⟨v14, t15, ht15, hF⟩ := ob_e hF
        refine r_callV C (d' := 2) [.int a1, .int a2] (c_X11_cancelNow hW (show (sM Ω t13).2.1 = t13 from rfl) N a1 a2 ht15 rfl) myX11_cancelNow wm8_33 ⟨_, _, _, _, (hW.ok k11), rfl, rfl, rfl, rfl⟩ rfl (kR rfl) (by decide) (kR rfl) rfl dX11_cancelMessage_54 ?_
        obtain ⟨v16, t17, ht17, hF⟩ := ob_e hF
        refine r_callV C (d' := 2) [.int (b2i v14)] (c_X11_done hW (show (sM Ω t15).2.1 = t15 from rfl) N v14 ht17 rfl) myX11_done wm9_128 ⟨_, _, _, _, (hW.ok k11), rfl, rfl, rfl, rfl⟩ rfl (kR rfl) (by decide) (kR rfl) rfl dX11_cancelMessage_57 ?_
        refine r_goto C (tgt := 64) rfl dX11_cancelMessage_60 ?_
        cases hF
        exact r_ireturn C dX11_cancelMessage_64
    · rw [if_pos (b2i_t hc)] at hF
      refine r_iconst C (v := 1) rfl dX11_cancelMessage_28 ?_
      refine r_goto C (tgt := 33) rfl dX11_cancelMessage_29 ?_
      refine r_istore_n C (lo' := [(3, .int 1), (0, .ref (wAd w (11, 12, 0, 0))), (1, .int a1), (2, .int a2)]) rfl (by decide) rfl dX11_cancelMessage_33 ?_
      refine r_aload_n C (k := 1) rfl rfl dX11_cancelMessage_34 ?_
      refine r_aload_n C (k := 1) rfl rfl dX11_cancelMessage_35 ?_
      refine r_iload_n C (k := 2) rfl rfl dX11_cancelMessage_36 ?_
      refine r_callS C (d' := 1) [.int a1] (c_X11_isGardener a1 rfl) myX11_isGardener wm8_193 rfl (kR rfl) (by decide) (kR rfl) rfl dX11_cancelMessage_37 ?_
      refine r_iload_n C (k := 0) rfl rfl dX11_cancelMessage_40 ?_
      obtain ⟨v18, t19, ht19, hF⟩ := lt2_e hF
      refine r_callV C (d' := 0) [.int (b2i (F_X11_isGardener a1)), .int (b2i true)] (c_X11_passesBoth hW (show (sM Ω t).2.1 = t from rfl) (F_X11_isGardener a1) true ht19 rfl) myX11_passesBoth wm9_136 ⟨_, _, _, _, (hW.ok k11), rfl, rfl, rfl, rfl⟩ rfl (kR rfl) (by decide) (kR rfl) rfl dX11_cancelMessage_41 ?_
      obtain ⟨v20, t21, ht21, hF⟩ := ob_e hF
      refine r_callV C (d' := 1) [.int (b2i v18)] (c_X11_tried hW (show (sM Ω t19).2.1 = t19 from rfl) N v18 ht21 rfl) myX11_tried wm9_124 ⟨_, _, _, _, (hW.ok k11), rfl, rfl, rfl, rfl⟩ rfl (kR rfl) (by decide) (kR rfl) rfl dX11_cancelMessage_44 ?_
      refine r_if_eq C (tgt := 63) rfl dX11_cancelMessage_47 (fun hc => ?_) (fun hc => ?_)
      · rw [if_neg (b2i_f hc)] at hF
        refine r_iconst C (v := 0) rfl dX11_cancelMessage_63 ?_
        cases hF
        exact r_ireturn C dX11_cancelMessage_64
      · rw [if_pos (b2i_t hc)] at hF
        refine r_aload_n C (k := 1) rfl rfl dX11_cancelMessage_50 ?_
        refine r_aload_n C (k := 1) rfl rfl dX11_cancelMessage_51 ?_
        refine r_iload_n C (k := 2) rfl rfl dX11_cancelMessage_52 ?_
        refine r_iload_n C (k := 3) rfl rfl dX11_cancelMessage_53 ?_
        obtain ⟨v22, t23, ht23, hF⟩ := ob_e hF
        refine r_callV C (d' := 2) [.int a1, .int a2] (c_X11_cancelNow hW (show (sM Ω t21).2.1 = t21 from rfl) N a1 a2 ht23 rfl) myX11_cancelNow wm8_33 ⟨_, _, _, _, (hW.ok k11), rfl, rfl, rfl, rfl⟩ rfl (kR rfl) (by decide) (kR rfl) rfl dX11_cancelMessage_54 ?_
        obtain ⟨v24, t25, ht25, hF⟩ := ob_e hF
        refine r_callV C (d' := 2) [.int (b2i v22)] (c_X11_done hW (show (sM Ω t23).2.1 = t23 from rfl) N v22 ht25 rfl) myX11_done wm9_128 ⟨_, _, _, _, (hW.ok k11), rfl, rfl, rfl, rfl⟩ rfl (kR rfl) (by decide) (kR rfl) rfl dX11_cancelMessage_57 ?_
        refine r_goto C (tgt := 64) rfl dX11_cancelMessage_60 ?_
        cases hF
        exact r_ireturn C dX11_cancelMessage_64
theorem dX11_setWorkLimit_0 : decode cX11_setWorkLimit 0 = .ok (.aload_n 0, 1) := by decide +kernel
theorem dX11_setWorkLimit_1 : decode cX11_setWorkLimit 1 = .ok (.aload_n 0, 1) := by decide +kernel
theorem dX11_setWorkLimit_2 : decode cX11_setWorkLimit 2 = .ok (.iload_n 1, 1) := by decide +kernel
theorem dX11_setWorkLimit_3 : decode cX11_setWorkLimit 3 = .ok (.i2l, 1) := by decide +kernel
theorem dX11_setWorkLimit_4 : decode cX11_setWorkLimit 4 = .ok (.lconst 1, 1) := by decide +kernel
theorem dX11_setWorkLimit_5 : decode cX11_setWorkLimit 5 = .ok (.ldc2_w 264, 3) := by decide +kernel
theorem dX11_setWorkLimit_8 : decode cX11_setWorkLimit 8 = .ok (.invokestatic 65, 3) := by decide +kernel
theorem dX11_setWorkLimit_11 : decode cX11_setWorkLimit 11 = .ok (.invokevirtual 221, 3) := by decide +kernel
theorem dX11_setWorkLimit_14 : decode cX11_setWorkLimit 14 = .ok (.invokevirtual 425, 3) := by decide +kernel
theorem dX11_setWorkLimit_17 : decode cX11_setWorkLimit 17 = .ok (.ifCond .eq 15, 3) := by decide +kernel
theorem dX11_setWorkLimit_20 : decode cX11_setWorkLimit 20 = .ok (.aload_n 0, 1) := by decide +kernel
theorem dX11_setWorkLimit_21 : decode cX11_setWorkLimit 21 = .ok (.aload_n 0, 1) := by decide +kernel
theorem dX11_setWorkLimit_22 : decode cX11_setWorkLimit 22 = .ok (.iload_n 1, 1) := by decide +kernel
theorem dX11_setWorkLimit_23 : decode cX11_setWorkLimit 23 = .ok (.invokevirtual 369, 3) := by decide +kernel
theorem dX11_setWorkLimit_26 : decode cX11_setWorkLimit 26 = .ok (.invokevirtual 428, 3) := by decide +kernel
theorem dX11_setWorkLimit_29 : decode cX11_setWorkLimit 29 = .ok (.goto 4, 3) := by decide +kernel
theorem dX11_setWorkLimit_32 : decode cX11_setWorkLimit 32 = .ok (.iconst 0, 1) := by decide +kernel
theorem dX11_setWorkLimit_33 : decode cX11_setWorkLimit 33 = .ok (.ireturn, 1) := by decide +kernel
def F_X11_setWorkLimit (N : Nat) (a1 : Int32) (t : HV) : Option (Int32 × (HV)) := (lt2 (F_X11_passes (F_X11_in ((a1 : Int32).toInt64) (1 : Int64) (12 : Int64)) t) fun v1 t2 => (ob (F_X11_tried N v1 t2) fun v3 t4 => (if v3 = true then (ob (F_X11_workNow a1 t4) fun v5 t6 => (ob (F_X11_done N v5 t6) fun v7 t8 => some (v7, t8))) else some (0, t4))))
theorem c_X11_setWorkLimit {w : WP} (hW : gWM w) {Ω : OM}  {t : HV} (e : Ω.2.1 = t) (N : Nat) (a1 : Int32) {v : Int32} {t' : HV} (hF : F_X11_setWorkLimit N a1 t = some (v, t')) {Ω' : OM} (e2 : (sM Ω t') = Ω') : gM w 3 yX11_setWorkLimit cX11_setWorkLimit 2 (some .int) [.ref (wAd w (11, 12, 0, 0)), .int a1] (cA w Ω) (some (.int v)) (cA w Ω') := by
  refine gM_of "HedgeMessagesModel" rfl (by decide) (kR rfl) fun X C => ?_
  unfold F_X11_setWorkLimit at hF
  subst e2
  show gV w X _ _ 0 [(0, .ref (wAd w (11, 12, 0, 0))), (1, .int a1)] []
  refine r_ct (ct' := cA w (sM Ω t)) (congrArg (cA w) (sM_i e).symm) ?_
  refine r_aload_n C (k := 0) rfl rfl dX11_setWorkLimit_0 ?_
  refine r_aload_n C (k := 0) rfl rfl dX11_setWorkLimit_1 ?_
  refine r_iload_n C (k := 1) rfl rfl dX11_setWorkLimit_2 ?_
  refine r_i2l C (v := ((a1 : Int32).toInt64)) rfl dX11_setWorkLimit_3 ?_
  refine r_lconst C (v := 1) rfl dX11_setWorkLimit_4 ?_
  refine r_ldc2 C wm7_47 dX11_setWorkLimit_5 ?_
  refine r_callS C (d' := 0) [.long ((a1 : Int32).toInt64), .long (1 : Int64), .long (12 : Int64)] (c_X11_in ((a1 : Int32).toInt64) (1 : Int64) (12 : Int64) rfl) myX11_in wm6_208 rfl (kR rfl) (by decide) (kR rfl) rfl dX11_setWorkLimit_8 ?_
  obtain ⟨v1, t2, ht2, hF⟩ := lt2_e hF
  refine r_callV C (d' := 0) [.int (b2i (F_X11_in ((a1 : Int32).toInt64) (1 : Int64) (12 : Int64)))] (c_X11_passes hW (show (sM Ω t).2.1 = t from rfl) (F_X11_in ((a1 : Int32).toInt64) (1 : Int64) (12 : Int64)) ht2 rfl) myX11_passes wm7_63 ⟨_, _, _, _, (hW.ok k11), rfl, rfl, rfl, rfl⟩ rfl (kR rfl) (by decide) (kR rfl) rfl dX11_setWorkLimit_11 ?_
  obtain ⟨v3, t4, ht4, hF⟩ := ob_e hF
  refine r_callV C (d' := 1) [.int (b2i v1)] (c_X11_tried hW (show (sM Ω t2).2.1 = t2 from rfl) N v1 ht4 rfl) myX11_tried wm9_124 ⟨_, _, _, _, (hW.ok k11), rfl, rfl, rfl, rfl⟩ rfl (kR rfl) (by decide) (kR rfl) rfl dX11_setWorkLimit_14 ?_
  refine r_if_eq C (tgt := 32) rfl dX11_setWorkLimit_17 (fun hc => ?_) (fun hc => ?_)
  · rw [if_neg (b2i_f hc)] at hF
    refine r_iconst C (v := 0) rfl dX11_setWorkLimit_32 ?_
    cases hF
    exact r_ireturn C dX11_setWorkLimit_33
  · rw [if_pos (b2i_t hc)] at hF
    refine r_aload_n C (k := 0) rfl rfl dX11_setWorkLimit_20 ?_
    refine r_aload_n C (k := 0) rfl rfl dX11_setWorkLimit_21 ?_
    refine r_iload_n C (k := 1) rfl rfl dX11_setWorkLimit_22 ?_
    obtain ⟨v5, t6, ht6, hF⟩ := ob_e hF
    refine r_callV C (d' := 0) [.int a1] (c_X11_workNow hW (show (sM Ω t4).2.1 = t4 from rfl) a1 ht6 rfl) myX11_workNow wm8_41 ⟨_, _, _, _, (hW.ok k11), rfl, rfl, rfl, rfl⟩ rfl (kR rfl) (by decide) (kR rfl) rfl dX11_setWorkLimit_23 ?_
    obtain ⟨v7, t8, ht8, hF⟩ := ob_e hF
    refine r_callV C (d' := 2) [.int (b2i v5)] (c_X11_done hW (show (sM Ω t6).2.1 = t6 from rfl) N v5 ht8 rfl) myX11_done wm9_128 ⟨_, _, _, _, (hW.ok k11), rfl, rfl, rfl, rfl⟩ rfl (kR rfl) (by decide) (kR rfl) rfl dX11_setWorkLimit_26 ?_
    refine r_goto C (tgt := 33) rfl dX11_setWorkLimit_29 ?_
    cases hF
    exact r_ireturn C dX11_setWorkLimit_33
theorem dX11_endDays_0 : decode cX11_endDays 0 = .ok (.aload_n 0, 1) := by decide +kernel
theorem dX11_endDays_1 : decode cX11_endDays 1 = .ok (.aload_n 0, 1) := by decide +kernel
theorem dX11_endDays_2 : decode cX11_endDays 2 = .ok (.iload_n 1, 1) := by decide +kernel
theorem dX11_endDays_3 : decode cX11_endDays 3 = .ok (.i2l, 1) := by decide +kernel
theorem dX11_endDays_4 : decode cX11_endDays 4 = .ok (.lconst 1, 1) := by decide +kernel
theorem dX11_endDays_5 : decode cX11_endDays 5 = .ok (.ldc2_w 403, 3) := by decide +kernel
theorem dX11_endDays_8 : decode cX11_endDays 8 = .ok (.invokestatic 65, 3) := by decide +kernel
theorem dX11_endDays_11 : decode cX11_endDays 11 = .ok (.invokevirtual 221, 3) := by decide +kernel
theorem dX11_endDays_14 : decode cX11_endDays 14 = .ok (.invokevirtual 425, 3) := by decide +kernel
theorem dX11_endDays_17 : decode cX11_endDays 17 = .ok (.ifCond .eq 15, 3) := by decide +kernel
theorem dX11_endDays_20 : decode cX11_endDays 20 = .ok (.aload_n 0, 1) := by decide +kernel
theorem dX11_endDays_21 : decode cX11_endDays 21 = .ok (.aload_n 0, 1) := by decide +kernel
theorem dX11_endDays_22 : decode cX11_endDays 22 = .ok (.iload_n 1, 1) := by decide +kernel
theorem dX11_endDays_23 : decode cX11_endDays 23 = .ok (.invokevirtual 372, 3) := by decide +kernel
theorem dX11_endDays_26 : decode cX11_endDays 26 = .ok (.invokevirtual 428, 3) := by decide +kernel
theorem dX11_endDays_29 : decode cX11_endDays 29 = .ok (.goto 4, 3) := by decide +kernel
theorem dX11_endDays_32 : decode cX11_endDays 32 = .ok (.iconst 0, 1) := by decide +kernel
theorem dX11_endDays_33 : decode cX11_endDays 33 = .ok (.ireturn, 1) := by decide +kernel
def F_X11_endDays (N : Nat) (a1 : Int32) (t : HV) : Option (Int32 × (HV)) := (lt2 (F_X11_passes (F_X11_in ((a1 : Int32).toInt64) (1 : Int64) (60 : Int64)) t) fun v1 t2 => (ob (F_X11_tried N v1 t2) fun v3 t4 => (if v3 = true then (ob (F_X11_endNow N a1 t4) fun v5 t6 => (ob (F_X11_done N v5 t6) fun v7 t8 => some (v7, t8))) else some (0, t4))))
theorem c_X11_endDays {w : WP} (hW : gWM w) {Ω : OM}  {t : HV} (e : Ω.2.1 = t) (N : Nat) (a1 : Int32) {v : Int32} {t' : HV} (hF : F_X11_endDays N a1 t = some (v, t')) {Ω' : OM} (e2 : (sM Ω t') = Ω') : gM w 12 yX11_endDays cX11_endDays 2 (some .int) [.ref (wAd w (11, 12, 0, 0)), .int a1] (cA w Ω) (some (.int v)) (cA w Ω') := by
  refine gM_of "HedgeMessagesModel" rfl (by decide) (kR rfl) fun X C => ?_
  unfold F_X11_endDays at hF
  subst e2
  show gV w X _ _ 0 [(0, .ref (wAd w (11, 12, 0, 0))), (1, .int a1)] []
  refine r_ct (ct' := cA w (sM Ω t)) (congrArg (cA w) (sM_i e).symm) ?_
  refine r_aload_n C (k := 0) rfl rfl dX11_endDays_0 ?_
  refine r_aload_n C (k := 0) rfl rfl dX11_endDays_1 ?_
  refine r_iload_n C (k := 1) rfl rfl dX11_endDays_2 ?_
  refine r_i2l C (v := ((a1 : Int32).toInt64)) rfl dX11_endDays_3 ?_
  refine r_lconst C (v := 1) rfl dX11_endDays_4 ?_
  refine r_ldc2 C wm9_39 dX11_endDays_5 ?_
  refine r_callS C (d' := 0) [.long ((a1 : Int32).toInt64), .long (1 : Int64), .long (60 : Int64)] (c_X11_in ((a1 : Int32).toInt64) (1 : Int64) (60 : Int64) rfl) myX11_in wm6_208 rfl (kR rfl) (by decide) (kR rfl) rfl dX11_endDays_8 ?_
  obtain ⟨v1, t2, ht2, hF⟩ := lt2_e hF
  refine r_callV C (d' := 0) [.int (b2i (F_X11_in ((a1 : Int32).toInt64) (1 : Int64) (60 : Int64)))] (c_X11_passes hW (show (sM Ω t).2.1 = t from rfl) (F_X11_in ((a1 : Int32).toInt64) (1 : Int64) (60 : Int64)) ht2 rfl) myX11_passes wm7_63 ⟨_, _, _, _, (hW.ok k11), rfl, rfl, rfl, rfl⟩ rfl (kR rfl) (by decide) (kR rfl) rfl dX11_endDays_11 ?_
  obtain ⟨v3, t4, ht4, hF⟩ := ob_e hF
  refine r_callV C (d' := 1) [.int (b2i v1)] (c_X11_tried hW (show (sM Ω t2).2.1 = t2 from rfl) N v1 ht4 rfl) myX11_tried wm9_124 ⟨_, _, _, _, (hW.ok k11), rfl, rfl, rfl, rfl⟩ rfl (kR rfl) (by decide) (kR rfl) rfl dX11_endDays_14 ?_
  refine r_if_eq C (tgt := 32) rfl dX11_endDays_17 (fun hc => ?_) (fun hc => ?_)
  · rw [if_neg (b2i_f hc)] at hF
    refine r_iconst C (v := 0) rfl dX11_endDays_32 ?_
    cases hF
    exact r_ireturn C dX11_endDays_33
  · rw [if_pos (b2i_t hc)] at hF
    refine r_aload_n C (k := 0) rfl rfl dX11_endDays_20 ?_
    refine r_aload_n C (k := 0) rfl rfl dX11_endDays_21 ?_
    refine r_iload_n C (k := 1) rfl rfl dX11_endDays_22 ?_
    obtain ⟨v5, t6, ht6, hF⟩ := ob_e hF
    refine r_callV C (d' := 11) [.int a1] (c_X11_endNow hW (show (sM Ω t4).2.1 = t4 from rfl) N a1 ht6 rfl) myX11_endNow wm8_45 ⟨_, _, _, _, (hW.ok k11), rfl, rfl, rfl, rfl⟩ rfl (kR rfl) (by decide) (kR rfl) rfl dX11_endDays_23 ?_
    obtain ⟨v7, t8, ht8, hF⟩ := ob_e hF
    refine r_callV C (d' := 2) [.int (b2i v5)] (c_X11_done hW (show (sM Ω t6).2.1 = t6 from rfl) N v5 ht8 rfl) myX11_done wm9_128 ⟨_, _, _, _, (hW.ok k11), rfl, rfl, rfl, rfl⟩ rfl (kR rfl) (by decide) (kR rfl) rfl dX11_endDays_26 ?_
    refine r_goto C (tgt := 33) rfl dX11_endDays_29 ?_
    cases hF
    exact r_ireturn C dX11_endDays_33
theorem dX11_undo_0 : decode cX11_undo 0 = .ok (.aload_n 0, 1) := by decide +kernel
theorem dX11_undo_1 : decode cX11_undo 1 = .ok (.aload_n 0, 1) := by decide +kernel
theorem dX11_undo_2 : decode cX11_undo 2 = .ok (.getfield 321, 3) := by decide +kernel
theorem dX11_undo_5 : decode cX11_undo 5 = .ok (.ifCond .le 7, 3) := by decide +kernel
theorem dX11_undo_8 : decode cX11_undo 8 = .ok (.iconst 1, 1) := by decide +kernel
theorem dX11_undo_9 : decode cX11_undo 9 = .ok (.goto 4, 3) := by decide +kernel
theorem dX11_undo_12 : decode cX11_undo 12 = .ok (.iconst 0, 1) := by decide +kernel
theorem dX11_undo_13 : decode cX11_undo 13 = .ok (.invokevirtual 221, 3) := by decide +kernel
theorem dX11_undo_16 : decode cX11_undo 16 = .ok (.ifCond .ne 5, 3) := by decide +kernel
theorem dX11_undo_19 : decode cX11_undo 19 = .ok (.iconst 0, 1) := by decide +kernel
theorem dX11_undo_20 : decode cX11_undo 20 = .ok (.ireturn, 1) := by decide +kernel
theorem dX11_undo_21 : decode cX11_undo 21 = .ok (.aload_n 0, 1) := by decide +kernel
theorem dX11_undo_22 : decode cX11_undo 22 = .ok (.dup, 1) := by decide +kernel
theorem dX11_undo_23 : decode cX11_undo 23 = .ok (.getfield 321, 3) := by decide +kernel
theorem dX11_undo_26 : decode cX11_undo 26 = .ok (.iconst 1, 1) := by decide +kernel
theorem dX11_undo_27 : decode cX11_undo 27 = .ok (.isub, 1) := by decide +kernel
theorem dX11_undo_28 : decode cX11_undo 28 = .ok (.putfield 321, 3) := by decide +kernel
theorem dX11_undo_31 : decode cX11_undo 31 = .ok (.aload_n 0, 1) := by decide +kernel
theorem dX11_undo_32 : decode cX11_undo 32 = .ok (.getfield 22, 3) := by decide +kernel
theorem dX11_undo_35 : decode cX11_undo 35 = .ok (.sipush 760, 3) := by decide +kernel
theorem dX11_undo_38 : decode cX11_undo 38 = .ok (.aload_n 0, 1) := by decide +kernel
theorem dX11_undo_39 : decode cX11_undo 39 = .ok (.getfield 321, 3) := by decide +kernel
theorem dX11_undo_42 : decode cX11_undo 42 = .ok (.imul, 1) := by decide +kernel
theorem dX11_undo_43 : decode cX11_undo 43 = .ok (.aload_n 0, 1) := by decide +kernel
theorem dX11_undo_44 : decode cX11_undo 44 = .ok (.getfield 7, 3) := by decide +kernel
theorem dX11_undo_47 : decode cX11_undo 47 = .ok (.iconst 0, 1) := by decide +kernel
theorem dX11_undo_48 : decode cX11_undo 48 = .ok (.invokestatic 61, 3) := by decide +kernel
theorem dX11_undo_51 : decode cX11_undo 51 = .ok (.aload_n 0, 1) := by decide +kernel
theorem dX11_undo_52 : decode cX11_undo 52 = .ok (.getfield 321, 3) := by decide +kernel
theorem dX11_undo_55 : decode cX11_undo 55 = .ok (.ireturn, 1) := by decide +kernel
def F_X11_undo (N : Nat) (t : HV) : Option (Int32 × (HV)) := (if (t.1 5) ≤ 0 then (lt2 (F_X11_passes false t) fun v1 t2 => (if v1 = true then (lt (sS t2 5 ((t2.1 5) - 1)) fun t3 => (ob1 (F_X11_copies N 4 (760 * (t3.1 5)) 0 0 t3) fun t5 => some ((t5.1 5), t5))) else some (0, t2))) else (lt2 (F_X11_passes true t) fun v6 t7 => (if v6 = true then (lt (sS t7 5 ((t7.1 5) - 1)) fun t8 => (ob1 (F_X11_copies N 4 (760 * (t8.1 5)) 0 0 t8) fun t10 => some ((t10.1 5), t10))) else some (0, t7))))
theorem c_X11_undo {w : WP} (hW : gWM w) {Ω : OM}  {t : HV} (e : Ω.2.1 = t) (N : Nat)  {v : Int32} {t' : HV} (hF : F_X11_undo N t = some (v, t')) {Ω' : OM} (e2 : (sM Ω t') = Ω') : gM w 1 yX11_undo cX11_undo 1 (some .int) [.ref (wAd w (11, 12, 0, 0))] (cA w Ω) (some (.int v)) (cA w Ω') := by
  refine gM_of "HedgeMessagesModel" rfl (by decide) (kR rfl) fun X C => ?_
  unfold F_X11_undo at hF
  subst e2
  show gV w X _ _ 0 [(0, .ref (wAd w (11, 12, 0, 0)))] []
  refine r_ct (ct' := cA w (sM Ω t)) (congrArg (cA w) (sM_i e).symm) ?_
  refine r_aload_n C (k := 0) rfl rfl dX11_undo_0 ?_
  refine r_aload_n C (k := 0) rfl rfl dX11_undo_1 ?_
  refine og_11_5 C (hW.ok k11) (show (sM Ω t).2.1 = t from rfl) wm7_72 dX11_undo_2 ?_
  refine r_if_le C (tgt := 12) rfl dX11_undo_5 (fun hc => ?_) (fun hc => ?_)
  · rw [if_pos hc] at hF
    refine r_iconst C (v := 0) rfl dX11_undo_12 ?_
    obtain ⟨v1, t2, ht2, hF⟩ := lt2_e hF
    refine r_callV C (d' := 0) [.int (b2i false)] (c_X11_passes hW (show (sM Ω t).2.1 = t from rfl) false ht2 rfl) myX11_passes wm7_63 ⟨_, _, _, _, (hW.ok k11), rfl, rfl, rfl, rfl⟩ rfl (kR rfl) (by decide) (kR rfl) rfl dX11_undo_13 ?_
    refine r_if_ne C (tgt := 21) rfl dX11_undo_16 (fun hc => ?_) (fun hc => ?_)
    · rw [if_pos (b2i_t hc)] at hF
      refine r_aload_n C (k := 0) rfl rfl dX11_undo_21 ?_
      refine r_dup C rfl dX11_undo_22 ?_
      refine og_11_5 C (hW.ok k11) (show (sM Ω t2).2.1 = t2 from rfl) wm7_72 dX11_undo_23 ?_
      refine r_iconst C (v := 1) rfl dX11_undo_26 ?_
      refine r_isub C dX11_undo_27 ?_
      obtain ⟨t3, et3, hF⟩ := lt_e hF
      refine op_11_5 C hW.x (hW.fr k11) (show (sM Ω t2).2.1 = t2 from rfl) wm7_72 dX11_undo_28 (congrArg (sM Ω) et3) ?_
      refine r_aload_n C (k := 0) rfl rfl dX11_undo_31 ?_
      refine og_11_4 C (hW.ok k11) wm7_71 dX11_undo_32 ?_
      refine r_sipush C (v := 760) rfl dX11_undo_35 ?_
      refine r_aload_n C (k := 0) rfl rfl dX11_undo_38 ?_
      refine og_11_5 C (hW.ok k11) (show (sM Ω t3).2.1 = t3 from rfl) wm7_72 dX11_undo_39 ?_
      refine r_imul C dX11_undo_42 ?_
      refine r_aload_n C (k := 0) rfl rfl dX11_undo_43 ?_
      refine og_11_0 C (hW.ok k11) wm7_67 dX11_undo_44 ?_
      refine r_iconst C (v := 0) rfl dX11_undo_47 ?_
      obtain ⟨t5, ht5, hF⟩ := ob1_e hF
      refine r_callS C (d' := 0) [.ref (wAd w (12, 12, 0, 4)), .int (760 * (t3.1 5)), .ref (wAd w (12, 12, 0, 0)), .int 0] (c_X11_copies hW (show (sM Ω t3).2.1 = t3 from rfl) N 4 (by unfold okMa; decide) (760 * (t3.1 5)) 0 (by unfold okMa; decide) 0 ht5 rfl) myX11_copies wm6_182 rfl (kR rfl) (by decide) (kR rfl) rfl dX11_undo_48 ?_
      refine r_aload_n C (k := 0) rfl rfl dX11_undo_51 ?_
      refine og_11_5 C (hW.ok k11) (show (sM Ω t5).2.1 = t5 from rfl) wm7_72 dX11_undo_52 ?_
      cases hF
      exact r_ireturn C dX11_undo_55
    · rw [if_neg (b2i_f hc)] at hF
      refine r_iconst C (v := 0) rfl dX11_undo_19 ?_
      cases hF
      exact r_ireturn C dX11_undo_20
  · rw [if_neg hc] at hF
    refine r_iconst C (v := 1) rfl dX11_undo_8 ?_
    refine r_goto C (tgt := 13) rfl dX11_undo_9 ?_
    obtain ⟨v6, t7, ht7, hF⟩ := lt2_e hF
    refine r_callV C (d' := 0) [.int (b2i true)] (c_X11_passes hW (show (sM Ω t).2.1 = t from rfl) true ht7 rfl) myX11_passes wm7_63 ⟨_, _, _, _, (hW.ok k11), rfl, rfl, rfl, rfl⟩ rfl (kR rfl) (by decide) (kR rfl) rfl dX11_undo_13 ?_
    refine r_if_ne C (tgt := 21) rfl dX11_undo_16 (fun hc => ?_) (fun hc => ?_)
    · rw [if_pos (b2i_t hc)] at hF
      refine r_aload_n C (k := 0) rfl rfl dX11_undo_21 ?_
      refine r_dup C rfl dX11_undo_22 ?_
      refine og_11_5 C (hW.ok k11) (show (sM Ω t7).2.1 = t7 from rfl) wm7_72 dX11_undo_23 ?_
      refine r_iconst C (v := 1) rfl dX11_undo_26 ?_
      refine r_isub C dX11_undo_27 ?_
      obtain ⟨t8, et8, hF⟩ := lt_e hF
      refine op_11_5 C hW.x (hW.fr k11) (show (sM Ω t7).2.1 = t7 from rfl) wm7_72 dX11_undo_28 (congrArg (sM Ω) et8) ?_
      refine r_aload_n C (k := 0) rfl rfl dX11_undo_31 ?_
      refine og_11_4 C (hW.ok k11) wm7_71 dX11_undo_32 ?_
      refine r_sipush C (v := 760) rfl dX11_undo_35 ?_
      refine r_aload_n C (k := 0) rfl rfl dX11_undo_38 ?_
      refine og_11_5 C (hW.ok k11) (show (sM Ω t8).2.1 = t8 from rfl) wm7_72 dX11_undo_39 ?_
      refine r_imul C dX11_undo_42 ?_
      refine r_aload_n C (k := 0) rfl rfl dX11_undo_43 ?_
      refine og_11_0 C (hW.ok k11) wm7_67 dX11_undo_44 ?_
      refine r_iconst C (v := 0) rfl dX11_undo_47 ?_
      obtain ⟨t10, ht10, hF⟩ := ob1_e hF
      refine r_callS C (d' := 0) [.ref (wAd w (12, 12, 0, 4)), .int (760 * (t8.1 5)), .ref (wAd w (12, 12, 0, 0)), .int 0] (c_X11_copies hW (show (sM Ω t8).2.1 = t8 from rfl) N 4 (by unfold okMa; decide) (760 * (t8.1 5)) 0 (by unfold okMa; decide) 0 ht10 rfl) myX11_copies wm6_182 rfl (kR rfl) (by decide) (kR rfl) rfl dX11_undo_48 ?_
      refine r_aload_n C (k := 0) rfl rfl dX11_undo_51 ?_
      refine og_11_5 C (hW.ok k11) (show (sM Ω t10).2.1 = t10 from rfl) wm7_72 dX11_undo_52 ?_
      cases hF
      exact r_ireturn C dX11_undo_55
    · rw [if_neg (b2i_f hc)] at hF
      refine r_iconst C (v := 0) rfl dX11_undo_19 ?_
      cases hF
      exact r_ireturn C dX11_undo_20
theorem dX11_save_0 : decode cX11_save 0 = .ok (.aload_n 0, 1) := by decide +kernel
theorem dX11_save_1 : decode cX11_save 1 = .ok (.iconst 0, 1) := by decide +kernel
theorem dX11_save_2 : decode cX11_save 2 = .ok (.putfield 58, 3) := by decide +kernel
theorem dX11_save_5 : decode cX11_save 5 = .ok (.aload_n 0, 1) := by decide +kernel
theorem dX11_save_6 : decode cX11_save 6 = .ok (.getfield 7, 3) := by decide +kernel
theorem dX11_save_9 : decode cX11_save 9 = .ok (.iconst 0, 1) := by decide +kernel
theorem dX11_save_10 : decode cX11_save 10 = .ok (.aload_n 0, 1) := by decide +kernel
theorem dX11_save_11 : decode cX11_save 11 = .ok (.getfield 13, 3) := by decide +kernel
theorem dX11_save_14 : decode cX11_save 14 = .ok (.iconst 0, 1) := by decide +kernel
theorem dX11_save_15 : decode cX11_save 15 = .ok (.invokestatic 61, 3) := by decide +kernel
theorem dX11_save_18 : decode cX11_save 18 = .ok (.aload_n 0, 1) := by decide +kernel
theorem dX11_save_19 : decode cX11_save 19 = .ok (.iconst 1, 1) := by decide +kernel
theorem dX11_save_20 : decode cX11_save 20 = .ok (.putfield 442, 3) := by decide +kernel
theorem dX11_save_23 : decode cX11_save 23 = .ok (.aload_n 0, 1) := by decide +kernel
theorem dX11_save_24 : decode cX11_save 24 = .ok (.getfield 7, 3) := by decide +kernel
theorem dX11_save_27 : decode cX11_save 27 = .ok (.bipush 6, 2) := by decide +kernel
theorem dX11_save_29 : decode cX11_save 29 = .ok (.iaload, 1) := by decide +kernel
theorem dX11_save_30 : decode cX11_save 30 = .ok (.ireturn, 1) := by decide +kernel
def F_X11_save (N : Nat) (t : HV) : Option (Int32 × (HV)) := (lt (sS t 6 0) fun t1 => (ob1 (F_X11_copies N 0 0 1 0 t1) fun t3 => (lt (sS t3 7 (b2i true)) fun t4 => (if vpb 6 760 = true then some ((ag t4 0 6), t4) else none))))
theorem c_X11_save {w : WP} (hW : gWM w) {Ω : OM}  {t : HV} (e : Ω.2.1 = t) (N : Nat)  {v : Int32} {t' : HV} (hF : F_X11_save N t = some (v, t')) {Ω' : OM} (e2 : (sM Ω t') = Ω') : gM w 1 yX11_save cX11_save 1 (some .int) [.ref (wAd w (11, 12, 0, 0))] (cA w Ω) (some (.int v)) (cA w Ω') := by
  refine gM_of "HedgeMessagesModel" rfl (by decide) (kR rfl) fun X C => ?_
  unfold F_X11_save at hF
  subst e2
  show gV w X _ _ 0 [(0, .ref (wAd w (11, 12, 0, 0)))] []
  refine r_ct (ct' := cA w (sM Ω t)) (congrArg (cA w) (sM_i e).symm) ?_
  refine r_aload_n C (k := 0) rfl rfl dX11_save_0 ?_
  refine r_iconst C (v := 0) rfl dX11_save_1 ?_
  obtain ⟨t1, et1, hF⟩ := lt_e hF
  refine op_11_6 C hW.x (hW.fr k11) (show (sM Ω t).2.1 = t from rfl) wm7_73 dX11_save_2 (congrArg (sM Ω) et1) ?_
  refine r_aload_n C (k := 0) rfl rfl dX11_save_5 ?_
  refine og_11_0 C (hW.ok k11) wm7_67 dX11_save_6 ?_
  refine r_iconst C (v := 0) rfl dX11_save_9 ?_
  refine r_aload_n C (k := 0) rfl rfl dX11_save_10 ?_
  refine og_11_1 C (hW.ok k11) wm7_68 dX11_save_11 ?_
  refine r_iconst C (v := 0) rfl dX11_save_14 ?_
  obtain ⟨t3, ht3, hF⟩ := ob1_e hF
  refine r_callS C (d' := 0) [.ref (wAd w (12, 12, 0, 0)), .int 0, .ref (wAd w (12, 12, 0, 1)), .int 0] (c_X11_copies hW (show (sM Ω t1).2.1 = t1 from rfl) N 0 (by unfold okMa; decide) 0 1 (by unfold okMa; decide) 0 ht3 rfl) myX11_copies wm6_182 rfl (kR rfl) (by decide) (kR rfl) rfl dX11_save_15 ?_
  refine r_aload_n C (k := 0) rfl rfl dX11_save_18 ?_
  refine r_iconst C (v := 1) rfl dX11_save_19 ?_
  refine r_st (st' := .int (b2i true) :: .ref (wAd w (11, 12, 0, 0)) :: []) rfl ?_
  obtain ⟨t4, et4, hF⟩ := lt_e hF
  refine op_11_7 C hW.x (hW.fr k11) (show (sM Ω t3).2.1 = t3 from rfl) wm7_74 dX11_save_20 (x := true) (congrArg (sM Ω) et4) ?_
  refine r_aload_n C (k := 0) rfl rfl dX11_save_23 ?_
  refine og_11_0 C (hW.ok k11) wm7_67 dX11_save_24 ?_
  refine r_bipush C (v := 6) rfl dX11_save_27 ?_
  obtain ⟨b5, hF⟩ := gd_e hF
  refine m_ald C (hW.ok (k12 (a := 0) (by unfold okMa; decide))) (show (sM Ω t4).2.1 = t4 from rfl) rfl b5 dX11_save_29 ?_
  cases hF
  exact r_ireturn C dX11_save_30
theorem dX11_restore_0 : decode cX11_restore 0 = .ok (.aload_n 0, 1) := by decide +kernel
theorem dX11_restore_1 : decode cX11_restore 1 = .ok (.aload_n 0, 1) := by decide +kernel
theorem dX11_restore_2 : decode cX11_restore 2 = .ok (.getfield 442, 3) := by decide +kernel
theorem dX11_restore_5 : decode cX11_restore 5 = .ok (.invokevirtual 221, 3) := by decide +kernel
theorem dX11_restore_8 : decode cX11_restore 8 = .ok (.ifCond .ne 5, 3) := by decide +kernel
theorem dX11_restore_11 : decode cX11_restore 11 = .ok (.iconst 0, 1) := by decide +kernel
theorem dX11_restore_12 : decode cX11_restore 12 = .ok (.ireturn, 1) := by decide +kernel
theorem dX11_restore_13 : decode cX11_restore 13 = .ok (.aload_n 0, 1) := by decide +kernel
theorem dX11_restore_14 : decode cX11_restore 14 = .ok (.getfield 13, 3) := by decide +kernel
theorem dX11_restore_17 : decode cX11_restore 17 = .ok (.iconst 0, 1) := by decide +kernel
theorem dX11_restore_18 : decode cX11_restore 18 = .ok (.aload_n 0, 1) := by decide +kernel
theorem dX11_restore_19 : decode cX11_restore 19 = .ok (.getfield 7, 3) := by decide +kernel
theorem dX11_restore_22 : decode cX11_restore 22 = .ok (.iconst 0, 1) := by decide +kernel
theorem dX11_restore_23 : decode cX11_restore 23 = .ok (.invokestatic 61, 3) := by decide +kernel
theorem dX11_restore_26 : decode cX11_restore 26 = .ok (.aload_n 0, 1) := by decide +kernel
theorem dX11_restore_27 : decode cX11_restore 27 = .ok (.iconst 0, 1) := by decide +kernel
theorem dX11_restore_28 : decode cX11_restore 28 = .ok (.putfield 321, 3) := by decide +kernel
theorem dX11_restore_31 : decode cX11_restore 31 = .ok (.aload_n 0, 1) := by decide +kernel
theorem dX11_restore_32 : decode cX11_restore 32 = .ok (.getfield 7, 3) := by decide +kernel
theorem dX11_restore_35 : decode cX11_restore 35 = .ok (.bipush 6, 2) := by decide +kernel
theorem dX11_restore_37 : decode cX11_restore 37 = .ok (.iaload, 1) := by decide +kernel
theorem dX11_restore_38 : decode cX11_restore 38 = .ok (.ireturn, 1) := by decide +kernel
def F_X11_restore (N : Nat) (t : HV) : Option (Int32 × (HV)) := (if isb (t.1 7) = true then (lt2 (F_X11_passes (i2b (t.1 7)) t) fun v2 t3 => (if v2 = true then (ob1 (F_X11_copies N 1 0 0 0 t3) fun t5 => (lt (sS t5 5 0) fun t6 => (if vpb 6 760 = true then some ((ag t6 0 6), t6) else none))) else some (0, t3))) else none)
theorem c_X11_restore {w : WP} (hW : gWM w) {Ω : OM}  {t : HV} (e : Ω.2.1 = t) (N : Nat)  {v : Int32} {t' : HV} (hF : F_X11_restore N t = some (v, t')) {Ω' : OM} (e2 : (sM Ω t') = Ω') : gM w 1 yX11_restore cX11_restore 1 (some .int) [.ref (wAd w (11, 12, 0, 0))] (cA w Ω) (some (.int v)) (cA w Ω') := by
  refine gM_of "HedgeMessagesModel" rfl (by decide) (kR rfl) fun X C => ?_
  unfold F_X11_restore at hF
  subst e2
  show gV w X _ _ 0 [(0, .ref (wAd w (11, 12, 0, 0)))] []
  refine r_ct (ct' := cA w (sM Ω t)) (congrArg (cA w) (sM_i e).symm) ?_
  refine r_aload_n C (k := 0) rfl rfl dX11_restore_0 ?_
  refine r_aload_n C (k := 0) rfl rfl dX11_restore_1 ?_
  refine og_11_7 C (hW.ok k11) (show (sM Ω t).2.1 = t from rfl) wm7_74 dX11_restore_2 ?_
  obtain ⟨b1, hF⟩ := gd_e hF
  refine r_st (st' := [.int (b2i (i2b (t.1 7))), .ref (wAd w (11, 12, 0, 0))]) (by rw [← isb_e b1]) ?_
  obtain ⟨v2, t3, ht3, hF⟩ := lt2_e hF
  refine r_callV C (d' := 0) [.int (b2i (i2b (t.1 7)))] (c_X11_passes hW (show (sM Ω t).2.1 = t from rfl) (i2b (t.1 7)) ht3 rfl) myX11_passes wm7_63 ⟨_, _, _, _, (hW.ok k11), rfl, rfl, rfl, rfl⟩ rfl (kR rfl) (by decide) (kR rfl) rfl dX11_restore_5 ?_
  refine r_if_ne C (tgt := 13) rfl dX11_restore_8 (fun hc => ?_) (fun hc => ?_)
  · rw [if_pos (b2i_t hc)] at hF
    refine r_aload_n C (k := 0) rfl rfl dX11_restore_13 ?_
    refine og_11_1 C (hW.ok k11) wm7_68 dX11_restore_14 ?_
    refine r_iconst C (v := 0) rfl dX11_restore_17 ?_
    refine r_aload_n C (k := 0) rfl rfl dX11_restore_18 ?_
    refine og_11_0 C (hW.ok k11) wm7_67 dX11_restore_19 ?_
    refine r_iconst C (v := 0) rfl dX11_restore_22 ?_
    obtain ⟨t5, ht5, hF⟩ := ob1_e hF
    refine r_callS C (d' := 0) [.ref (wAd w (12, 12, 0, 1)), .int 0, .ref (wAd w (12, 12, 0, 0)), .int 0] (c_X11_copies hW (show (sM Ω t3).2.1 = t3 from rfl) N 1 (by unfold okMa; decide) 0 0 (by unfold okMa; decide) 0 ht5 rfl) myX11_copies wm6_182 rfl (kR rfl) (by decide) (kR rfl) rfl dX11_restore_23 ?_
    refine r_aload_n C (k := 0) rfl rfl dX11_restore_26 ?_
    refine r_iconst C (v := 0) rfl dX11_restore_27 ?_
    obtain ⟨t6, et6, hF⟩ := lt_e hF
    refine op_11_5 C hW.x (hW.fr k11) (show (sM Ω t5).2.1 = t5 from rfl) wm7_72 dX11_restore_28 (congrArg (sM Ω) et6) ?_
    refine r_aload_n C (k := 0) rfl rfl dX11_restore_31 ?_
    refine og_11_0 C (hW.ok k11) wm7_67 dX11_restore_32 ?_
    refine r_bipush C (v := 6) rfl dX11_restore_35 ?_
    obtain ⟨b7, hF⟩ := gd_e hF
    refine m_ald C (hW.ok (k12 (a := 0) (by unfold okMa; decide))) (show (sM Ω t6).2.1 = t6 from rfl) rfl b7 dX11_restore_37 ?_
    cases hF
    exact r_ireturn C dX11_restore_38
  · rw [if_neg (b2i_f hc)] at hF
    refine r_iconst C (v := 0) rfl dX11_restore_11 ?_
    cases hF
    exact r_ireturn C dX11_restore_12
theorem dX11_markOf_0 : decode cX11_markOf 0 = .ok (.aload_n 0, 1) := by decide +kernel
theorem dX11_markOf_1 : decode cX11_markOf 1 = .ok (.iload_n 1, 1) := by decide +kernel
theorem dX11_markOf_2 : decode cX11_markOf 2 = .ok (.invokevirtual 84, 3) := by decide +kernel
theorem dX11_markOf_5 : decode cX11_markOf 5 = .ok (.ifCond .eq 32, 3) := by decide +kernel
theorem dX11_markOf_8 : decode cX11_markOf 8 = .ok (.aload_n 0, 1) := by decide +kernel
theorem dX11_markOf_9 : decode cX11_markOf 9 = .ok (.iload_n 1, 1) := by decide +kernel
theorem dX11_markOf_10 : decode cX11_markOf 10 = .ok (.iconst 1, 1) := by decide +kernel
theorem dX11_markOf_11 : decode cX11_markOf 11 = .ok (.invokevirtual 69, 3) := by decide +kernel
theorem dX11_markOf_14 : decode cX11_markOf 14 = .ok (.iconst 1, 1) := by decide +kernel
theorem dX11_markOf_15 : decode cX11_markOf 15 = .ok (.if_icmp .ne 15, 3) := by decide +kernel
theorem dX11_markOf_18 : decode cX11_markOf 18 = .ok (.aload_n 0, 1) := by decide +kernel
theorem dX11_markOf_19 : decode cX11_markOf 19 = .ok (.iload_n 1, 1) := by decide +kernel
theorem dX11_markOf_20 : decode cX11_markOf 20 = .ok (.iconst 0, 1) := by decide +kernel
theorem dX11_markOf_21 : decode cX11_markOf 21 = .ok (.invokevirtual 69, 3) := by decide +kernel
theorem dX11_markOf_24 : decode cX11_markOf 24 = .ok (.bipush 32, 2) := by decide +kernel
theorem dX11_markOf_26 : decode cX11_markOf 26 = .ok (.isub, 1) := by decide +kernel
theorem dX11_markOf_27 : decode cX11_markOf 27 = .ok (.goto 9, 3) := by decide +kernel
theorem dX11_markOf_30 : decode cX11_markOf 30 = .ok (.aload_n 0, 1) := by decide +kernel
theorem dX11_markOf_31 : decode cX11_markOf 31 = .ok (.iload_n 1, 1) := by decide +kernel
theorem dX11_markOf_32 : decode cX11_markOf 32 = .ok (.iconst 0, 1) := by decide +kernel
theorem dX11_markOf_33 : decode cX11_markOf 33 = .ok (.invokevirtual 69, 3) := by decide +kernel
theorem dX11_markOf_36 : decode cX11_markOf 36 = .ok (.ireturn, 1) := by decide +kernel
theorem dX11_markOf_37 : decode cX11_markOf 37 = .ok (.aload_n 0, 1) := by decide +kernel
theorem dX11_markOf_38 : decode cX11_markOf 38 = .ok (.iload_n 1, 1) := by decide +kernel
theorem dX11_markOf_39 : decode cX11_markOf 39 = .ok (.invokevirtual 102, 3) := by decide +kernel
theorem dX11_markOf_42 : decode cX11_markOf 42 = .ok (.ifCond .eq 6, 3) := by decide +kernel
theorem dX11_markOf_45 : decode cX11_markOf 45 = .ok (.bipush 61, 2) := by decide +kernel
theorem dX11_markOf_47 : decode cX11_markOf 47 = .ok (.ireturn, 1) := by decide +kernel
theorem dX11_markOf_48 : decode cX11_markOf 48 = .ok (.aload_n 0, 1) := by decide +kernel
theorem dX11_markOf_49 : decode cX11_markOf 49 = .ok (.iload_n 1, 1) := by decide +kernel
theorem dX11_markOf_50 : decode cX11_markOf 50 = .ok (.invokevirtual 77, 3) := by decide +kernel
theorem dX11_markOf_53 : decode cX11_markOf 53 = .ok (.ifCond .eq 8, 3) := by decide +kernel
theorem dX11_markOf_56 : decode cX11_markOf 56 = .ok (.bipush 42, 2) := by decide +kernel
theorem dX11_markOf_58 : decode cX11_markOf 58 = .ok (.goto 5, 3) := by decide +kernel
theorem dX11_markOf_61 : decode cX11_markOf 61 = .ok (.bipush 46, 2) := by decide +kernel
theorem dX11_markOf_63 : decode cX11_markOf 63 = .ok (.ireturn, 1) := by decide +kernel
def F_X11_markOf (N : Nat) (a1 : Int32) (t : HV) : Option (Int32) := (ob1 (F_X11_hasTwig a1 t) fun v1 => (if v1 = true then (ob1 (F_X11_of a1 1 t) fun v4 => (if v4 = 1 then (ob1 (F_X11_of a1 0 t) fun v6 => some (v6 - 32)) else (ob1 (F_X11_of a1 0 t) fun v5 => some v5))) else (ob1 (F_X11_isReservedAt N a1 t) fun v2 => (if v2 = true then some 61 else (ob1 (F_X11_hasNest a1 t) fun v3 => (if v3 = true then some 42 else some 46))))))
theorem c_X11_markOf {w : WP} (hW : gWM w) {Ω : OM}  {t : HV} (e : Ω.2.1 = t) (N : Nat) (a1 : Int32) {v : Int32} (hF : F_X11_markOf N a1 t = some v) : gM w 3 yX11_markOf cX11_markOf 2 (some .int) [.ref (wAd w (11, 12, 0, 0)), .int a1] (cA w Ω) (some (.int v)) (cA w Ω) := by
  refine gM_of "HedgeMessagesModel" rfl (by decide) (kR rfl) fun X C => ?_
  unfold F_X11_markOf at hF
  show gV w X _ _ 0 [(0, .ref (wAd w (11, 12, 0, 0))), (1, .int a1)] []
  refine r_aload_n C (k := 0) rfl rfl dX11_markOf_0 ?_
  refine r_iload_n C (k := 1) rfl rfl dX11_markOf_1 ?_
  obtain ⟨v1, hv1, hF⟩ := ob1_e hF
  refine r_callV C (d' := 1) [.int a1] (c_X11_hasTwig hW e a1 hv1) myX11_hasTwig wm6_238 ⟨_, _, _, _, (hW.ok k11), rfl, rfl, rfl, rfl⟩ rfl (kR rfl) (by decide) (kR rfl) rfl dX11_markOf_2 ?_
  refine r_if_eq C (tgt := 37) rfl dX11_markOf_5 (fun hc => ?_) (fun hc => ?_)
  · rw [if_neg (b2i_f hc)] at hF
    refine r_aload_n C (k := 0) rfl rfl dX11_markOf_37 ?_
    refine r_iload_n C (k := 1) rfl rfl dX11_markOf_38 ?_
    obtain ⟨v2, hv2, hF⟩ := ob1_e hF
    refine r_callV C (d' := 2) [.int a1] (c_X11_isReservedAt hW e N a1 hv2) myX11_isReservedAt wm7_212 ⟨_, _, _, _, (hW.ok k11), rfl, rfl, rfl, rfl⟩ rfl (kR rfl) (by decide) (kR rfl) rfl dX11_markOf_39 ?_
    refine r_if_eq C (tgt := 48) rfl dX11_markOf_42 (fun hc => ?_) (fun hc => ?_)
    · rw [if_neg (b2i_f hc)] at hF
      refine r_aload_n C (k := 0) rfl rfl dX11_markOf_48 ?_
      refine r_iload_n C (k := 1) rfl rfl dX11_markOf_49 ?_
      obtain ⟨v3, hv3, hF⟩ := ob1_e hF
      refine r_callV C (d' := 2) [.int a1] (c_X11_hasNest hW e a1 hv3) myX11_hasNest wm7_23 ⟨_, _, _, _, (hW.ok k11), rfl, rfl, rfl, rfl⟩ rfl (kR rfl) (by decide) (kR rfl) rfl dX11_markOf_50 ?_
      refine r_if_eq C (tgt := 61) rfl dX11_markOf_53 (fun hc => ?_) (fun hc => ?_)
      · rw [if_neg (b2i_f hc)] at hF
        refine r_bipush C (v := 46) rfl dX11_markOf_61 ?_
        cases hF
        exact r_ireturn C dX11_markOf_63
      · rw [if_pos (b2i_t hc)] at hF
        refine r_bipush C (v := 42) rfl dX11_markOf_56 ?_
        refine r_goto C (tgt := 63) rfl dX11_markOf_58 ?_
        cases hF
        exact r_ireturn C dX11_markOf_63
    · rw [if_pos (b2i_t hc)] at hF
      refine r_bipush C (v := 61) rfl dX11_markOf_45 ?_
      cases hF
      exact r_ireturn C dX11_markOf_47
  · rw [if_pos (b2i_t hc)] at hF
    refine r_aload_n C (k := 0) rfl rfl dX11_markOf_8 ?_
    refine r_iload_n C (k := 1) rfl rfl dX11_markOf_9 ?_
    refine r_iconst C (v := 1) rfl dX11_markOf_10 ?_
    obtain ⟨v4, hv4, hF⟩ := ob1_e hF
    refine r_callV C (d' := 0) [.int a1, .int 1] (c_X11_of hW e a1 1 hv4) myX11_of wm7_2 ⟨_, _, _, _, (hW.ok k11), rfl, rfl, rfl, rfl⟩ rfl (kR rfl) (by decide) (kR rfl) rfl dX11_markOf_11 ?_
    refine r_iconst C (v := 1) rfl dX11_markOf_14 ?_
    refine r_icmp_ne C (tgt := 30) rfl dX11_markOf_15 (fun hc => ?_) (fun hc => ?_)
    · rw [if_neg hc] at hF
      refine r_aload_n C (k := 0) rfl rfl dX11_markOf_30 ?_
      refine r_iload_n C (k := 1) rfl rfl dX11_markOf_31 ?_
      refine r_iconst C (v := 0) rfl dX11_markOf_32 ?_
      obtain ⟨v5, hv5, hF⟩ := ob1_e hF
      refine r_callV C (d' := 0) [.int a1, .int 0] (c_X11_of hW e a1 0 hv5) myX11_of wm7_2 ⟨_, _, _, _, (hW.ok k11), rfl, rfl, rfl, rfl⟩ rfl (kR rfl) (by decide) (kR rfl) rfl dX11_markOf_33 ?_
      cases hF
      exact r_ireturn C dX11_markOf_36
    · rw [if_pos hc] at hF
      refine r_aload_n C (k := 0) rfl rfl dX11_markOf_18 ?_
      refine r_iload_n C (k := 1) rfl rfl dX11_markOf_19 ?_
      refine r_iconst C (v := 0) rfl dX11_markOf_20 ?_
      obtain ⟨v6, hv6, hF⟩ := ob1_e hF
      refine r_callV C (d' := 0) [.int a1, .int 0] (c_X11_of hW e a1 0 hv6) myX11_of wm7_2 ⟨_, _, _, _, (hW.ok k11), rfl, rfl, rfl, rfl⟩ rfl (kR rfl) (by decide) (kR rfl) rfl dX11_markOf_21 ?_
      refine r_bipush C (v := 32) rfl dX11_markOf_24 ?_
      refine r_isub C dX11_markOf_26 ?_
      refine r_goto C (tgt := 36) rfl dX11_markOf_27 ?_
      cases hF
      exact r_ireturn C dX11_markOf_36
theorem dX11_formatHedge_0 : decode cX11_formatHedge 0 = .ok (.aload_n 0, 1) := by decide +kernel
theorem dX11_formatHedge_1 : decode cX11_formatHedge 1 = .ok (.iconst 0, 1) := by decide +kernel
theorem dX11_formatHedge_2 : decode cX11_formatHedge 2 = .ok (.putfield 58, 3) := by decide +kernel
theorem dX11_formatHedge_5 : decode cX11_formatHedge 5 = .ok (.aload_n 0, 1) := by decide +kernel
theorem dX11_formatHedge_6 : decode cX11_formatHedge 6 = .ok (.aload_n 0, 1) := by decide +kernel
theorem dX11_formatHedge_7 : decode cX11_formatHedge 7 = .ok (.getfield 7, 3) := by decide +kernel
theorem dX11_formatHedge_10 : decode cX11_formatHedge 10 = .ok (.iconst 0, 1) := by decide +kernel
theorem dX11_formatHedge_11 : decode cX11_formatHedge 11 = .ok (.iaload, 1) := by decide +kernel
theorem dX11_formatHedge_12 : decode cX11_formatHedge 12 = .ok (.putfield 446, 3) := by decide +kernel
theorem dX11_formatHedge_15 : decode cX11_formatHedge 15 = .ok (.iconst 0, 1) := by decide +kernel
theorem dX11_formatHedge_16 : decode cX11_formatHedge 16 = .ok (.istore_n 1, 1) := by decide +kernel
theorem dX11_formatHedge_17 : decode cX11_formatHedge 17 = .ok (.iload_n 1, 1) := by decide +kernel
theorem dX11_formatHedge_18 : decode cX11_formatHedge 18 = .ok (.aload_n 0, 1) := by decide +kernel
theorem dX11_formatHedge_19 : decode cX11_formatHedge 19 = .ok (.getfield 7, 3) := by decide +kernel
theorem dX11_formatHedge_22 : decode cX11_formatHedge 22 = .ok (.iconst 0, 1) := by decide +kernel
theorem dX11_formatHedge_23 : decode cX11_formatHedge 23 = .ok (.iaload, 1) := by decide +kernel
theorem dX11_formatHedge_24 : decode cX11_formatHedge 24 = .ok (.if_icmp .ge 20, 3) := by decide +kernel
theorem dX11_formatHedge_27 : decode cX11_formatHedge 27 = .ok (.aload_n 0, 1) := by decide +kernel
theorem dX11_formatHedge_28 : decode cX11_formatHedge 28 = .ok (.getfield 38, 3) := by decide +kernel
theorem dX11_formatHedge_31 : decode cX11_formatHedge 31 = .ok (.iload_n 1, 1) := by decide +kernel
theorem dX11_formatHedge_32 : decode cX11_formatHedge 32 = .ok (.aload_n 0, 1) := by decide +kernel
theorem dX11_formatHedge_33 : decode cX11_formatHedge 33 = .ok (.iload_n 1, 1) := by decide +kernel
theorem dX11_formatHedge_34 : decode cX11_formatHedge 34 = .ok (.invokevirtual 449, 3) := by decide +kernel
theorem dX11_formatHedge_37 : decode cX11_formatHedge 37 = .ok (.iastore, 1) := by decide +kernel
theorem dX11_formatHedge_38 : decode cX11_formatHedge 38 = .ok (.iinc 1 1, 3) := by decide +kernel
theorem dX11_formatHedge_41 : decode cX11_formatHedge 41 = .ok (.goto (-24), 3) := by decide +kernel
theorem dX11_formatHedge_44 : decode cX11_formatHedge 44 = .ok (.aload_n 0, 1) := by decide +kernel
theorem dX11_formatHedge_45 : decode cX11_formatHedge 45 = .ok (.getfield 446, 3) := by decide +kernel
theorem dX11_formatHedge_48 : decode cX11_formatHedge 48 = .ok (.ireturn, 1) := by decide +kernel
def st_X11_formatHedge_17 (N : Nat) (l1 : Int32) (t : HV) : Option ((Int32 × HV) ⊕ (Int32 × (HV))) := (if vpb 0 760 = true then (if (ag t 0 0) ≤ l1 then some (.inr ((t.1 22), t)) else (ob1 (F_X11_markOf N l1 t) fun v5 => (if vpb l1 40 = true then (lt (aw t 21 l1 v5) fun t7 => some (.inl ((l1 + 1), t7))) else none))) else none)
def F_X11_formatHedge (N : Nat) (t : HV) : Option (Int32 × (HV)) := (lt (sS t 6 0) fun t1 => (if vpb 0 760 = true then (lt (sS t1 22 (ag t1 0 0)) fun t3 => (lpN N (fun z => st_X11_formatHedge_17 N z.1 z.2) (0, t3))) else none))
theorem lp_X11_formatHedge_17 {w : WP} (hW : gWM w) {Ω : OM}    {N : Nat} {X : CX} (C : gC w X cX11_formatHedge "HedgeMessagesModel" (some .int) 4 2) {v : Int32} {t' : HV}  : ∀ (n : Nat) (l1 : Int32) (t : HV), lpN n (fun z : Int32 × HV => st_X11_formatHedge_17 N z.1 z.2) (l1, t) = some (v, t') → gV w X (some (.int v), cA w (sM Ω t')) (cA w (sM Ω t)) 17 [(0, .ref (wAd w (11, 12, 0, 0))), (1, .int l1)] [] := by
  intro n
  induction n with
  | zero => intro l1 t hL; exact lpN_0 hL
  | succ n ih =>
    intro l1 t hL
    obtain ⟨q9, hF, hL⟩ := lpN_e hL
    change st_X11_formatHedge_17 N l1 t = some q9 at hF
    unfold st_X11_formatHedge_17 at hF
    refine r_iload_n C (k := 1) rfl rfl dX11_formatHedge_17 ?_
    refine r_aload_n C (k := 0) rfl rfl dX11_formatHedge_18 ?_
    refine og_11_0 C (hW.ok k11) wm7_67 dX11_formatHedge_19 ?_
    refine r_iconst C (v := 0) rfl dX11_formatHedge_22 ?_
    obtain ⟨b4, hF⟩ := gd_e hF
    refine m_ald C (hW.ok (k12 (a := 0) (by unfold okMa; decide))) (show (sM Ω t).2.1 = t from rfl) rfl b4 dX11_formatHedge_23 ?_
    refine r_icmp_ge C (tgt := 44) rfl dX11_formatHedge_24 (fun hc => ?_) (fun hc => ?_)
    · rw [if_pos hc] at hF
      refine r_aload_n C (k := 0) rfl rfl dX11_formatHedge_44 ?_
      refine og_11_22 C (hW.ok k11) (show (sM Ω t).2.1 = t from rfl) wm7_89 dX11_formatHedge_45 ?_
      cases hF
      change some _ = some _ at hL
      cases hL
      exact r_ireturn C dX11_formatHedge_48
    · rw [if_neg hc] at hF
      refine r_aload_n C (k := 0) rfl rfl dX11_formatHedge_27 ?_
      refine og_11_21 C (hW.ok k11) wm7_88 dX11_formatHedge_28 ?_
      refine r_iload_n C (k := 1) rfl rfl dX11_formatHedge_31 ?_
      refine r_aload_n C (k := 0) rfl rfl dX11_formatHedge_32 ?_
      refine r_iload_n C (k := 1) rfl rfl dX11_formatHedge_33 ?_
      obtain ⟨v5, hv5, hF⟩ := ob1_e hF
      refine r_callV C (d' := 3) [.int l1] (c_X11_markOf hW (show (sM Ω t).2.1 = t from rfl) N l1 hv5) myX11_markOf wm9_186 ⟨_, _, _, _, (hW.ok k11), rfl, rfl, rfl, rfl⟩ rfl (kR rfl) (by decide) (kR rfl) rfl dX11_formatHedge_34 ?_
      obtain ⟨b6, hF⟩ := gd_e hF
      obtain ⟨t7, et7, hF⟩ := lt_e hF
      refine m_ast C hW.x (hW.fr (k12 (a := 21) (by unfold okMa; decide))) (show (sM Ω t).2.1 = t from rfl) rfl b6 dX11_formatHedge_37 (congrArg (sM Ω) et7) ?_
      refine r_iinc C (k := 1) (v := (l1 + 1)) (lo' := [(1, .int (l1 + 1)), (0, .ref (wAd w (11, 12, 0, 0)))]) rfl rfl (by decide) rfl dX11_formatHedge_38 ?_
      refine r_goto C (tgt := 17) rfl dX11_formatHedge_41 ?_
      cases hF
      change lpN n _ _ = some _ at hL
      refine r_lo [1, 0] (lo' := [(0, .ref (wAd w (11, 12, 0, 0))), (1, .int (l1 + 1))]) rfl ?_
      exact ih (l1 + 1) t7 hL
theorem c_X11_formatHedge {w : WP} (hW : gWM w) {Ω : OM}  {t : HV} (e : Ω.2.1 = t) (N : Nat)  {v : Int32} {t' : HV} (hF : F_X11_formatHedge N t = some (v, t')) {Ω' : OM} (e2 : (sM Ω t') = Ω') : gM w 4 yX11_formatHedge cX11_formatHedge 2 (some .int) [.ref (wAd w (11, 12, 0, 0))] (cA w Ω) (some (.int v)) (cA w Ω') := by
  refine gM_of "HedgeMessagesModel" rfl (by decide) (kR rfl) fun X C => ?_
  unfold F_X11_formatHedge at hF
  subst e2
  show gV w X _ _ 0 [(0, .ref (wAd w (11, 12, 0, 0)))] []
  refine r_ct (ct' := cA w (sM Ω t)) (congrArg (cA w) (sM_i e).symm) ?_
  refine r_aload_n C (k := 0) rfl rfl dX11_formatHedge_0 ?_
  refine r_iconst C (v := 0) rfl dX11_formatHedge_1 ?_
  obtain ⟨t1, et1, hF⟩ := lt_e hF
  refine op_11_6 C hW.x (hW.fr k11) (show (sM Ω t).2.1 = t from rfl) wm7_73 dX11_formatHedge_2 (congrArg (sM Ω) et1) ?_
  refine r_aload_n C (k := 0) rfl rfl dX11_formatHedge_5 ?_
  refine r_aload_n C (k := 0) rfl rfl dX11_formatHedge_6 ?_
  refine og_11_0 C (hW.ok k11) wm7_67 dX11_formatHedge_7 ?_
  refine r_iconst C (v := 0) rfl dX11_formatHedge_10 ?_
  obtain ⟨b2, hF⟩ := gd_e hF
  refine m_ald C (hW.ok (k12 (a := 0) (by unfold okMa; decide))) (show (sM Ω t1).2.1 = t1 from rfl) rfl b2 dX11_formatHedge_11 ?_
  obtain ⟨t3, et3, hF⟩ := lt_e hF
  refine op_11_22 C hW.x (hW.fr k11) (show (sM Ω t1).2.1 = t1 from rfl) wm7_89 dX11_formatHedge_12 (congrArg (sM Ω) et3) ?_
  refine r_iconst C (v := 0) rfl dX11_formatHedge_15 ?_
  refine r_istore_n C (lo' := [(1, .int 0), (0, .ref (wAd w (11, 12, 0, 0)))]) rfl (by decide) rfl dX11_formatHedge_16 ?_
  refine r_lo [1, 0] (lo' := [(0, .ref (wAd w (11, 12, 0, 0))), (1, .int 0)]) rfl ?_
  exact lp_X11_formatHedge_17 hW C N 0 t3 hF
theorem dX11_outputByte_0 : decode cX11_outputByte 0 = .ok (.aload_n 0, 1) := by decide +kernel
theorem dX11_outputByte_1 : decode cX11_outputByte 1 = .ok (.iconst 0, 1) := by decide +kernel
theorem dX11_outputByte_2 : decode cX11_outputByte 2 = .ok (.putfield 58, 3) := by decide +kernel
theorem dX11_outputByte_5 : decode cX11_outputByte 5 = .ok (.iload_n 1, 1) := by decide +kernel
theorem dX11_outputByte_6 : decode cX11_outputByte 6 = .ok (.i2l, 1) := by decide +kernel
theorem dX11_outputByte_7 : decode cX11_outputByte 7 = .ok (.lconst 0, 1) := by decide +kernel
theorem dX11_outputByte_8 : decode cX11_outputByte 8 = .ok (.aload_n 0, 1) := by decide +kernel
theorem dX11_outputByte_9 : decode cX11_outputByte 9 = .ok (.getfield 446, 3) := by decide +kernel
theorem dX11_outputByte_12 : decode cX11_outputByte 12 = .ok (.iconst 1, 1) := by decide +kernel
theorem dX11_outputByte_13 : decode cX11_outputByte 13 = .ok (.isub, 1) := by decide +kernel
theorem dX11_outputByte_14 : decode cX11_outputByte 14 = .ok (.i2l, 1) := by decide +kernel
theorem dX11_outputByte_15 : decode cX11_outputByte 15 = .ok (.invokestatic 65, 3) := by decide +kernel
theorem dX11_outputByte_18 : decode cX11_outputByte 18 = .ok (.ifCond .eq 12, 3) := by decide +kernel
theorem dX11_outputByte_21 : decode cX11_outputByte 21 = .ok (.aload_n 0, 1) := by decide +kernel
theorem dX11_outputByte_22 : decode cX11_outputByte 22 = .ok (.getfield 38, 3) := by decide +kernel
theorem dX11_outputByte_25 : decode cX11_outputByte 25 = .ok (.iload_n 1, 1) := by decide +kernel
theorem dX11_outputByte_26 : decode cX11_outputByte 26 = .ok (.iaload, 1) := by decide +kernel
theorem dX11_outputByte_27 : decode cX11_outputByte 27 = .ok (.goto 4, 3) := by decide +kernel
theorem dX11_outputByte_30 : decode cX11_outputByte 30 = .ok (.iconst (-1), 1) := by decide +kernel
theorem dX11_outputByte_31 : decode cX11_outputByte 31 = .ok (.ireturn, 1) := by decide +kernel
def F_X11_outputByte (a1 : Int32) (t : HV) : Option (Int32 × (HV)) := (lt (sS t 6 0) fun t1 => (if (F_X11_in ((a1 : Int32).toInt64) (0 : Int64) ((((t1.1 22) - 1) : Int32).toInt64)) = true then (if vpb a1 40 = true then some ((ag t1 21 a1), t1) else none) else some ((-1), t1)))
theorem c_X11_outputByte {w : WP} (hW : gWM w) {Ω : OM}  {t : HV} (e : Ω.2.1 = t) (a1 : Int32) {v : Int32} {t' : HV} (hF : F_X11_outputByte a1 t = some (v, t')) {Ω' : OM} (e2 : (sM Ω t') = Ω') : gM w 1 yX11_outputByte cX11_outputByte 2 (some .int) [.ref (wAd w (11, 12, 0, 0)), .int a1] (cA w Ω) (some (.int v)) (cA w Ω') := by
  refine gM_of "HedgeMessagesModel" rfl (by decide) (kR rfl) fun X C => ?_
  unfold F_X11_outputByte at hF
  subst e2
  show gV w X _ _ 0 [(0, .ref (wAd w (11, 12, 0, 0))), (1, .int a1)] []
  refine r_ct (ct' := cA w (sM Ω t)) (congrArg (cA w) (sM_i e).symm) ?_
  refine r_aload_n C (k := 0) rfl rfl dX11_outputByte_0 ?_
  refine r_iconst C (v := 0) rfl dX11_outputByte_1 ?_
  obtain ⟨t1, et1, hF⟩ := lt_e hF
  refine op_11_6 C hW.x (hW.fr k11) (show (sM Ω t).2.1 = t from rfl) wm7_73 dX11_outputByte_2 (congrArg (sM Ω) et1) ?_
  refine r_iload_n C (k := 1) rfl rfl dX11_outputByte_5 ?_
  refine r_i2l C (v := ((a1 : Int32).toInt64)) rfl dX11_outputByte_6 ?_
  refine r_lconst C (v := 0) rfl dX11_outputByte_7 ?_
  refine r_aload_n C (k := 0) rfl rfl dX11_outputByte_8 ?_
  refine og_11_22 C (hW.ok k11) (show (sM Ω t1).2.1 = t1 from rfl) wm7_89 dX11_outputByte_9 ?_
  refine r_iconst C (v := 1) rfl dX11_outputByte_12 ?_
  refine r_isub C dX11_outputByte_13 ?_
  refine r_i2l C (v := ((((t1.1 22) - 1) : Int32).toInt64)) rfl dX11_outputByte_14 ?_
  refine r_callS C (d' := 0) [.long ((a1 : Int32).toInt64), .long (0 : Int64), .long ((((t1.1 22) - 1) : Int32).toInt64)] (c_X11_in ((a1 : Int32).toInt64) (0 : Int64) ((((t1.1 22) - 1) : Int32).toInt64) rfl) myX11_in wm6_208 rfl (kR rfl) (by decide) (kR rfl) rfl dX11_outputByte_15 ?_
  refine r_if_eq C (tgt := 30) rfl dX11_outputByte_18 (fun hc => ?_) (fun hc => ?_)
  · rw [if_neg (b2i_f hc)] at hF
    refine r_iconst C (v := (-1)) (by decide) dX11_outputByte_30 ?_
    cases hF
    exact r_ireturn C dX11_outputByte_31
  · rw [if_pos (b2i_t hc)] at hF
    refine r_aload_n C (k := 0) rfl rfl dX11_outputByte_21 ?_
    refine og_11_21 C (hW.ok k11) wm7_88 dX11_outputByte_22 ?_
    refine r_iload_n C (k := 1) rfl rfl dX11_outputByte_25 ?_
    obtain ⟨b2, hF⟩ := gd_e hF
    refine m_ald C (hW.ok (k12 (a := 21) (by unfold okMa; decide))) (show (sM Ω t1).2.1 = t1 from rfl) rfl b2 dX11_outputByte_26 ?_
    refine r_goto C (tgt := 31) rfl dX11_outputByte_27 ?_
    cases hF
    exact r_ireturn C dX11_outputByte_31
