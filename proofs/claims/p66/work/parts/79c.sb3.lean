/-! ===== sb3: texts appended, builders begun ===== -/
/-- the text of a constant -/
def stN (i : Nat) : List Nat := (sTx i).map (·.toNatClampNeg)
theorem stN_len {i : Nat} : (stN i).length = (sTx i).length := List.length_map _
theorem sTx_nI : ∀ i, i < 32 → ((sTx i).length ≤ 60 ∧ ∀ b ∈ sTx i, b = nI b.toNatClampNeg ∧ b.toNatClampNeg < 128) := by decide +kernel
theorem stN_at {i k : Nat} (hi : i < 32) (hk : k < (sTx i).length) : (sTx i).getD k 0 = nI ((stN i).getD k 0) ∧ (stN i).getD k 0 < 128 := by
  have h := (sTx_nI i hi).2 _ (List.getElem_mem hk)
  rw [List.getD_eq_getElem?_getD, List.getD_eq_getElem?_getD]
  unfold stN
  rw [List.getElem?_map, List.getElem?_eq_getElem hk]
  exact h
theorem fB_sTx {i : Nat} (hi : i < 32) : fB (fun j => (sTx i).getD j 0) := by
  intro j
  show fits .byte (.int ((sTx i).getD j 0)) = true
  by_cases h : j < (sTx i).length
  · obtain ⟨h1, h2⟩ := stN_at hi h
    rw [h1]
    have := fB_upd fB0 0 h2 0
    unfold upd at this
    rw [if_pos rfl] at this
    exact this
  · rw [List.getD_eq_getElem?_getD, List.getElem?_eq_none (by omega)]
    decide
theorem lat_app {T : List Nat} {f : Nat → Int32} {i : Nat} (hi : i < 32) (h : lat T f) : lat (T ++ stN i) (va_cpy (fun j => (sTx i).getD j 0) f 0 T.length (sTx i).length) := by
  intro k hk
  rw [List.length_append, stN_len] at hk
  by_cases h1 : k < T.length
  · rw [getD_l h1, pk_cpy_out (Or.inl h1)]
    exact h k h1
  · rw [getD_r (by omega), pk_cpy_in (by omega) (by omega), Nat.zero_add]
    exact (stN_at hi (by omega)).1
theorem gO_s {w : WP} {X : CX} {i s : Nat} (hi : i < 32) (hs : sAd w i = s) (h : gX w X (EXs w)) : gX w X (va_O "java/lang/String" s) := by
  subst hs
  exact h.imp fun _ _ _ h => (h.2.2.2 i hi).1


theorem moJ5_append_cf1ce : gYO "java/lang/StringBuilder" "java/lang/AbstractStringBuilder" yJ5_append_cf1ce yJ4_append_cf1ce cJ4_append_cf1ce 2 (Option.some (Jvm.ClassFile.FieldType.object "java/lang/AbstractStringBuilder")) 1 := ⟨wm7_11, wm1_3, ⟨by decide, by decide, by decide +kernel⟩, ⟨_, _, _, wm6_172⟩, wm6_171, wx7_27, wm7_32, wm7_10⟩
theorem c_getB {w : WP} (hS : gS w) {ct : CT} {iC : ID} {v n L : Nat} {f : Nat → Int32} (hV : wFr w iC) (hv : wAd w iC = v) (hcv : ct iC = .inl (wJ w, L, .inl f)) {i s : Nat} (hi : i < 32) (hs : sAd w i = s) (hn : n + (sTx i).length ≤ L) (hL : L ≤ 1000) : gM w 1 yJ0_getBytes_840e7 cJ0_getBytes_840e7 4 none [.ref s, .ref v, .int (nI n), .int 0] ct none (upE ct iC (.inl (wJ w, L, .inl (va_cpy (fun j => (sTx i).getD j 0) f 0 n (sTx i).length)))) := by
  subst hs
  refine gM_of "java/lang/String" rfl (by decide) (kR rfl) fun X C => ?_
  have hE := hS.s C
  have hO : gX w X (va_O "java/lang/String" (sAd w i)) := hE.imp fun _ _ _ h => (h.2.2.2 i hi).1
  show gV w X _ _ 0 [(0, .ref (sAd w i)), (1, .ref v), (2, .int (nI n)), (3, .int 0)] []
  refine r_aload_n C (k := 0) rfl rfl dJ0_getBytes_840e7_0 ?_
  refine r_callE C (d' := 0) [] (c_coder hS hi) myJ0_coder_7d493 wm2_93 hO rfl (kR rfl) (by decide) (kR rfl) rfl dJ0_getBytes_840e7_1 ?_
  refine r_iload_n C (k := 3) rfl rfl dJ0_getBytes_840e7_4 ?_
  refine r_icmp_ne C (tgt := 28) rfl dJ0_getBytes_840e7_5 (fun h => absurd rfl h) (fun _ => ?_)
  refine r_aload_n C (k := 0) rfl rfl dJ0_getBytes_840e7_8 ?_
  refine r_getO C (hE.imp fun _ _ _ h => (h.2.2.2 i hi).2.2.1) wm6_208 dJ0_getBytes_840e7_9 ?_
  refine r_iconst C (v := 0) rfl dJ0_getBytes_840e7_12 ?_
  refine r_aload_n C (k := 1) rfl rfl dJ0_getBytes_840e7_13 ?_
  refine r_iload_n C (k := 2) rfl rfl dJ0_getBytes_840e7_14 ?_
  refine r_iload_n C (k := 3) rfl rfl dJ0_getBytes_840e7_15 ?_
  refine r_ishl C dJ0_getBytes_840e7_16 ?_
  refine r_st (st' := [.int (nI n), .ref v, .int 0, .ref (wAd w (16, i, 0, 0))]) (by rw [sb_shl0] <;> rfl) ?_
  refine r_aload_n C (k := 0) rfl rfl dJ0_getBytes_840e7_17 ?_
  refine r_getO C (hE.imp fun _ _ _ h => (h.2.2.2 i hi).2.2.1) wm6_208 dJ0_getBytes_840e7_18 ?_
  refine r_tlen C (hE.imp fun _ _ _ h => (h.2.2.2 i hi).2.2.2) dJ0_getBytes_840e7_21 ?_
  refine r_acopyA C (kR rfl) (gSrc_T C (hE.imp fun _ _ _ h => (h.2.2.2 i hi).2.2.2)) (fB_sTx hi) iC hV hv hcv wm6_194 0 n (sTx i).length rfl rfl rfl (by decide) (by omega) (by omega) (by omega) (by omega) (kR rfl) dJ0_getBytes_840e7_22 ?_
  refine r_goto C (tgt := 43) rfl dJ0_getBytes_840e7_25 ?_
  exact r_return C dJ0_getBytes_840e7_43
theorem c_infl {w : WP} (hS : gS w) {ct : CT} {iB : ID} {b v n : Nat} (hB : wOk w iB) (ha : wAd w iB = b) (hct : ct iB = sbC v n) {i s : Nat} (hi : i < 32) (hs : sAd w i = s) : gM w 1 yJ5_inflateIfNeededFor_a7421 cJ5_inflateIfNeededFor_a7421 2 none [.ref b, .ref s] ct none ct := by
  subst hs
  refine gM_of "java/lang/AbstractStringBuilder" rfl (by decide) (kR rfl) fun X C => ?_
  have hE := hS.s C
  have hO : gX w X (va_O "java/lang/String" (sAd w i)) := hE.imp fun _ _ _ h => (h.2.2.2 i hi).1
  show gV w X _ _ 0 [(0, .ref b), (1, .ref (sAd w i))] []
  refine r_gets C (hE.imp fun _ _ _ h => h.1) wm6_2 dJ5_inflateIfNeededFor_a7421_0 ?_
  refine r_if_eq C (tgt := 21) rfl dJ5_inflateIfNeededFor_a7421_3 (fun h => absurd h (by decide)) (fun _ => ?_)
  refine r_aload_n C (k := 0) rfl rfl dJ5_inflateIfNeededFor_a7421_6 ?_
  refine r_getA C FJ4 1 iB hB ha hct (by decide) wm6_11 rfl dJ5_inflateIfNeededFor_a7421_7 ?_
  refine r_aload_n C (k := 1) rfl rfl dJ5_inflateIfNeededFor_a7421_10 ?_
  refine r_callE C (d' := 0) [] (c_coder hS hi) myJ0_coder_7d493 wm6_189 hO rfl (kR rfl) (by decide) (kR rfl) rfl dJ5_inflateIfNeededFor_a7421_11 ?_
  refine r_icmp_eq C (tgt := 21) rfl dJ5_inflateIfNeededFor_a7421_14 (fun _ => ?_) (fun h => absurd rfl h)
  exact r_return C dJ5_inflateIfNeededFor_a7421_21
theorem c_putS {w : WP} (hS : gS w) (hD : gD w) {ct : CT} {iB iC : ID} {b v n n0 L : Nat} {f : Nat → Int32} (hB : wFr w iB) (ha : wAd w iB = b) (hct : ct iB = sbC v n0) (hV : wFr w iC) (hv : wAd w iC = v) (hcv : ct iC = .inl (wJ w, L, .inl f)) {i s : Nat} (hi : i < 32) (hs : sAd w i = s) (hn : n + (sTx i).length ≤ L) (hL : L ≤ 1000) : gM w 2 yJ5_putStringAt_47b60 cJ5_putStringAt_47b60 3 none [.ref b, .int (nI n), .ref s] ct none (upE ct iC (.inl (wJ w, L, .inl (va_cpy (fun j => (sTx i).getD j 0) f 0 n (sTx i).length)))) := by
  have hBo := hD.2.1 iB hB
  refine gM_of "java/lang/AbstractStringBuilder" rfl (by decide) (kR rfl) fun X C => ?_
  have hE := hS.s C
  show gV w X _ _ 0 [(0, .ref b), (1, .int (nI n)), (2, .ref s)] []
  refine r_aload_n C (k := 0) rfl rfl dJ5_putStringAt_47b60_0 ?_
  refine r_aload_n C (k := 2) rfl rfl dJ5_putStringAt_47b60_1 ?_
  refine r_callB C (d' := 1) [.ref s] (c_infl hS hBo ha hct hi hs) mbJ5_inflateIfNeededFor_a7421 ((hS.e C).imp fun _ _ _ h => h.2.2.2.2 _ (by decide)) wm6_185 (recB hBo ha hct) rfl (kR rfl) (by decide) (kR rfl) rfl dJ5_putStringAt_47b60_2 ?_
  refine r_aload_n C (k := 2) rfl rfl dJ5_putStringAt_47b60_5 ?_
  refine r_aload_n C (k := 0) rfl rfl dJ5_putStringAt_47b60_6 ?_
  refine r_getA C FJ4 0 iB hBo ha hct (by decide) wm6_10 rfl dJ5_putStringAt_47b60_7 ?_
  refine r_iload_n C (k := 1) rfl rfl dJ5_putStringAt_47b60_10 ?_
  refine r_aload_n C (k := 0) rfl rfl dJ5_putStringAt_47b60_11 ?_
  refine r_getA C FJ4 1 iB hBo ha hct (by decide) wm6_11 rfl dJ5_putStringAt_47b60_12 ?_
  refine r_callE C (d' := 1) [.ref v, .int (nI n), .int 0] (c_getB hS hV hv hcv hi hs hn hL) myJ0_getBytes_840e7 wm6_190 (gO_s hi hs hE) rfl (kR rfl) (by decide) (kR rfl) rfl dJ5_putStringAt_47b60_15 ?_
  exact r_return C dJ5_putStringAt_47b60_18
theorem c_asbS {w : WP} (hS : gS w) (hY : gY w) (hD : gD w) {ct : CT} {iB iV iW : ID} {b L : Nat} {T : List Nat} (hIn : sbIn w ct iB iV T L) (ha : wAd w iB = b) (hW9 : ¬ wOk w iW) (hk9 : 30 ≤ iW.1) {i s : Nat} (hi : i < 32) (hs : sAd w i = s) (hm : T.length + (sTx i).length ≤ 400) : gMe w 4 yJ5_append_cf1ce cJ5_append_cf1ce 3 (some (.object "java/lang/AbstractStringBuilder")) [.ref b, .ref s] ct (sbPost w ct iB iV iW (T ++ stN i) (some (.ref b))) 1 1000 := by
  have hIn0 := hIn
  obtain ⟨hB, hV, hBV, hct, ⟨f, hcv, hf, hl⟩, hTL, hL⟩ := hIn
  have hBo := hD.2.1 iB hB
  obtain ⟨v, hv⟩ : ∃ v, wAd w iV = v := ⟨_, rfl⟩
  rw [hv] at hct
  refine gMe_of "java/lang/AbstractStringBuilder" rfl (by decide) (kR rfl) fun X C hT => ?_
  have hE := hS.s C
  show gU w X _ _ 0 [(0, .ref b), (1, .ref s)] []
  refine r_aload_n C (k := 1) rfl rfl dJ5_append_cf1ce_0 ?_
  refine r_ifnonnull C (tgt := 9) rfl dJ5_append_cf1ce_1 ?_
  refine r_aload_n C (k := 1) rfl rfl dJ5_append_cf1ce_9 ?_
  refine r_callE C (d' := 1) [] (by rw [← hs]; exact c_slen hS hi) myJ0_length_8abf5 wm6_180 (gO_s hi hs hE) rfl (kR rfl) (by decide) (kR rfl) rfl dJ5_append_cf1ce_10 ?_
  refine r_istore_n C (lo' := [(2, .int (nI (sTx i).length)), (0, .ref b), (1, .ref s)]) rfl (by decide) rfl dJ5_append_cf1ce_13 ?_
  refine r_aload_n C (k := 1) rfl rfl dJ5_append_cf1ce_14 ?_
  refine r_aload_n C (k := 1) rfl rfl dJ5_append_cf1ce_15 ?_
  refine r_getA C FJ4 3 iB hBo ha hct (by decide) wm6_13 rfl dJ5_append_cf1ce_16 ?_
  refine r_iload_n C (k := 0) rfl rfl dJ5_append_cf1ce_19 ?_
  refine r_iadd C dJ5_append_cf1ce_20 ?_
  refine r_st (st' := [.int (nI (T.length + (sTx i).length)), .ref b]) (by rw [nI_add] <;> rfl) ?_
  refine r_geV C (d' := 3) [.int (nI (T.length + (sTx i).length))] (c_ensure hS hY (iW := iW) (m := T.length + (sTx i).length) hIn0 ha hW9 hD (by omega)) mbJ5_ensureCapacityInternal_d00df ((hS.e C).imp fun _ _ _ h => h.2.2.2.2 _ (by decide)) wm6_30 (recB hBo ha hct) rfl (kR rfl) (by decide) (kR rfl) rfl dJ5_append_cf1ce_21 (hT.q (show 0 + 1 ≤ 1 from Nat.le_refl _) (show 0 + 1000 ≤ 1000 from Nat.le_refl _)) ?_
  rintro I ad v9 ct9 ⟨rfl, hI, iC, L2, hC, hIn2, hm2, hfr⟩ hag hbh C2
  show gU (wM w I ad) X _ ct9 24 [(2, .int (nI (sTx i).length)), (0, .ref b), (1, .ref s)] []
  have hI0 : ∀ z, I z → 30 ≤ z.1 := fun z hz => by rw [hI z hz]; exact hk9
  have hS2 := gS_N hS hag hI0
  have ha2 : wAd (wM w I ad) iB = b := (hag.1 iB hBo).trans ha
  obtain ⟨hB2, hV2, hBV2, hct2, ⟨f2, hcv2, hf2, hl2⟩, hTL2, hL2⟩ := hIn2
  have hD2 : gD (wM w I ad) := gD_C C2
  have hBo2 := hD2.2.1 iB hB2
  have hVo2 := hD2.2.1 iC hV2
  obtain ⟨v2, hv2⟩ : ∃ v2, wAd (wM w I ad) iC = v2 := ⟨_, rfl⟩
  rw [hv2] at hct2
  have hs2 : sAd (wM w I ad) i = s := (hag.2 _ (fun z => by have := hI0 _ z; simp at this)).trans hs
  refine r_aload_n C2 (k := 1) rfl rfl dJ5_append_cf1ce_24 ?_
  refine r_aload_n C2 (k := 1) rfl rfl dJ5_append_cf1ce_25 ?_
  refine r_getA C2 FJ4 3 iB hBo2 ha2 hct2 (by decide) wm6_13 rfl dJ5_append_cf1ce_26 ?_
  refine r_aload_n C2 (k := 2) rfl rfl dJ5_append_cf1ce_29 ?_
  refine r_callB C2 (d' := 2) [.int (nI T.length), .ref s] (c_putS hS2 hD2 hB2 ha2 hct2 hV2 hv2 hcv2 hi hs2 hm2 hL2) mbJ5_putStringAt_47b60 ((hS2.e C2).imp fun _ _ _ h => h.2.2.2.2 _ (by decide)) wm6_181 (recB hBo2 ha2 hct2) rfl (kR rfl) (by decide) (kR rfl) rfl dJ5_append_cf1ce_30 ?_ (hT.q (show 0 + 1 ≤ 1 from Nat.le_refl _) (show 0 + 1000 ≤ 1000 from Nat.le_refl _))
  refine r_aload_n C2 (k := 1) rfl rfl dJ5_append_cf1ce_33 ?_
  refine r_dup C2 rfl dJ5_append_cf1ce_34 ?_
  refine r_getA C2 FJ4 3 iB hBo2 ha2 ((upE_n hBV2).trans hct2) (by decide) wm6_13 rfl dJ5_append_cf1ce_35 ?_
  refine r_iload_n C2 (k := 0) rfl rfl dJ5_append_cf1ce_38 ?_
  refine r_iadd C2 dJ5_append_cf1ce_39 ?_
  refine r_st (st' := [.int (nI (T.length + (sTx i).length)), .ref b]) (by rw [nI_add] <;> rfl) ?_
  refine r_putA C2 FJ4 3 iB hB2 ha2 (fs := [.ref v2, .int 0, .int 0, .int (nI T.length)]) ((upE_n hBV2).trans hct2) (by decide) wm6_13 rfl (vp_nar_int _) rfl (kR rfl) dJ5_append_cf1ce_40 ?_
  refine r_aload_n C2 (k := 1) rfl rfl dJ5_append_cf1ce_43 ?_
  refine r_wid (c' := 1) (s' := 1000) (show 0 + 1 ≤ 1 from Nat.le_refl _) (show 0 + 1000 ≤ 1000 from Nat.le_refl _) ?_
  refine r_eendA C2 (Or.inl ⟨_, rfl⟩) hag hbh (sbPost_M hI hfr hC (L := L2) ⟨hB2, hV2, hBV2, ?_, ⟨_, ?_, fB_cpy (fB_sTx hi) hf2 _ _ _, lat_app hi hl2⟩, ?_, hL2⟩ (fun z h1 h2 => ?_)) dJ5_append_cf1ce_44
  · rw [upE_s, hv2, List.length_append, stN_len] <;> rfl
  · rw [upE_n hBV2.symm, upE_s] <;> rfl
  · rw [List.length_append, stN_len]
    omega
  · rw [upE_n h1, upE_n h2]
theorem c_sbS {w : WP} (hS : gS w) (hY : gY w) (hD : gD w) {ct : CT} {iB iV iW : ID} {b L : Nat} {T : List Nat} (hIn : sbIn w ct iB iV T L) (ha : wAd w iB = b) (hW9 : ¬ wOk w iW) (hk9 : 30 ≤ iW.1) {i s : Nat} (hi : i < 32) (hs : sAd w i = s) (hm : T.length + (sTx i).length ≤ 400) : gMe w 5 yJ4_append_15ec4 cJ4_append_15ec4 2 (some (.object "java/lang/StringBuilder")) [.ref b, .ref s] ct (sbPost w ct iB iV iW (T ++ stN i) (some (.ref b))) 1 1000 := by
  have hIn0 := hIn
  obtain ⟨hB, hV, hBV, hct, ⟨f, hcv, hf, hl⟩, hTL, hL⟩ := hIn
  have hBo := hD.2.1 iB hB
  obtain ⟨v, hv⟩ : ∃ v, wAd w iV = v := ⟨_, rfl⟩
  rw [hv] at hct
  refine gMe_of "java/lang/StringBuilder" rfl (by decide) (kR rfl) fun X C hT => ?_
  show gU w X _ _ 0 [(0, .ref b), (1, .ref s)] []
  refine r_aload_n C (k := 0) rfl rfl dJ4_append_15ec4_0 ?_
  refine r_aload_n C (k := 1) rfl rfl dJ4_append_15ec4_1 ?_
  refine r_geUA C (d' := 4) [.ref s] iB hBo ha hct rfl (c_asbS hS hY hD hIn0 ha hW9 hk9 hi hs hm) muJ5_append_cf1ce rfl rfl wm6_170 rfl (kR rfl) (by decide) (kR rfl) rfl dJ4_append_15ec4_2 (hT.q (show 0 + 1 ≤ 1 from Nat.le_refl _) (show 0 + 1000 ≤ 1000 from Nat.le_refl _)) ?_
  intro I ad v9 ct9 hP hag hbh C2
  obtain rfl : v9 = some (.ref b) := hP.1
  show gU (wM w I ad) X _ ct9 5 [(0, .ref b), (1, .ref s)] [.ref b]
  refine r_pop C2 rfl dJ4_append_15ec4_5 ?_
  refine r_aload_n C2 (k := 0) rfl rfl dJ4_append_15ec4_6 ?_
  refine r_wid (c' := 1) (s' := 1000) (show 0 + 1 ≤ 1 from Nat.le_refl _) (show 0 + 1000 ≤ 1000 from Nat.le_refl _) ?_
  exact r_eendA C2 (Or.inl ⟨_, rfl⟩) hag hbh hP dJ4_append_15ec4_7
theorem c_sbSb {w : WP} (hS : gS w) (hY : gY w) (hD : gD w) {ct : CT} {iB iV iW : ID} {b L : Nat} {T : List Nat} (hIn : sbIn w ct iB iV T L) (ha : wAd w iB = b) (hW9 : ¬ wOk w iW) (hk9 : 30 ≤ iW.1) {i s : Nat} (hi : i < 32) (hs : sAd w i = s) (hm : T.length + (sTx i).length ≤ 400) : gMe w 6 yJ4_append_cf1ce cJ4_append_cf1ce 2 (some (.object "java/lang/AbstractStringBuilder")) [.ref b, .ref s] ct (sbPost w ct iB iV iW (T ++ stN i) (some (.ref b))) 1 1000 := by
  have hIn0 := hIn
  obtain ⟨hB, hV, hBV, hct, ⟨f, hcv, hf, hl⟩, hTL, hL⟩ := hIn
  have hBo := hD.2.1 iB hB
  obtain ⟨v, hv⟩ : ∃ v, wAd w iV = v := ⟨_, rfl⟩
  rw [hv] at hct
  refine gMe_of "java/lang/StringBuilder" rfl (by decide) (kR rfl) fun X C hT => ?_
  show gU w X _ _ 0 [(0, .ref b), (1, .ref s)] []
  refine r_aload_n C (k := 0) rfl rfl dJ4_append_cf1ce_0 ?_
  refine r_aload_n C (k := 1) rfl rfl dJ4_append_cf1ce_1 ?_
  refine r_geV C (d' := 5) [.ref s] (c_sbS hS hY hD hIn0 ha hW9 hk9 hi hs hm) mbJ4_append_15ec4 (sel_tbl C wm6_168 rfl) wm7_12 (recB hBo ha hct) rfl (kR rfl) (by decide) (kR rfl) rfl dJ4_append_cf1ce_2 (hT.q (show 0 + 1 ≤ 1 from Nat.le_refl _) (show 0 + 1000 ≤ 1000 from Nat.le_refl _)) ?_
  intro I ad v9 ct9 hP hag hbh C2
  obtain rfl : v9 = some (.ref b) := hP.1
  show gU (wM w I ad) X _ ct9 5 [(0, .ref b), (1, .ref s)] [.ref b]
  refine r_wid (c' := 1) (s' := 1000) (show 0 + 1 ≤ 1 from Nat.le_refl _) (show 0 + 1000 ≤ 1000 from Nat.le_refl _) ?_
  exact r_eendA C2 (Or.inl ⟨_, rfl⟩) hag hbh hP dJ4_append_cf1ce_5
theorem c_asbN {w : WP} (hS : gS w) (hY : gY w) (hD : gD w) {ct : CT} {iB iV : ID} {b N : Nat} (hB : wFr w iB) (ha : wAd w iB = b) (hct : ct iB = .inr (9, [.null, .int 0, .int 0, .int 0])) (hV9 : ¬ wOk w iV) (hN : N ≤ 1000) : gMe w 1 yJ5_init_d00df cJ5_init_d00df 2 none [.ref b, .int (nI N)] ct (fun I ad v9 ct9 => v9 = none ∧ I = one iV ∧ sbIn (wM w I ad) ct9 iB iV [] N ∧ ∀ z, z ≠ iB → z ≠ iV → ct9 z = ct z) 1 1000 := by
  refine gMe_of "java/lang/AbstractStringBuilder" rfl (by decide) (kR rfl) fun X C hT => ?_
  have hE := hS.s C
  show gU w X _ _ 0 [(0, .ref b), (1, .int (nI N))] []
  refine r_aload_n C (k := 0) rfl rfl dJ5_init_d00df_0 ?_
  refine r_objInit C wm6_1 (kR rfl) (kR rfl) dJ5_init_d00df_1 ?_
  refine r_gets C (hE.imp fun _ _ _ h => h.1) wm6_2 dJ5_init_d00df_4 ?_
  refine r_if_eq C (tgt := 25) rfl dJ5_init_d00df_7 (fun h => absurd h (by decide)) (fun _ => ?_)
  refine r_aload_n C (k := 0) rfl rfl dJ5_init_d00df_10 ?_
  refine r_iload_n C (k := 1) rfl rfl dJ5_init_d00df_11 ?_
  refine r_newB C hY iV hV9 (nI_pos (by omega)) (nI_clamp (by omega)) (by omega) dJ5_init_d00df_12 (hT.q (kR rfl) (show 0 + N ≤ 1000 by omega)) fun q hag hbh C2 => ?_
  have hq9 : adU w iV q iV = q := if_pos rfl
  have hBo := hD.2.1 iB hB
  have hBV : iB ≠ iV := fun z => hV9 (z ▸ hBo)
  have ha2 : adU w iV q iB = b := (hag.1 iB hBo).trans ha
  refine r_putA C2 FJ4 0 iB (Or.inl hB) ha2 (fs := [.null, .int 0, .int 0, .int 0]) ((upE_n hBV).trans hct) (by decide) wm6_10 rfl rfl rfl (kR rfl) dJ5_init_d00df_14 ?_
  refine r_aload_n C2 (k := 0) rfl rfl dJ5_init_d00df_17 ?_
  refine r_iconst C2 (v := 0) rfl dJ5_init_d00df_18 ?_
  refine r_putA C2 FJ4 1 iB (Or.inl hB) ha2 (fs := [.ref q, .int 0, .int 0, .int 0]) upE_s (by decide) wm6_11 rfl rfl rfl (kR rfl) dJ5_init_d00df_19 ?_
  refine r_goto C2 (tgt := 38) rfl dJ5_init_d00df_22 ?_
  refine r_wid (c' := 1) (s' := 1000) (show 0 + 1 ≤ 1 from Nat.le_refl _) (show 0 + N ≤ 1000 by omega) ?_
  refine r_eendV C2 hag hbh ⟨rfl, rfl, ⟨Or.inl hB, Or.inr rfl, hBV, ?_, ⟨fun _ => 0, ?_, fB0, fun k hk => absurd hk (Nat.not_lt_zero _)⟩, Nat.zero_le _, by omega⟩, fun z h1 h2 => ?_⟩ dJ5_init_d00df_38
  · rw [upE_s]
    show _ = sbC (adU w iV q iV) 0
    rw [hq9] <;> rfl
  · rw [upE_n hBV.symm, upE_n hBV.symm, upE_s] <;> rfl
  · rw [upE_n h1, upE_n h1, upE_n h2]
theorem c_sbN {w : WP} (hS : gS w) (hY : gY w) (hD : gD w) {ct : CT} {iB iV : ID} {b : Nat} (hB : wFr w iB) (ha : wAd w iB = b) (hct : ct iB = .inr (9, [.null, .int 0, .int 0, .int 0])) (hV9 : ¬ wOk w iV) : gMe w 2 yJ4_init_da8c8 cJ4_init_da8c8 1 none [.ref b] ct (fun I ad v9 ct9 => v9 = none ∧ I = one iV ∧ sbIn (wM w I ad) ct9 iB iV [] 16 ∧ ∀ z, z ≠ iB → z ≠ iV → ct9 z = ct z) 1 1000 := by
  refine gMe_of "java/lang/StringBuilder" rfl (by decide) (kR rfl) fun X C hT => ?_
  show gU w X _ _ 0 [(0, .ref b)] []
  refine r_aload_n C (k := 0) rfl rfl dJ4_init_da8c8_0 ?_
  refine r_bipush C (v := 16) rfl dJ4_init_da8c8_1 ?_
  refine r_geI C (d' := 1) [.int (nI 16)] (c_asbN hS hY hD hB ha hct hV9 (N := 16) (by decide)) miJ5_init_d00df wm5_238 rfl (kR rfl) (by decide) (kR rfl) rfl dJ4_init_da8c8_3 (hT.q (show 0 + 1 ≤ 1 from Nat.le_refl _) (show 0 + 1000 ≤ 1000 from Nat.le_refl _)) ?_
  rintro I ad v9 ct9 ⟨rfl, hP⟩ hag hbh C2
  show gU (wM w I ad) X _ ct9 6 [(0, .ref b)] []
  refine r_wid (c' := 1) (s' := 1000) (show 0 + 1 ≤ 1 from Nat.le_refl _) (show 0 + 1000 ≤ 1000 from Nat.le_refl _) ?_
  exact r_eendV C2 hag hbh ⟨rfl, hP⟩ dJ4_init_da8c8_6
theorem c_asbT {w : WP} (hS : gS w) (hY : gY w) (hD : gD w) {ct : CT} {iB iV iW : ID} {b : Nat} (hB : wFr w iB) (ha : wAd w iB = b) (hct : ct iB = .inr (9, [.null, .int 0, .int 0, .int 0])) (hV9 : ¬ wOk w iV) (hW9 : ¬ wOk w iW) (hVW : iV ≠ iW) (hkV : 30 ≤ iV.1) (hk9 : 30 ≤ iW.1) {i s : Nat} (hi : i < 32) (hs : sAd w i = s) : gMe w 7 yJ5_init_a7421 cJ5_init_a7421 5 none [.ref b, .ref s] ct (fun I ad v9 ct9 => v9 = none ∧ (∀ z, I z → z = iV ∨ z = iW) ∧ ∃ iC L, (iC = iV ∨ iC = iW) ∧ sbIn (wM w I ad) ct9 iB iC (stN i) L ∧ ∀ z, z ≠ iB → z ≠ iV → z ≠ iW → ct9 z = ct z) 2 1100 := by
  refine gMe_of "java/lang/AbstractStringBuilder" rfl (by decide) (kR rfl) fun X C hT => ?_
  have hE := hS.s C
  have hlen := (sTx_nI i hi).1
  show gU w X _ _ 0 [(0, .ref b), (1, .ref s)] []
  refine r_aload_n C (k := 0) rfl rfl dJ5_init_a7421_0 ?_
  refine r_objInit C wm6_1 (kR rfl) (kR rfl) dJ5_init_a7421_1 ?_
  refine r_aload_n C (k := 1) rfl rfl dJ5_init_a7421_4 ?_
  refine r_callE C (d' := 1) [] (by rw [← hs]; exact c_slen hS hi) myJ0_length_8abf5 wm6_180 (gO_s hi hs hE) rfl (kR rfl) (by decide) (kR rfl) rfl dJ5_init_a7421_5 ?_
  refine r_istore_n C (lo' := [(2, .int (nI (sTx i).length)), (0, .ref b), (1, .ref s)]) rfl (by decide) rfl dJ5_init_a7421_8 ?_
  refine r_iload_n C (k := 0) rfl rfl dJ5_init_a7421_9 ?_
  refine r_ldcI C wm7_8 dJ5_init_a7421_10 ?_
  refine r_icmp_ge C (tgt := 22) rfl dJ5_init_a7421_12 (fun h => absurd h (show ¬ nI 2147483631 ≤ nI (sTx i).length from nI_ge (by omega) (by decide))) (fun _ => ?_)
  refine r_iload_n C (k := 0) rfl rfl dJ5_init_a7421_15 ?_
  refine r_bipush C (v := 16) rfl dJ5_init_a7421_16 ?_
  refine r_iadd C dJ5_init_a7421_18 ?_
  refine r_st (st' := [.int (nI ((sTx i).length + 16))]) (by rw [show nI (sTx i).length + 16 = nI ((sTx i).length + 16) from nI_add _ 16] <;> rfl) ?_
  refine r_goto C (tgt := 24) rfl dJ5_init_a7421_19 ?_
  refine r_istore_n C (lo' := [(3, .int (nI ((sTx i).length + 16))), (2, .int (nI (sTx i).length)), (0, .ref b), (1, .ref s)]) rfl (by decide) rfl dJ5_init_a7421_24 ?_
  refine r_aload_n C (k := 3) rfl rfl dJ5_init_a7421_25 ?_
  refine r_callE C (d' := 0) [] (by rw [← hs]; exact c_coder hS hi) myJ0_coder_7d493 wm6_189 (gO_s hi hs hE) rfl (kR rfl) (by decide) (kR rfl) rfl dJ5_init_a7421_26 ?_
  refine r_istore C (lo' := [(4, .int 0), (3, .int (nI ((sTx i).length + 16))), (2, .int (nI (sTx i).length)), (0, .ref b), (1, .ref s)]) (by decide) rfl dJ5_init_a7421_29 ?_
  refine r_aload_n C (k := 3) rfl rfl dJ5_init_a7421_31 ?_
  refine r_iload C (k := 0) rfl dJ5_init_a7421_32 ?_
  have hBo := hD.2.1 iB hB
  refine r_putA C FJ4 1 iB hB ha (fs := [.null, .int 0, .int 0, .int 0]) hct (by decide) wm6_11 rfl rfl rfl (kR rfl) dJ5_init_a7421_34 ?_
  refine r_aload_n C (k := 3) rfl rfl dJ5_init_a7421_37 ?_
  refine r_iload C (k := 0) rfl dJ5_init_a7421_38 ?_
  refine r_if_ne C (tgt := 49) rfl dJ5_init_a7421_40 (fun h => absurd rfl h) (fun _ => ?_)
  refine r_iload_n C (k := 1) rfl rfl dJ5_init_a7421_43 ?_
  refine r_newB C hY iV hV9 (nI_pos (by omega)) (nI_clamp (by omega)) (by omega) dJ5_init_a7421_44 (hT.q (kR rfl) (show 0 + ((sTx i).length + 16) ≤ 1100 by omega)) fun q hag hbh C2 => ?_
  have hq9 : adU w iV q iV = q := if_pos rfl
  have hBV : iB ≠ iV := fun z => hV9 (z ▸ hBo)
  have ha2 : adU w iV q iB = b := (hag.1 iB hBo).trans ha
  refine r_goto C2 (tgt := 53) rfl dJ5_init_a7421_46 ?_
  refine r_putA C2 FJ4 0 iB (Or.inl hB) ha2 (fs := [.null, .int 0, .int 0, .int 0]) ((upE_n hBV).trans upE_s) (by decide) wm6_10 rfl rfl rfl (kR rfl) dJ5_init_a7421_53 ?_
  refine r_aload_n C2 (k := 3) rfl rfl dJ5_init_a7421_56 ?_
  refine r_aload_n C2 (k := 4) rfl rfl dJ5_init_a7421_57 ?_
  have hI0 : ∀ z, one iV z → 30 ≤ z.1 := fun z hz => by rw [show z = iV from hz]; exact hkV
  have hS2 := gS_N hS hag hI0
  have hs2 : sAd (wM w (one iV) (adU w iV q)) i = s := (hag.2 _ (fun z => by have := hI0 _ z; simp at this)).trans hs
  have hD2 := gD_C C2
  have hIn2 : sbIn (wM w (one iV) (adU w iV q)) (upE (upE (upE ct iB (.inr (9, [.null, .int 0, .int 0, .int 0]))) iV (.inl (wJ w, (sTx i).length + 16, .inl (fun _ => 0)))) iB (.inr (9, [.ref q, .int 0, .int 0, .int 0]))) iB iV [] ((sTx i).length + 16) := by
    refine ⟨Or.inl hB, Or.inr rfl, hBV, ?_, ⟨fun _ => 0, ?_, fB0, fun k hk => absurd hk (Nat.not_lt_zero _)⟩, Nat.zero_le _, by omega⟩
    · rw [upE_s]
      show _ = sbC (adU w iV q iV) 0
      rw [hq9] <;> rfl
    · rw [upE_n hBV.symm, upE_s] <;> rfl
  refine r_geO C2 (d' := 6) (y := yJ4_append_cf1ce) [.ref s] (c_sbSb hS2 hY hD2 hIn2 ha2 (fun z => z.elim hW9 (fun z => hVW (show iW = iV from z).symm)) hk9 hi hs2 (by simp; omega)) moJ5_append_cf1ce rfl wm7_9 (recB (Or.inl hBo) ha2 upE_s) rfl (kR rfl) (by decide) (kR rfl) rfl dJ5_init_a7421_58 (hT.q (show 0 + 1 + 1 ≤ 2 from Nat.le_refl _) (show 0 + ((sTx i).length + 16) + 1000 ≤ 1100 by omega)) ?_
  rintro I ad v9 ct9 ⟨rfl, hI, iC, L, hC, hIn3, hfr⟩ hag3 hbh3 C3
  show gU (wM (wM w (one iV) (adU w iV q)) I ad) X _ ct9 61 [(4, .int 0), (3, .int (nI ((sTx i).length + 16))), (2, .int (nI (sTx i).length)), (0, .ref b), (1, .ref s)] [.ref b]
  rw [wM_M] at C3 hIn3 ⊢
  have hag4 := gAg_M hag hag3
  have hbh4 := gBh_M hbh hag3 hbh3
  refine r_pop C3 rfl dJ5_init_a7421_61 ?_
  refine r_wid (c' := 2) (s' := 1100) (show 0 + 1 + 1 ≤ 2 from Nat.le_refl _) (show 0 + ((sTx i).length + 16) + 1000 ≤ 1100 by omega) ?_
  refine r_eendV C3 hag4 hbh4 ⟨rfl, fun z hz => hz.elim Or.inl (fun z9 => Or.inr (hI z z9)), iC, L, hC, hIn3, fun z h1 h2 h3 => ?_⟩ dJ5_init_a7421_62
  rw [hfr z h1 h2 h3, upE_n h1, upE_n h2, upE_n h1]
theorem c_sbT {w : WP} (hS : gS w) (hY : gY w) (hD : gD w) {ct : CT} {iB iV iW : ID} {b : Nat} (hB : wFr w iB) (ha : wAd w iB = b) (hct : ct iB = .inr (9, [.null, .int 0, .int 0, .int 0])) (hV9 : ¬ wOk w iV) (hW9 : ¬ wOk w iW) (hVW : iV ≠ iW) (hkV : 30 ≤ iV.1) (hk9 : 30 ≤ iW.1) {i s : Nat} (hi : i < 32) (hs : sAd w i = s) : gMe w 8 yJ4_init_a7421 cJ4_init_a7421 2 none [.ref b, .ref s] ct (fun I ad v9 ct9 => v9 = none ∧ (∀ z, I z → z = iV ∨ z = iW) ∧ ∃ iC L, (iC = iV ∨ iC = iW) ∧ sbIn (wM w I ad) ct9 iB iC (stN i) L ∧ ∀ z, z ≠ iB → z ≠ iV → z ≠ iW → ct9 z = ct z) 2 1100 := by
  refine gMe_of "java/lang/StringBuilder" rfl (by decide) (kR rfl) fun X C hT => ?_
  show gU w X _ _ 0 [(0, .ref b), (1, .ref s)] []
  refine r_aload_n C (k := 0) rfl rfl dJ4_init_a7421_0 ?_
  refine r_aload_n C (k := 1) rfl rfl dJ4_init_a7421_1 ?_
  refine r_geI C (d' := 7) [.ref s] (c_asbT hS hY hD hB ha hct hV9 hW9 hVW hkV hk9 hi hs) miJ5_init_a7421 wm7_5 rfl (kR rfl) (by decide) (kR rfl) rfl dJ4_init_a7421_2 (hT.q (show 0 + 2 ≤ 2 from Nat.le_refl _) (show 0 + 1100 ≤ 1100 from Nat.le_refl _)) ?_
  rintro I ad v9 ct9 ⟨rfl, hP⟩ hag hbh C2
  show gU (wM w I ad) X _ ct9 5 [(0, .ref b), (1, .ref s)] []
  refine r_wid (c' := 2) (s' := 1100) (show 0 + 2 ≤ 2 from Nat.le_refl _) (show 0 + 1100 ≤ 1100 from Nat.le_refl _) ?_
  exact r_eendV C2 hag hbh ⟨rfl, hP⟩ dJ4_init_a7421_5
