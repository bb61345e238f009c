/-! ===== still: strings, constants, static fields, as they stand all through the run ===== -/
def sTab : List (String × Nat × String) := [("HedgeMessages", 64, "hello"), ("HedgeMessages", 70, "yes"), ("HedgeMessages", 72, "no"), ("HedgeMessages", 377, "there is no saved state"), ("HedgeMessages", 80, "the input buffer would exceed 800 bytes"), ("HedgeMessages", 90, "not a length up to the current one"), ("HedgeMessages$Configuration", 30, "hedge"), ("HedgeMessages$Configuration", 57, "twig"), ("HedgeMessages$Configuration", 62, "nest"), ("HedgeMessages$Configuration", 67, "message"), ("HedgeMessages", 99, "the configuration has an error"), ("HedgeMessages", 391, "no such slot"), ("HedgeMessages", 301, "not a letter from a to z"), ("HedgeMessages", 306, "no twig can be planted in this slot"), ("HedgeMessages", 314, "no twig can be removed from this slot"), ("HedgeMessages", 319, "not 1 to 99 centimetres"), ("HedgeMessages", 324, "no twig can be trimmed in this slot"), ("HedgeMessages", 329, "not 1 to 30 days"), ("HedgeMessages", 334, "there are 6 nests or the slot has one"), ("HedgeMessages", 393, "not gardener 0 or 1"), ("HedgeMessages", 339, "the input buffer is not a word of 1 to 12 letters"), ("HedgeMessages", 344, "the queue has 8 messages"), ("HedgeMessages", 359, "no such message"), ("HedgeMessages", 365, "not a work limit from 1 to 12"), ("HedgeMessages", 395, "number of days out of range"), ("HedgeMessages", 368, "there is no operation to undo"), ("java/util/Arrays", 337, " > "), ("HedgeMessagesLaw", 270, "hedge "), ("HedgeMessagesLaw", 278, " 4;"), ("HedgeMessagesLaw", 283, "twig "), ("HedgeMessagesLaw", 285, "nest "), ("HedgeMessagesLaw", 287, "message ")]
def sTxt : List (List Int32) := [[104, 101, 108, 108, 111], [121, 101, 115], [110, 111], [116, 104, 101, 114, 101, 32, 105, 115, 32, 110, 111, 32, 115, 97, 118, 101, 100, 32, 115, 116, 97, 116, 101], [116, 104, 101, 32, 105, 110, 112, 117, 116, 32, 98, 117, 102, 102, 101, 114, 32, 119, 111, 117, 108, 100, 32, 101, 120, 99, 101, 101, 100, 32, 56, 48, 48, 32, 98, 121, 116, 101, 115], [110, 111, 116, 32, 97, 32, 108, 101, 110, 103, 116, 104, 32, 117, 112, 32, 116, 111, 32, 116, 104, 101, 32, 99, 117, 114, 114, 101, 110, 116, 32, 111, 110, 101], [104, 101, 100, 103, 101], [116, 119, 105, 103], [110, 101, 115, 116], [109, 101, 115, 115, 97, 103, 101], [116, 104, 101, 32, 99, 111, 110, 102, 105, 103, 117, 114, 97, 116, 105, 111, 110, 32, 104, 97, 115, 32, 97, 110, 32, 101, 114, 114, 111, 114], [110, 111, 32, 115, 117, 99, 104, 32, 115, 108, 111, 116], [110, 111, 116, 32, 97, 32, 108, 101, 116, 116, 101, 114, 32, 102, 114, 111, 109, 32, 97, 32, 116, 111, 32, 122], [110, 111, 32, 116, 119, 105, 103, 32, 99, 97, 110, 32, 98, 101, 32, 112, 108, 97, 110, 116, 101, 100, 32, 105, 110, 32, 116, 104, 105, 115, 32, 115, 108, 111, 116], [110, 111, 32, 116, 119, 105, 103, 32, 99, 97, 110, 32, 98, 101, 32, 114, 101, 109, 111, 118, 101, 100, 32, 102, 114, 111, 109, 32, 116, 104, 105, 115, 32, 115, 108, 111, 116], [110, 111, 116, 32, 49, 32, 116, 111, 32, 57, 57, 32, 99, 101, 110, 116, 105, 109, 101, 116, 114, 101, 115], [110, 111, 32, 116, 119, 105, 103, 32, 99, 97, 110, 32, 98, 101, 32, 116, 114, 105, 109, 109, 101, 100, 32, 105, 110, 32, 116, 104, 105, 115, 32, 115, 108, 111, 116], [110, 111, 116, 32, 49, 32, 116, 111, 32, 51, 48, 32, 100, 97, 121, 115], [116, 104, 101, 114, 101, 32, 97, 114, 101, 32, 54, 32, 110, 101, 115, 116, 115, 32, 111, 114, 32, 116, 104, 101, 32, 115, 108, 111, 116, 32, 104, 97, 115, 32, 111, 110, 101], [110, 111, 116, 32, 103, 97, 114, 100, 101, 110, 101, 114, 32, 48, 32, 111, 114, 32, 49], [116, 104, 101, 32, 105, 110, 112, 117, 116, 32, 98, 117, 102, 102, 101, 114, 32, 105, 115, 32, 110, 111, 116, 32, 97, 32, 119, 111, 114, 100, 32, 111, 102, 32, 49, 32, 116, 111, 32, 49, 50, 32, 108, 101, 116, 116, 101, 114, 115], [116, 104, 101, 32, 113, 117, 101, 117, 101, 32, 104, 97, 115, 32, 56, 32, 109, 101, 115, 115, 97, 103, 101, 115], [110, 111, 32, 115, 117, 99, 104, 32, 109, 101, 115, 115, 97, 103, 101], [110, 111, 116, 32, 97, 32, 119, 111, 114, 107, 32, 108, 105, 109, 105, 116, 32, 102, 114, 111, 109, 32, 49, 32, 116, 111, 32, 49, 50], [110, 117, 109, 98, 101, 114, 32, 111, 102, 32, 100, 97, 121, 115, 32, 111, 117, 116, 32, 111, 102, 32, 114, 97, 110, 103, 101], [116, 104, 101, 114, 101, 32, 105, 115, 32, 110, 111, 32, 111, 112, 101, 114, 97, 116, 105, 111, 110, 32, 116, 111, 32, 117, 110, 100, 111], [32, 62, 32], [104, 101, 100, 103, 101, 32], [32, 52, 59], [116, 119, 105, 103, 32], [110, 101, 115, 116, 32], [109, 101, 115, 115, 97, 103, 101, 32]]
def sTx (i : Nat) : List Int32 := sTxt.getD i []
abbrev sAd (w : WP) (i : Nat) : Nat := wAd w (15, i, 0, 0)
/-- a reference, or none: written as a number -/
def sfV (q : Nat) : Value := if q = 0 then .null else .ref (q - 1)
theorem sfV_0 {q : Nat} (h : q = 0) : sfV q = .null := if_pos h
theorem sfV_n {q : Nat} (h : q ≠ 0) : sfV q = .ref (q - 1) := if_neg h
def EXs (w : WP) (A : Nat → Prop) (U : State) (H : Heap) : Prop :=
  va_Z "java/lang/String" "COMPACT_STRINGS" "Z" (.int 1) A U H ∧
  va_Z "jdk/internal/util/Preconditions" "SIOOBE_FORMATTER" "Ljava/util/function/BiFunction;" (sfV (wAd w (19, 0, 0, 0))) A U H ∧
  (∀ i, i < 32 → vk_R (sTab.getD i ("", 0, "")).1 (sTab.getD i ("", 0, "")).2.1 (sTab.getD i ("", 0, "")).2.2 (sAd w i) U) ∧
  ∀ i, i < 32 → va_O "java/lang/String" (sAd w i) A U H ∧ va_OF "java/lang/String" "coder" "B" (.int 0) (sAd w i) A U H ∧ va_OF "java/lang/String" "value" "[B" (.ref (wAd w (16, i, 0, 0))) (sAd w i) A U H ∧ va_T .byte (wAd w (16, i, 0, 0)) (sTx i).length (fun j => .int ((sTx i).getD j 0)) A U H
/-- the digits' tables -/
def dg1 (j : Nat) : Int32 := nI (48 + j % 10)
def dg2 (j : Nat) : Int32 := nI (48 + j / 10)
def EXd (w : WP) (A : Nat → Prop) (U : State) (H : Heap) : Prop :=
  va_Z "java/lang/Integer" "DigitOnes" "[B" (.ref (wAd w (17, 0, 0, 0))) A U H ∧ va_T .byte (wAd w (17, 0, 0, 0)) 100 (fun j => .int (dg1 j)) A U H ∧
  va_Z "java/lang/Integer" "DigitTens" "[B" (.ref (wAd w (18, 0, 0, 0))) A U H ∧ va_T .byte (wAd w (18, 0, 0, 0)) 100 (fun j => .int (dg2 j)) A U H ∧
  ∀ y ∈ [yJ5_newCapacity_0f7a4, yJ5_ensureCapacityInternal_d00df, yJ5_putStringAt_47b60, yJ5_inflateIfNeededFor_a7421], va_Nw (Cond.selects "java/lang/StringBuilder" y y) U
def gS (w : WP) : Prop := ∀ A U H, wE w A U H → EXs w A U H ∧ EXd w A U H
/-- the list is read only through these two: no deep unfolding of texts -/
theorem sTx_len : ∀ i, i < 32 → (sTx i).length < 2 ^ 31 := by decide +kernel
theorem sTx_byte : ∀ i, i < 32 → ∀ b ∈ sTx i, (b &&& 255).toUInt32 % 65536 = b.toUInt32 ∧ 0 ≤ b.toInt := by decide +kernel
theorem dJ0_length_8abf5_0 : decode cJ0_length_8abf5 0 = .ok (.aload_n 0, 1) := by decide +kernel
theorem dJ0_length_8abf5_1 : decode cJ0_length_8abf5 1 = .ok (.getfield 9, 3) := by decide +kernel
theorem dJ0_length_8abf5_4 : decode cJ0_length_8abf5 4 = .ok (.arraylength, 1) := by decide +kernel
theorem dJ0_length_8abf5_5 : decode cJ0_length_8abf5 5 = .ok (.aload_n 0, 1) := by decide +kernel
theorem dJ0_length_8abf5_6 : decode cJ0_length_8abf5 6 = .ok (.invokevirtual 335, 3) := by decide +kernel
theorem dJ0_length_8abf5_9 : decode cJ0_length_8abf5 9 = .ok (.ishr, 1) := by decide +kernel
theorem dJ0_length_8abf5_10 : decode cJ0_length_8abf5 10 = .ok (.ireturn, 1) := by decide +kernel
theorem dJ0_coder_7d493_0 : decode cJ0_coder_7d493 0 = .ok (.getstatic 38, 3) := by decide +kernel
theorem dJ0_coder_7d493_3 : decode cJ0_coder_7d493 3 = .ok (.ifCond .eq 10, 3) := by decide +kernel
theorem dJ0_coder_7d493_6 : decode cJ0_coder_7d493 6 = .ok (.aload_n 0, 1) := by decide +kernel
theorem dJ0_coder_7d493_7 : decode cJ0_coder_7d493 7 = .ok (.getfield 15, 3) := by decide +kernel
theorem dJ0_coder_7d493_10 : decode cJ0_coder_7d493 10 = .ok (.goto 4, 3) := by decide +kernel
theorem dJ0_coder_7d493_13 : decode cJ0_coder_7d493 13 = .ok (.iconst 1, 1) := by decide +kernel
theorem dJ0_coder_7d493_14 : decode cJ0_coder_7d493 14 = .ok (.ireturn, 1) := by decide +kernel
theorem dJ0_charAt_5068e_0 : decode cJ0_charAt_5068e 0 = .ok (.aload_n 0, 1) := by decide +kernel
theorem dJ0_charAt_5068e_1 : decode cJ0_charAt_5068e 1 = .ok (.invokevirtual 492, 3) := by decide +kernel
theorem dJ0_charAt_5068e_4 : decode cJ0_charAt_5068e 4 = .ok (.ifCond .eq 12, 3) := by decide +kernel
theorem dJ0_charAt_5068e_7 : decode cJ0_charAt_5068e 7 = .ok (.aload_n 0, 1) := by decide +kernel
theorem dJ0_charAt_5068e_8 : decode cJ0_charAt_5068e 8 = .ok (.getfield 9, 3) := by decide +kernel
theorem dJ0_charAt_5068e_11 : decode cJ0_charAt_5068e 11 = .ok (.iload_n 1, 1) := by decide +kernel
theorem dJ0_charAt_5068e_12 : decode cJ0_charAt_5068e 12 = .ok (.invokestatic 495, 3) := by decide +kernel
theorem dJ0_charAt_5068e_15 : decode cJ0_charAt_5068e 15 = .ok (.ireturn, 1) := by decide +kernel
theorem dJ0_charAt_5068e_16 : decode cJ0_charAt_5068e 16 = .ok (.aload_n 0, 1) := by decide +kernel
theorem dJ0_charAt_5068e_17 : decode cJ0_charAt_5068e 17 = .ok (.getfield 9, 3) := by decide +kernel
theorem dJ0_charAt_5068e_20 : decode cJ0_charAt_5068e 20 = .ok (.iload_n 1, 1) := by decide +kernel
theorem dJ0_charAt_5068e_21 : decode cJ0_charAt_5068e 21 = .ok (.invokestatic 498, 3) := by decide +kernel
theorem dJ0_charAt_5068e_24 : decode cJ0_charAt_5068e 24 = .ok (.ireturn, 1) := by decide +kernel
theorem dJ0_isLatin1_aae02_0 : decode cJ0_isLatin1_aae02 0 = .ok (.getstatic 38, 3) := by decide +kernel
theorem dJ0_isLatin1_aae02_3 : decode cJ0_isLatin1_aae02 3 = .ok (.ifCond .eq 14, 3) := by decide +kernel
theorem dJ0_isLatin1_aae02_6 : decode cJ0_isLatin1_aae02 6 = .ok (.aload_n 0, 1) := by decide +kernel
theorem dJ0_isLatin1_aae02_7 : decode cJ0_isLatin1_aae02 7 = .ok (.getfield 15, 3) := by decide +kernel
theorem dJ0_isLatin1_aae02_10 : decode cJ0_isLatin1_aae02 10 = .ok (.ifCond .ne 7, 3) := by decide +kernel
theorem dJ0_isLatin1_aae02_13 : decode cJ0_isLatin1_aae02 13 = .ok (.iconst 1, 1) := by decide +kernel
theorem dJ0_isLatin1_aae02_14 : decode cJ0_isLatin1_aae02 14 = .ok (.goto 4, 3) := by decide +kernel
theorem dJ0_isLatin1_aae02_17 : decode cJ0_isLatin1_aae02 17 = .ok (.iconst 0, 1) := by decide +kernel
theorem dJ0_isLatin1_aae02_18 : decode cJ0_isLatin1_aae02 18 = .ok (.ireturn, 1) := by decide +kernel
theorem dJ1_charAt_3b067_0 : decode cJ1_charAt_3b067 0 = .ok (.iload_n 1, 1) := by decide +kernel
theorem dJ1_charAt_3b067_1 : decode cJ1_charAt_3b067 1 = .ok (.aload_n 0, 1) := by decide +kernel
theorem dJ1_charAt_3b067_2 : decode cJ1_charAt_3b067 2 = .ok (.arraylength, 1) := by decide +kernel
theorem dJ1_charAt_3b067_3 : decode cJ1_charAt_3b067 3 = .ok (.invokestatic 9, 3) := by decide +kernel
theorem dJ1_charAt_3b067_6 : decode cJ1_charAt_3b067 6 = .ok (.aload_n 0, 1) := by decide +kernel
theorem dJ1_charAt_3b067_7 : decode cJ1_charAt_3b067 7 = .ok (.iload_n 1, 1) := by decide +kernel
theorem dJ1_charAt_3b067_8 : decode cJ1_charAt_3b067 8 = .ok (.baload, 1) := by decide +kernel
theorem dJ1_charAt_3b067_9 : decode cJ1_charAt_3b067 9 = .ok (.sipush 255, 3) := by decide +kernel
theorem dJ1_charAt_3b067_12 : decode cJ1_charAt_3b067 12 = .ok (.iand, 1) := by decide +kernel
theorem dJ1_charAt_3b067_13 : decode cJ1_charAt_3b067 13 = .ok (.i2c, 1) := by decide +kernel
theorem dJ1_charAt_3b067_14 : decode cJ1_charAt_3b067 14 = .ok (.ireturn, 1) := by decide +kernel
theorem dJ0_checkIndex_df160_0 : decode cJ0_checkIndex_df160 0 = .ok (.iload_n 0, 1) := by decide +kernel
theorem dJ0_checkIndex_df160_1 : decode cJ0_checkIndex_df160 1 = .ok (.iload_n 1, 1) := by decide +kernel
theorem dJ0_checkIndex_df160_2 : decode cJ0_checkIndex_df160 2 = .ok (.getstatic 1053, 3) := by decide +kernel
theorem dJ0_checkIndex_df160_5 : decode cJ0_checkIndex_df160 5 = .ok (.invokestatic 1059, 3) := by decide +kernel
theorem dJ0_checkIndex_df160_8 : decode cJ0_checkIndex_df160 8 = .ok (.pop, 1) := by decide +kernel
theorem dJ0_checkIndex_df160_9 : decode cJ0_checkIndex_df160 9 = .ok (.return_, 1) := by decide +kernel
theorem dJ3_checkIndex_8e157_0 : decode cJ3_checkIndex_8e157 0 = .ok (.iload_n 0, 1) := by decide +kernel
theorem dJ3_checkIndex_8e157_1 : decode cJ3_checkIndex_8e157 1 = .ok (.ifCond .lt 8, 3) := by decide +kernel
theorem dJ3_checkIndex_8e157_4 : decode cJ3_checkIndex_8e157 4 = .ok (.iload_n 0, 1) := by decide +kernel
theorem dJ3_checkIndex_8e157_5 : decode cJ3_checkIndex_8e157 5 = .ok (.iload_n 1, 1) := by decide +kernel
theorem dJ3_checkIndex_8e157_6 : decode cJ3_checkIndex_8e157 6 = .ok (.if_icmp .lt 10, 3) := by decide +kernel
theorem dJ3_checkIndex_8e157_9 : decode cJ3_checkIndex_8e157 9 = .ok (.aload_n 2, 1) := by decide +kernel
theorem dJ3_checkIndex_8e157_10 : decode cJ3_checkIndex_8e157 10 = .ok (.iload_n 0, 1) := by decide +kernel
theorem dJ3_checkIndex_8e157_11 : decode cJ3_checkIndex_8e157 11 = .ok (.iload_n 1, 1) := by decide +kernel
theorem dJ3_checkIndex_8e157_12 : decode cJ3_checkIndex_8e157 12 = .ok (.invokestatic 95, 3) := by decide +kernel
theorem dJ3_checkIndex_8e157_15 : decode cJ3_checkIndex_8e157 15 = .ok (.athrow, 1) := by decide +kernel
theorem dJ3_checkIndex_8e157_16 : decode cJ3_checkIndex_8e157 16 = .ok (.iload_n 0, 1) := by decide +kernel
theorem dJ3_checkIndex_8e157_17 : decode cJ3_checkIndex_8e157 17 = .ok (.ireturn, 1) := by decide +kernel
section STILL
variable {w : WP} {X : CX} {cc : ByteArray} {own : String} {ret : Option FieldType} {d nL : Nat} {Q : QT} {ct : CT} {pc : Nat} {lo : List (Nat × Value)} {st : List Value}
/-- the context's own picture of what stands still -/
def gX (w : WP) (X : CX) (E : (Nat → Prop) → State → Heap → Prop) : Prop := match X with
  | (p, e, R, s, m, args, below, meth, c, n, A) => E (gA w s.heap.size) s s.heap
theorem gS.s (h : gS w) (C : gC w X cc own ret d nL) : gX w X (EXs w) := by
  obtain ⟨p, e, R, s, m, args, below, meth, c, n, A⟩ := X
  exact (h _ _ _ C.2.2.2.2.2.2.2.2.2.2.2).1
theorem gS.e (h : gS w) (C : gC w X cc own ret d nL) : gX w X (EXd w) := by
  obtain ⟨p, e, R, s, m, args, below, meth, c, n, A⟩ := X
  exact (h _ _ _ C.2.2.2.2.2.2.2.2.2.2.2).2
theorem gX.imp {E F : (Nat → Prop) → State → Heap → Prop} (h : gX w X E) (f : ∀ A U H, E A U H → F A U H) : gX w X F := by
  obtain ⟨p, e, R, s, m, args, below, meth, c, n, A⟩ := X
  exact f _ _ _ h
theorem r_nret {ty : FieldType} (C : gC w X cc own (some ty) d nL) {x : Int32} (hn : narrow ty (.int x) = .int x) (hd : decode cc pc = .ok (.ireturn, 1)) : gV w X (some (.int x), ct) ct pc lo [.int x] := by
  obtain ⟨p, e, R, s, m, args, below, meth, c, n, A⟩ := X
  exact fun H locs ls hP hS hl => W.zret C.1 C.2.1 C.2.2.2.2.2.2.1 hn (fun t ht hW => ⟨⟨rfl, by rw [ht]; exact hP⟩, hS.F ht⟩) hS.2.2 hd C.2.2.2.2.2.2.2.1
theorem r_ldcS (C : gC w X cc own ret d nL) {idx : Nat} {tx : String} {q : Nat} (hX : gX w X (fun _ U _ => vk_R own idx tx q U)) (hd : decode cc pc = .ok (.ldc idx, 2)) (kk : gU w X Q ct (pc + 2) lo (.ref q :: st)) : gU w X Q ct pc lo st := by
  obtain ⟨p, e, R, s, m, args, below, meth, c, n, A⟩ := X
  exact fun H locs ls hP hS hl => va_ldcS C.1 C.2.1 C.2.2.2.1 hX hd (kk H locs ls hP hS hl)
theorem r_ldcwS (C : gC w X cc own ret d nL) {idx : Nat} {tx : String} {q : Nat} (hX : gX w X (fun _ U _ => vk_R own idx tx q U)) (hd : decode cc pc = .ok (.ldc_w idx, 3)) (kk : gU w X Q ct (pc + 3) lo (.ref q :: st)) : gU w X Q ct pc lo st := by
  obtain ⟨p, e, R, s, m, args, below, meth, c, n, A⟩ := X
  intro H locs ls hP hS hl T hT X9
  obtain ⟨t, a1, b1⟩ := kk H locs ls hP hS hl T hT X9
  exact ⟨t, X9.ldcStringW C.1 (own := own) (text := tx) (index := idx) (a := q) C.2.2.2.1 hX.1 hX.2 (g := F0 m pc ls st) rfl (by rw [C.2.1]; exact hd) t a1, b1⟩
theorem r_getON (C : gC w X cc own ret d nL) {o9 n9 d9 host : String} {v : Value} {idx q : Nat} (hX : gX w X (va_OF o9 n9 d9 v q)) (hli : Cond.fieldLinkNest own idx o9 n9 d9 host ∈ lw_tbl) (hd : decode cc pc = .ok (.getfield idx, 3)) (kk : gU w X Q ct (pc + 3) lo (v :: st)) : gU w X Q ct pc lo (.ref q :: st) := by
  obtain ⟨p, e, R, s, m, args, below, meth, c, n, A⟩ := X
  have hA := C.2.2.2.2.2.2.2.2.2.1
  subst hA
  intro H locs ls hP hS hl
  obtain ⟨cf, k, fi, f, cell, h1, h2, h3, h4, h5, h6⟩ := va_OF.kept hX hS.2.1
  exact va_Wgetf C.1 C.2.1 C.2.2.2.1 (C.2.2.2.2.1.1.use hli rfl) h1 h2 h3 h4 (v := v) h5 rfl rfl hd (kk H locs ls hP hS hl)
theorem r_gets (C : gC w X cc own ret d nL) {Cl n9 d9 : String} {v : Value} {idx : Nat} (hX : gX w X (va_Z Cl n9 d9 v)) (hli : Cond.fieldLink own idx Cl n9 d9 ∈ lw_tbl) (hd : decode cc pc = .ok (.getstatic idx, 3)) (kk : gU w X Q ct (pc + 3) lo (v :: st)) : gU w X Q ct pc lo st := by
  obtain ⟨p, e, R, s, m, args, below, meth, c, n, A⟩ := X
  have hA := C.2.2.2.2.2.2.2.2.2.1
  subst hA
  exact fun H locs ls hP hS hl => va_gets C.1 C.2.1 hX hS C.2.2.2.1 (C.2.2.2.2.1.1.use hli rfl) (fun _ h => h) hd (kk H locs ls hP hS hl)
theorem r_getsN (C : gC w X cc own ret d nL) {Cl n9 d9 host : String} {v : Value} {idx : Nat} (hX : gX w X (va_Z Cl n9 d9 v)) (hli : Cond.fieldLinkNest own idx Cl n9 d9 host ∈ lw_tbl) (hd : decode cc pc = .ok (.getstatic idx, 3)) (kk : gU w X Q ct (pc + 3) lo (v :: st)) : gU w X Q ct pc lo st := by
  obtain ⟨p, e, R, s, m, args, below, meth, c, n, A⟩ := X
  have hA := C.2.2.2.2.2.2.2.2.2.1
  subst hA
  exact fun H locs ls hP hS hl => va_getsN C.1 C.2.1 hX hS C.2.2.2.1 (C.2.2.2.2.1.1.use hli rfl) (fun _ h => h) hd (kk H locs ls hP hS hl)
theorem r_getO (C : gC w X cc own ret d nL) {o9 n9 d9 : String} {v : Value} {idx q : Nat} (hX : gX w X (va_OF o9 n9 d9 v q)) (hli : Cond.fieldLink own idx o9 n9 d9 ∈ lw_tbl) (hd : decode cc pc = .ok (.getfield idx, 3)) (kk : gU w X Q ct (pc + 3) lo (v :: st)) : gU w X Q ct pc lo (.ref q :: st) := by
  obtain ⟨p, e, R, s, m, args, below, meth, c, n, A⟩ := X
  have hA := C.2.2.2.2.2.2.2.2.2.1
  subst hA
  exact fun H locs ls hP hS hl => vk_getf C.1 C.2.1 hX hS C.2.2.2.1 (C.2.2.2.2.1.1.use hli rfl) (fun _ h => h) hd (kk H locs ls hP hS hl)
theorem r_tlen (C : gC w X cc own ret d nL) {ty : FieldType} {t N : Nat} {f : Nat → Value} (hX : gX w X (va_T ty t N f)) (hd : decode cc pc = .ok (.arraylength, 1)) (kk : gU w X Q ct (pc + 1) lo (.int (nI N) :: st)) : gU w X Q ct pc lo (.ref t :: st) := by
  obtain ⟨p, e, R, s, m, args, below, meth, c, n, A⟩ := X
  have hA := C.2.2.2.2.2.2.2.2.2.1
  subst hA
  exact fun H locs ls hP hS hl => va_tlen C.1 C.2.1 hX hS rfl hd (kk H locs ls hP hS hl)
theorem r_tb (C : gC w X cc own ret d nL) {t N : Nat} {f : Nat → Value} (hX : gX w X (va_T .byte t N f)) {x : Int32} (hin : vp_in x N) {v : Value} (hv : f x.toNatClampNeg = v) (hd : decode cc pc = .ok (.baload, 1)) (kk : gU w X Q ct (pc + 1) lo (v :: st)) : gU w X Q ct pc lo (.int x :: .ref t :: st) := by
  obtain ⟨p, e, R, s, m, args, below, meth, c, n, A⟩ := X
  have hA := C.2.2.2.2.2.2.2.2.2.1
  subst hA
  exact fun H locs ls hP hS hl => va_tb C.1 C.2.1 hX hS hin hv hd (kk H locs ls hP hS hl)
theorem r_ti (C : gC w X cc own ret d nL) {t N : Nat} {f : Nat → Value} (hX : gX w X (va_T .int t N f)) {x : Int32} (hin : vp_in x N) {v : Value} (hv : f x.toNatClampNeg = v) (hd : decode cc pc = .ok (.iaload, 1)) (kk : gU w X Q ct (pc + 1) lo (v :: st)) : gU w X Q ct pc lo (.int x :: .ref t :: st) := by
  obtain ⟨p, e, R, s, m, args, below, meth, c, n, A⟩ := X
  have hA := C.2.2.2.2.2.2.2.2.2.1
  subst hA
  exact fun H locs ls hP hS hl => va_ti C.1 C.2.1 hX hS hin hv hd (kk H locs ls hP hS hl)
/-- a call on an object that stands still; z: the member found, y: the member named -/
theorem r_callE (C : gC w X cc own ret d nL) {y : MethodName} {ccy : ByteArray} {nLy ny idx d' b : Nat} {rety : Option FieldType} {v : Option Value} {ct' : CT} (As : List Value) (hM : gM w d' y ccy nLy rety (.ref b :: As) ct v ct') (Y : gYV y ccy nLy rety ny) (hli : Cond.methodLink own idx y ∈ lw_tbl) (hrc : gX w X (va_O y.cls b)) (hn : As.length = ny) (hdd : d' + 1 ≤ d) (hnl : nLy ≤ 21) (hst : (st.map fun v => v.category).sum ≤ 8) {stk : List Value} (hstk : stk = As.reverse ++ .ref b :: st) (hd : decode cc pc = .ok (.invokevirtual idx, 3)) (k : gU w X Q ct' (pc + 3) lo (v.toList ++ st)) (hq : qOk X Q := by first | exact qOk0 rfl rfl | assumption) : gU w X Q ct pc lo stk := by
  refine g_on C k ?_
  obtain ⟨p, e, R, s, m, args, below, meth, c, n, A⟩ := X
  intro H locs ls hP hS hl
  have hA0 := C.2.2.2.2.2.2.2.2.2.1
  subst hA0
  refine ⟨_, va_runV (As := As) (rest := st) (Ts := []) (own := own) ⟨C.1, C.2.1, C.2.2.1, C.2.2.2.1, fun _ h => by cases h⟩ (hM H.size) ⟨gB C.2.2.2.2.1.1 Y.1 Y.2.1 Y.2.2.1 hli C.2.2.2.2.2.2.2.2.2.2.1 hdd hnl, C.2.2.2.2.1.1.use Y.2.2.2.1 rfl, C.2.2.2.2.1.1.use Y.2.2.2.2 rfl⟩ ⟨(gPc C.2.2.2.2.1 C.2.2.2.2.2.1 hP C.2.2.2.2.2.2.2.2.2.2.2 hS).1, ?_, (gPc C.2.2.2.2.1 C.2.2.2.2.2.1 hP C.2.2.2.2.2.2.2.2.2.2.2 hS).2⟩ rfl hn ?_ hstk (lv_room hst) hd hq⟩
  · obtain ⟨cell, h1, h2, h3, -⟩ := va_O.kept hrc (fun a h1 h2 => hS.2.1 a h1 h2)
    exact ⟨cell, h1, h2, h3⟩
  · rw [hl.1]
    exact C.2.2.2.2.2.2.2.2.1
end STILL
theorem c_coder {w : WP} (hS : gS w) {ct : CT} {i : Nat} (hi : i < 32) : gM w 0 yJ0_coder_7d493 cJ0_coder_7d493 1 (some .byte) [.ref (sAd w i)] ct (some (.int 0)) ct := by
  refine gM_of "java/lang/String" rfl (by decide) (kR rfl) fun X C => ?_
  have hE := hS.s C
  show gV w X _ _ 0 [(0, .ref (sAd w i))] []
  refine r_gets C (hE.imp fun _ _ _ h => h.1) wm2_97 dJ0_coder_7d493_0 ?_
  refine r_if_eq C (tgt := 13) rfl dJ0_coder_7d493_3 (fun h => absurd h (by decide)) (fun _ => ?_)
  refine r_aload_n C (k := 0) rfl rfl dJ0_coder_7d493_6 ?_
  refine r_getO C (hE.imp fun _ _ _ h => (h.2.2.2 i hi).2.1) wm6_209 dJ0_coder_7d493_7 ?_
  refine r_goto C (tgt := 14) rfl dJ0_coder_7d493_10 ?_
  exact r_nret C rfl dJ0_coder_7d493_14
theorem c_isLatin1 {w : WP} (hS : gS w) {ct : CT} {i : Nat} (hi : i < 32) : gM w 0 yJ0_isLatin1_aae02 cJ0_isLatin1_aae02 1 (some .boolean) [.ref (sAd w i)] ct (some (.int 1)) ct := by
  refine gM_of "java/lang/String" rfl (by decide) (kR rfl) fun X C => ?_
  have hE := hS.s C
  show gV w X _ _ 0 [(0, .ref (sAd w i))] []
  refine r_gets C (hE.imp fun _ _ _ h => h.1) wm2_97 dJ0_isLatin1_aae02_0 ?_
  refine r_if_eq C (tgt := 17) rfl dJ0_isLatin1_aae02_3 (fun h => absurd h (by decide)) (fun _ => ?_)
  refine r_aload_n C (k := 0) rfl rfl dJ0_isLatin1_aae02_6 ?_
  refine r_getO C (hE.imp fun _ _ _ h => (h.2.2.2 i hi).2.1) wm6_209 dJ0_isLatin1_aae02_7 ?_
  refine r_if_ne C (tgt := 17) rfl dJ0_isLatin1_aae02_10 (fun h => absurd rfl h) (fun _ => ?_)
  refine r_iconst C (v := 1) rfl dJ0_isLatin1_aae02_13 ?_
  refine r_goto C (tgt := 18) rfl dJ0_isLatin1_aae02_14 ?_
  exact r_zreturn C true rfl dJ0_isLatin1_aae02_18
theorem shr0 (n : Nat) : nI n >>> ((0 : Int32) &&& 31) = nI n := by
  have h := pk_shr (nI n) ((0 : Int32) &&& 31) 0 (by decide)
  apply Int32.toInt_inj.mp
  rw [h]
  exact Int.shiftRight_zero _
theorem c_slen {w : WP} (hS : gS w) {ct : CT} {i : Nat} (hi : i < 32) : gM w 1 yJ0_length_8abf5 cJ0_length_8abf5 1 (some .int) [.ref (sAd w i)] ct (some (.int (nI (sTx i).length))) ct := by
  refine gM_of "java/lang/String" rfl (by decide) (kR rfl) fun X C => ?_
  have hE := hS.s C
  show gV w X _ _ 0 [(0, .ref (sAd w i))] []
  refine r_aload_n C (k := 0) rfl rfl dJ0_length_8abf5_0 ?_
  refine r_getO C (hE.imp fun _ _ _ h => (h.2.2.2 i hi).2.2.1) wm6_208 dJ0_length_8abf5_1 ?_
  refine r_tlen C (hE.imp fun _ _ _ h => (h.2.2.2 i hi).2.2.2) dJ0_length_8abf5_4 ?_
  refine r_aload_n C (k := 0) rfl rfl dJ0_length_8abf5_5 ?_
  refine r_callE C (d' := 0) [] (c_coder hS hi) myJ0_coder_7d493 wm2_93 (hE.imp fun _ _ _ h => (h.2.2.2 i hi).1) rfl (kR rfl) (by decide) (kR rfl) rfl dJ0_length_8abf5_6 ?_
  refine r_ishr C dJ0_length_8abf5_9 ?_
  refine r_st (st' := [.int (nI (sTx i).length)]) (by rw [shr0]) ?_
  exact r_ireturn C dJ0_length_8abf5_10
theorem c_check3 {w : WP} {ct : CT} {x : Int32} {n : Nat} (hin : vp_in x n) (hn : n < 2 ^ 31) (q : Nat) : gM w 0 yJ3_checkIndex_8e157 cJ3_checkIndex_8e157 3 (some .int) [.int x, .int (nI n), .ref q] ct (some (.int x)) ct := by
  refine gM_of "jdk/internal/util/Preconditions" rfl (by decide) (kR rfl) fun X C => ?_
  obtain ⟨j, hj, rfl⟩ := vp_in_of hin hn
  show gV w X _ _ 0 [(0, .int (nI j)), (1, .int (nI n)), (2, .ref q)] []
  refine r_iload_n C (k := 0) rfl rfl dJ3_checkIndex_8e157_0 ?_
  refine r_if_lt C (tgt := 9) rfl dJ3_checkIndex_8e157_1 (fun h => absurd h (nI_pos (by omega))) (fun _ => ?_)
  refine r_iload_n C (k := 0) rfl rfl dJ3_checkIndex_8e157_4 ?_
  refine r_iload_n C (k := 1) rfl rfl dJ3_checkIndex_8e157_5 ?_
  refine r_icmp_lt C (tgt := 16) rfl dJ3_checkIndex_8e157_6 (fun _ => ?_) (fun h => absurd (nI_lt hj hn) h)
  refine r_iload_n C (k := 0) rfl rfl dJ3_checkIndex_8e157_16 ?_
  exact r_ireturn C dJ3_checkIndex_8e157_17
theorem c_check3N {w : WP} {ct : CT} {x : Int32} {n : Nat} (hin : vp_in x n) (hn : n < 2 ^ 31) : gM w 0 yJ3_checkIndex_8e157 cJ3_checkIndex_8e157 3 (some .int) [.int x, .int (nI n), .null] ct (some (.int x)) ct := by
  refine gM_of "jdk/internal/util/Preconditions" rfl (by decide) (kR rfl) fun X C => ?_
  obtain ⟨j, hj, rfl⟩ := vp_in_of hin hn
  show gV w X _ _ 0 [(0, .int (nI j)), (1, .int (nI n)), (2, .null)] []
  refine r_iload_n C (k := 0) rfl rfl dJ3_checkIndex_8e157_0 ?_
  refine r_if_lt C (tgt := 9) rfl dJ3_checkIndex_8e157_1 (fun h => absurd h (nI_pos (by omega))) (fun _ => ?_)
  refine r_iload_n C (k := 0) rfl rfl dJ3_checkIndex_8e157_4 ?_
  refine r_iload_n C (k := 1) rfl rfl dJ3_checkIndex_8e157_5 ?_
  refine r_icmp_lt C (tgt := 16) rfl dJ3_checkIndex_8e157_6 (fun _ => ?_) (fun h => absurd (nI_lt hj hn) h)
  refine r_iload_n C (k := 0) rfl rfl dJ3_checkIndex_8e157_16 ?_
  exact r_ireturn C dJ3_checkIndex_8e157_17
theorem c_check0 {w : WP} (hS : gS w) {ct : CT} {x : Int32} {n : Nat} (hin : vp_in x n) (hn : n < 2 ^ 31) : gM w 1 yJ0_checkIndex_df160 cJ0_checkIndex_df160 2 none [.int x, .int (nI n)] ct none ct := by
  refine gM_of "java/lang/String" rfl (by decide) (kR rfl) fun X C => ?_
  have hE := hS.s C
  show gV w X _ _ 0 [(0, .int x), (1, .int (nI n))] []
  refine r_iload_n C (k := 0) rfl rfl dJ0_checkIndex_df160_0 ?_
  refine r_iload_n C (k := 1) rfl rfl dJ0_checkIndex_df160_1 ?_
  refine r_gets C (v := sfV (wAd w (19, 0, 0, 0))) (hE.imp fun _ _ _ h => h.2.1) wm2_113 dJ0_checkIndex_df160_2 ?_
  by_cases hz : wAd w (19, 0, 0, 0) = 0
  · rw [sfV_0 hz]
    refine r_callS C (d' := 0) [.int x, .int (nI n), .null] (c_check3N hin hn) myJ3_checkIndex_8e157 wm2_115 rfl (kR rfl) (by decide) (kR rfl) rfl dJ0_checkIndex_df160_5 ?_
    refine r_pop C rfl dJ0_checkIndex_df160_8 ?_
    exact r_return C dJ0_checkIndex_df160_9
  · rw [sfV_n hz]
    refine r_callS C (d' := 0) [.int x, .int (nI n), .ref (wAd w (19, 0, 0, 0) - 1)] (c_check3 hin hn _) myJ3_checkIndex_8e157 wm2_115 rfl (kR rfl) (by decide) (kR rfl) rfl dJ0_checkIndex_df160_5 ?_
    refine r_pop C rfl dJ0_checkIndex_df160_8 ?_
    exact r_return C dJ0_checkIndex_df160_9
def sCh (i : Nat) (x : Int32) : Int32 := (sTx i).getD x.toNatClampNeg 0
theorem sCh_c {i : Nat} (hi : i < 32) (x : Int32) : ((((sTx i).getD x.toNatClampNeg 0) &&& 255).toUInt32 % 65536).toInt32 = sCh i x := by
  unfold sCh
  rw [List.getD_eq_getElem?_getD]
  cases h : (sTx i)[x.toNatClampNeg]? with
  | none => rfl
  | some b =>
    have hb := sTx_byte i hi b (List.mem_of_getElem? h)
    show ((b &&& 255).toUInt32 % 65536).toInt32 = b
    rw [hb.1]
    exact Int32.toInt32_toUInt32 b
theorem c_charAt1 {w : WP} (hS : gS w) {ct : CT} {i : Nat} (hi : i < 32) {x : Int32} (hin : vp_in x (sTx i).length) : gM w 2 yJ1_charAt_3b067 cJ1_charAt_3b067 2 (some .char) [.ref (wAd w (16, i, 0, 0)), .int x] ct (some (.int (sCh i x))) ct := by
  refine gM_of "java/lang/StringLatin1" rfl (by decide) (kR rfl) fun X C => ?_
  have hE := hS.s C
  show gV w X _ _ 0 [(0, .ref (wAd w (16, i, 0, 0))), (1, .int x)] []
  refine r_iload_n C (k := 1) rfl rfl dJ1_charAt_3b067_0 ?_
  refine r_aload_n C (k := 0) rfl rfl dJ1_charAt_3b067_1 ?_
  refine r_tlen C (hE.imp fun _ _ _ h => (h.2.2.2 i hi).2.2.2) dJ1_charAt_3b067_2 ?_
  refine r_callS C (d' := 1) [.int x, .int (nI (sTx i).length)] (c_check0 hS hin (sTx_len i hi)) myJ0_checkIndex_df160 wm2_110 rfl (kR rfl) (by decide) (kR rfl) rfl dJ1_charAt_3b067_3 ?_
  refine r_aload_n C (k := 0) rfl rfl dJ1_charAt_3b067_6 ?_
  refine r_iload_n C (k := 1) rfl rfl dJ1_charAt_3b067_7 ?_
  refine r_tb C (hE.imp fun _ _ _ h => (h.2.2.2 i hi).2.2.2) hin rfl dJ1_charAt_3b067_8 ?_
  refine r_sipush C (v := 255) rfl dJ1_charAt_3b067_9 ?_
  refine r_iand C dJ1_charAt_3b067_12 ?_
  refine r_i2c C (v := sCh i x) (sCh_c hi x) dJ1_charAt_3b067_13 ?_
  refine r_nret C ?_ dJ1_charAt_3b067_14
  rw [← sCh_c hi x]
  exact pk_nc _
theorem c_charAt {w : WP} (hS : gS w) {ct : CT} {i : Nat} (hi : i < 32) {x : Int32} (hin : vp_in x (sTx i).length) : gM w 3 yJ0_charAt_5068e cJ0_charAt_5068e 2 (some .char) [.ref (sAd w i), .int x] ct (some (.int (sCh i x))) ct := by
  refine gM_of "java/lang/String" rfl (by decide) (kR rfl) fun X C => ?_
  have hE := hS.s C
  show gV w X _ _ 0 [(0, .ref (sAd w i)), (1, .int x)] []
  refine r_aload_n C (k := 0) rfl rfl dJ0_charAt_5068e_0 ?_
  refine r_callE C (d' := 0) [] (c_isLatin1 hS hi) myJ0_isLatin1_aae02 wm2_103 (hE.imp fun _ _ _ h => (h.2.2.2 i hi).1) rfl (kR rfl) (by decide) (kR rfl) rfl dJ0_charAt_5068e_1 ?_
  refine r_if_eq C (tgt := 16) rfl dJ0_charAt_5068e_4 (fun h => absurd h (by decide)) (fun _ => ?_)
  refine r_aload_n C (k := 0) rfl rfl dJ0_charAt_5068e_7 ?_
  refine r_getO C (hE.imp fun _ _ _ h => (h.2.2.2 i hi).2.2.1) wm6_208 dJ0_charAt_5068e_8 ?_
  refine r_iload_n C (k := 1) rfl rfl dJ0_charAt_5068e_11 ?_
  refine r_callS C (d' := 2) [.ref (wAd w (16, i, 0, 0)), .int x] (c_charAt1 hS hi hin) myJ1_charAt_3b067 wm2_107 rfl (kR rfl) (by decide) (kR rfl) rfl dJ0_charAt_5068e_12 ?_
  refine r_nret C ?_ dJ0_charAt_5068e_15
  rw [← sCh_c hi x]
  exact pk_nc _
