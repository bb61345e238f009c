/-! ===== sb1: StringBuilder, one char appended ===== -/
abbrev sbC (v n : Nat) : va_E := .inr (9, [.ref v, .int 0, .int 0, .int (nI n)])
/-- the text T lies in the row -/
def lat (T : List Nat) (f : Nat → Int32) : Prop := ∀ k, k < T.length → f k = nI (T.getD k 0)
/-- a builder with the text T, its row of L bytes -/
def sbIn (w : WP) (ct : CT) (iB iC : ID) (T : List Nat) (L : Nat) : Prop := wFr w iB ∧ wFr w iC ∧ iB ≠ iC ∧ ct iB = sbC (wAd w iC) T.length ∧ (∃ f, ct iC = .inl (wJ w, L, .inl f) ∧ fB f ∧ lat T f) ∧ T.length ≤ L ∧ L ≤ 1000
/-- behind an operation on it: the row may be another one, nothing else has changed -/
def sbPost (w : WP) (ct : CT) (iB iV iW : ID) (T' : List Nat) (rv : Option Value) : PT := fun I ad v ct' => v = rv ∧ (∀ z, I z → z = iW) ∧ ∃ iC L', (iC = iV ∨ iC = iW) ∧ sbIn (wM w I ad) ct' iB iC T' L' ∧ ∀ z, z ≠ iB → z ≠ iV → z ≠ iW → ct' z = ct z
def capF (L m : Nat) : Nat := L + (if m - L < L + 2 then L + 2 else m - L)
theorem capF_le {L m : Nat} (h : L < m) (hm : m ≤ 400) : m ≤ capF L m ∧ L < capF L m ∧ capF L m ≤ 1000 := by
  unfold capF
  split <;> omega
theorem fB0 : fB (fun _ => 0) := fun _ => show fits .byte (.int 0) = true by decide
theorem fB_cpy {f g : Nat → Int32} (hf : fB f) (hg : fB g) (a b n : Nat) : fB (va_cpy f g a b n) := by
  intro j
  unfold va_cpy
  split
  · exact hf _
  · exact hg j
theorem fB_upd {f : Nat → Int32} (hf : fB f) (k : Nat) {c : Nat} (hc : c < 128) : fB (upd f k (nI c)) := by
  intro j
  unfold upd
  split
  · show fits .byte (.int (nI c)) = true
    have h1 : (-128 : Int32) ≤ nI c := by
      rw [Int32.le_iff_toInt_le, nI_toInt (by omega)]
      have : (-128 : Int32).toInt = -128 := by decide
      omega
    have h2 : nI c ≤ 127 := nI_le (a := c) (b := 127) (by omega) (by decide)
    show ((-128 : Int32) ≤ nI c && nI c ≤ 127 : Bool) = true
    simp [h1, h2]
  · exact hf j
theorem nar_b {c : Nat} (hc : c < 128) : vp_nar .byte (nI c) = nI c ∧ (nI c).toInt8.toInt32 = nI c := by
  have h : ∀ c : Fin 128, vp_nar .byte (nI c.1) = nI c.1 ∧ (nI c.1).toInt8.toInt32 = nI c.1 := by decide +kernel
  exact h ⟨c, hc⟩
theorem recB {w : WP} {ct : CT} {iB : ID} {b : Nat} (hB : wOk w iB) (ha : wAd w iB = b) {fs : List Value} (hct : ct iB = .inr (9, fs)) : gRc w ct b "java/lang/StringBuilder" := ⟨iB, 9, fs, _, hB, ha, hct, rfl, rfl⟩
theorem gBh_Z {X : CX} {ad : ID → Nat} : gBh X IZ ad := by
  obtain ⟨p, e, R, s, m, args, below, meth, c, n, A⟩ := X
  exact fun _ h => h.elim
section END0
variable {w : WP} {X : CX} {cc : ByteArray} {own : String} {d nL : Nat} {ct : CT} {pc : Nat} {lo : List (Nat × Value)}
theorem r_eend0V (C : gC w X cc own none d nL) {Post : PT} {mc ms : Nat} (hp : Post IZ (wAd w) none ct) (hd : decode cc pc = .ok (.return_, 1)) : gU w X (qE1 w X Post mc ms, mc, ms) ct pc lo [] := by
  have k := r_eendV (w := w) (I := IZ) (ad := wAd w) (X := X) (Post := Post) (mc := mc) (ms := ms) (ct := ct) (pc := pc) (lo := lo) (by rw [wM_Z]; exact C) ⟨fun _ _ => rfl, fun _ _ => rfl⟩ gBh_Z hp hd
  rw [wM_Z] at k
  exact k
theorem r_eend0A {rt : FieldType} (C : gC w X cc own (some rt) d nL) (hrt : (∃ n, rt = .object n) ∨ ∃ t, rt = .array t) {Post : PT} {mc ms a : Nat} (hp : Post IZ (wAd w) (some (.ref a)) ct) (hd : decode cc pc = .ok (.areturn, 1)) : gU w X (qE1 w X Post mc ms, mc, ms) ct pc lo [.ref a] := by
  have k := r_eendA (w := w) (I := IZ) (ad := wAd w) (X := X) (Post := Post) (mc := mc) (ms := ms) (ct := ct) (pc := pc) (lo := lo) (by rw [wM_Z]; exact C) hrt ⟨fun _ _ => rfl, fun _ _ => rfl⟩ gBh_Z hp hd
  rw [wM_Z] at k
  exact k
theorem r_eend0I {rt : FieldType} (C : gC w X cc own (some rt) d nL) {x : Int32} (hn : narrow rt (.int x) = .int x) {Post : PT} {mc ms : Nat} (hp : Post IZ (wAd w) (some (.int x)) ct) (hd : decode cc pc = .ok (.ireturn, 1)) : gU w X (qE1 w X Post mc ms, mc, ms) ct pc lo [.int x] := by
  have k := r_eendI (w := w) (I := IZ) (ad := wAd w) (X := X) (Post := Post) (mc := mc) (ms := ms) (ct := ct) (pc := pc) (lo := lo) (by rw [wM_Z]; exact C) hn ⟨fun _ _ => rfl, fun _ _ => rfl⟩ gBh_Z hp hd
  rw [wM_Z] at k
  exact k
end END0
theorem wx7_22 : Cond.sameMethod "java/lang/AbstractStringBuilder" "java/lang/AbstractStringBuilder" "append" "(C)Ljava/lang/AbstractStringBuilder;" ∈ lw_tbl := in_t7 (List.mem_of_getElem? (i := 22) rfl)
theorem wx6_22 : Cond.superclass "java/lang/StringBuilder" "java/lang/AbstractStringBuilder" ∈ lw_tbl := in_t6 (List.mem_of_getElem? (i := 22) rfl)
theorem dJ5_isLatin1_aae02_0 : decode cJ5_isLatin1_aae02 0 = .ok (.getstatic 18, 3) := by decide +kernel
theorem dJ5_isLatin1_aae02_3 : decode cJ5_isLatin1_aae02 3 = .ok (.ifCond .eq 14, 3) := by decide +kernel
theorem dJ5_isLatin1_aae02_6 : decode cJ5_isLatin1_aae02 6 = .ok (.aload_n 0, 1) := by decide +kernel
theorem dJ5_isLatin1_aae02_7 : decode cJ5_isLatin1_aae02 7 = .ok (.getfield 22, 3) := by decide +kernel
theorem dJ5_isLatin1_aae02_10 : decode cJ5_isLatin1_aae02 10 = .ok (.ifCond .ne 7, 3) := by decide +kernel
theorem dJ5_isLatin1_aae02_13 : decode cJ5_isLatin1_aae02 13 = .ok (.iconst 1, 1) := by decide +kernel
theorem dJ5_isLatin1_aae02_14 : decode cJ5_isLatin1_aae02 14 = .ok (.goto 4, 3) := by decide +kernel
theorem dJ5_isLatin1_aae02_17 : decode cJ5_isLatin1_aae02 17 = .ok (.iconst 0, 1) := by decide +kernel
theorem dJ5_isLatin1_aae02_18 : decode cJ5_isLatin1_aae02 18 = .ok (.ireturn, 1) := by decide +kernel
theorem dJ1_canEncode_fc78d_0 : decode cJ1_canEncode_fc78d 0 = .ok (.iload_n 0, 1) := by decide +kernel
theorem dJ1_canEncode_fc78d_1 : decode cJ1_canEncode_fc78d 1 = .ok (.sipush 255, 3) := by decide +kernel
theorem dJ1_canEncode_fc78d_4 : decode cJ1_canEncode_fc78d 4 = .ok (.if_icmp .gt 7, 3) := by decide +kernel
theorem dJ1_canEncode_fc78d_7 : decode cJ1_canEncode_fc78d 7 = .ok (.iconst 1, 1) := by decide +kernel
theorem dJ1_canEncode_fc78d_8 : decode cJ1_canEncode_fc78d 8 = .ok (.goto 4, 3) := by decide +kernel
theorem dJ1_canEncode_fc78d_11 : decode cJ1_canEncode_fc78d 11 = .ok (.iconst 0, 1) := by decide +kernel
theorem dJ1_canEncode_fc78d_12 : decode cJ1_canEncode_fc78d 12 = .ok (.ireturn, 1) := by decide +kernel
theorem dJ8_newLength_cabcc_0 : decode cJ8_newLength_cabcc 0 = .ok (.iload_n 0, 1) := by decide +kernel
theorem dJ8_newLength_cabcc_1 : decode cJ8_newLength_cabcc 1 = .ok (.iload_n 1, 1) := by decide +kernel
theorem dJ8_newLength_cabcc_2 : decode cJ8_newLength_cabcc 2 = .ok (.iload_n 2, 1) := by decide +kernel
theorem dJ8_newLength_cabcc_3 : decode cJ8_newLength_cabcc 3 = .ok (.invokestatic 194, 3) := by decide +kernel
theorem dJ8_newLength_cabcc_6 : decode cJ8_newLength_cabcc 6 = .ok (.iadd, 1) := by decide +kernel
theorem dJ8_newLength_cabcc_7 : decode cJ8_newLength_cabcc 7 = .ok (.istore_n 3, 1) := by decide +kernel
theorem dJ8_newLength_cabcc_8 : decode cJ8_newLength_cabcc 8 = .ok (.iconst 0, 1) := by decide +kernel
theorem dJ8_newLength_cabcc_9 : decode cJ8_newLength_cabcc 9 = .ok (.iload_n 3, 1) := by decide +kernel
theorem dJ8_newLength_cabcc_10 : decode cJ8_newLength_cabcc 10 = .ok (.if_icmp .ge 11, 3) := by decide +kernel
theorem dJ8_newLength_cabcc_13 : decode cJ8_newLength_cabcc 13 = .ok (.iload_n 3, 1) := by decide +kernel
theorem dJ8_newLength_cabcc_14 : decode cJ8_newLength_cabcc 14 = .ok (.ldc 200, 2) := by decide +kernel
theorem dJ8_newLength_cabcc_16 : decode cJ8_newLength_cabcc 16 = .ok (.if_icmp .gt 5, 3) := by decide +kernel
theorem dJ8_newLength_cabcc_19 : decode cJ8_newLength_cabcc 19 = .ok (.iload_n 3, 1) := by decide +kernel
theorem dJ8_newLength_cabcc_20 : decode cJ8_newLength_cabcc 20 = .ok (.ireturn, 1) := by decide +kernel
theorem dJ8_newLength_cabcc_21 : decode cJ8_newLength_cabcc 21 = .ok (.iload_n 0, 1) := by decide +kernel
theorem dJ8_newLength_cabcc_22 : decode cJ8_newLength_cabcc 22 = .ok (.iload_n 1, 1) := by decide +kernel
theorem dJ8_newLength_cabcc_23 : decode cJ8_newLength_cabcc 23 = .ok (.invokestatic 201, 3) := by decide +kernel
theorem dJ8_newLength_cabcc_26 : decode cJ8_newLength_cabcc 26 = .ok (.ireturn, 1) := by decide +kernel
theorem dJ5_newCapacity_0f7a4_0 : decode cJ5_newCapacity_0f7a4 0 = .ok (.aload_n 0, 1) := by decide +kernel
theorem dJ5_newCapacity_0f7a4_1 : decode cJ5_newCapacity_0f7a4 1 = .ok (.getfield 15, 3) := by decide +kernel
theorem dJ5_newCapacity_0f7a4_4 : decode cJ5_newCapacity_0f7a4 4 = .ok (.arraylength, 1) := by decide +kernel
theorem dJ5_newCapacity_0f7a4_5 : decode cJ5_newCapacity_0f7a4 5 = .ok (.istore_n 2, 1) := by decide +kernel
theorem dJ5_newCapacity_0f7a4_6 : decode cJ5_newCapacity_0f7a4 6 = .ok (.iload_n 1, 1) := by decide +kernel
theorem dJ5_newCapacity_0f7a4_7 : decode cJ5_newCapacity_0f7a4 7 = .ok (.aload_n 0, 1) := by decide +kernel
theorem dJ5_newCapacity_0f7a4_8 : decode cJ5_newCapacity_0f7a4 8 = .ok (.getfield 22, 3) := by decide +kernel
theorem dJ5_newCapacity_0f7a4_11 : decode cJ5_newCapacity_0f7a4 11 = .ok (.ishl, 1) := by decide +kernel
theorem dJ5_newCapacity_0f7a4_12 : decode cJ5_newCapacity_0f7a4 12 = .ok (.istore_n 3, 1) := by decide +kernel
theorem dJ5_newCapacity_0f7a4_13 : decode cJ5_newCapacity_0f7a4 13 = .ok (.iload_n 3, 1) := by decide +kernel
theorem dJ5_newCapacity_0f7a4_14 : decode cJ5_newCapacity_0f7a4 14 = .ok (.iload_n 2, 1) := by decide +kernel
theorem dJ5_newCapacity_0f7a4_15 : decode cJ5_newCapacity_0f7a4 15 = .ok (.isub, 1) := by decide +kernel
theorem dJ5_newCapacity_0f7a4_16 : decode cJ5_newCapacity_0f7a4 16 = .ok (.istore 4, 2) := by decide +kernel
theorem dJ5_newCapacity_0f7a4_18 : decode cJ5_newCapacity_0f7a4 18 = .ok (.iload_n 2, 1) := by decide +kernel
theorem dJ5_newCapacity_0f7a4_19 : decode cJ5_newCapacity_0f7a4 19 = .ok (.iload 4, 2) := by decide +kernel
theorem dJ5_newCapacity_0f7a4_21 : decode cJ5_newCapacity_0f7a4 21 = .ok (.iload_n 2, 1) := by decide +kernel
theorem dJ5_newCapacity_0f7a4_22 : decode cJ5_newCapacity_0f7a4 22 = .ok (.iconst 2, 1) := by decide +kernel
theorem dJ5_newCapacity_0f7a4_23 : decode cJ5_newCapacity_0f7a4 23 = .ok (.aload_n 0, 1) := by decide +kernel
theorem dJ5_newCapacity_0f7a4_24 : decode cJ5_newCapacity_0f7a4 24 = .ok (.getfield 22, 3) := by decide +kernel
theorem dJ5_newCapacity_0f7a4_27 : decode cJ5_newCapacity_0f7a4 27 = .ok (.ishl, 1) := by decide +kernel
theorem dJ5_newCapacity_0f7a4_28 : decode cJ5_newCapacity_0f7a4 28 = .ok (.iadd, 1) := by decide +kernel
theorem dJ5_newCapacity_0f7a4_29 : decode cJ5_newCapacity_0f7a4 29 = .ok (.invokestatic 114, 3) := by decide +kernel
theorem dJ5_newCapacity_0f7a4_32 : decode cJ5_newCapacity_0f7a4 32 = .ok (.istore 5, 2) := by decide +kernel
theorem dJ5_newCapacity_0f7a4_34 : decode cJ5_newCapacity_0f7a4 34 = .ok (.iload 5, 2) := by decide +kernel
theorem dJ5_newCapacity_0f7a4_36 : decode cJ5_newCapacity_0f7a4 36 = .ok (.ldc 39, 2) := by decide +kernel
theorem dJ5_newCapacity_0f7a4_38 : decode cJ5_newCapacity_0f7a4 38 = .ok (.if_icmp .ne 13, 3) := by decide +kernel
theorem dJ5_newCapacity_0f7a4_41 : decode cJ5_newCapacity_0f7a4 41 = .ok (.new 120, 3) := by decide +kernel
theorem dJ5_newCapacity_0f7a4_44 : decode cJ5_newCapacity_0f7a4 44 = .ok (.dup, 1) := by decide +kernel
theorem dJ5_newCapacity_0f7a4_45 : decode cJ5_newCapacity_0f7a4 45 = .ok (.ldc 122, 2) := by decide +kernel
theorem dJ5_newCapacity_0f7a4_47 : decode cJ5_newCapacity_0f7a4 47 = .ok (.invokespecial 124, 3) := by decide +kernel
theorem dJ5_newCapacity_0f7a4_50 : decode cJ5_newCapacity_0f7a4 50 = .ok (.athrow, 1) := by decide +kernel
theorem dJ5_newCapacity_0f7a4_51 : decode cJ5_newCapacity_0f7a4 51 = .ok (.iload 5, 2) := by decide +kernel
theorem dJ5_newCapacity_0f7a4_53 : decode cJ5_newCapacity_0f7a4 53 = .ok (.aload_n 0, 1) := by decide +kernel
theorem dJ5_newCapacity_0f7a4_54 : decode cJ5_newCapacity_0f7a4 54 = .ok (.getfield 22, 3) := by decide +kernel
theorem dJ5_newCapacity_0f7a4_57 : decode cJ5_newCapacity_0f7a4 57 = .ok (.ishr, 1) := by decide +kernel
theorem dJ5_newCapacity_0f7a4_58 : decode cJ5_newCapacity_0f7a4 58 = .ok (.ireturn, 1) := by decide +kernel
theorem dJ7_copyOf_9075b_0 : decode cJ7_copyOf_9075b 0 = .ok (.iload_n 1, 1) := by decide +kernel
theorem dJ7_copyOf_9075b_1 : decode cJ7_copyOf_9075b 1 = .ok (.aload_n 0, 1) := by decide +kernel
theorem dJ7_copyOf_9075b_2 : decode cJ7_copyOf_9075b 2 = .ok (.arraylength, 1) := by decide +kernel
theorem dJ7_copyOf_9075b_3 : decode cJ7_copyOf_9075b 3 = .ok (.if_icmp .ne 11, 3) := by decide +kernel
theorem dJ7_copyOf_9075b_6 : decode cJ7_copyOf_9075b 6 = .ok (.aload_n 0, 1) := by decide +kernel
theorem dJ7_copyOf_9075b_7 : decode cJ7_copyOf_9075b 7 = .ok (.invokevirtual 310, 3) := by decide +kernel
theorem dJ7_copyOf_9075b_10 : decode cJ7_copyOf_9075b 10 = .ok (.checkcast 311, 3) := by decide +kernel
theorem dJ7_copyOf_9075b_13 : decode cJ7_copyOf_9075b 13 = .ok (.areturn, 1) := by decide +kernel
theorem dJ7_copyOf_9075b_14 : decode cJ7_copyOf_9075b 14 = .ok (.iload_n 1, 1) := by decide +kernel
theorem dJ7_copyOf_9075b_15 : decode cJ7_copyOf_9075b 15 = .ok (.newarray .byte, 2) := by decide +kernel
theorem dJ7_copyOf_9075b_17 : decode cJ7_copyOf_9075b 17 = .ok (.astore_n 2, 1) := by decide +kernel
theorem dJ7_copyOf_9075b_18 : decode cJ7_copyOf_9075b 18 = .ok (.aload_n 0, 1) := by decide +kernel
theorem dJ7_copyOf_9075b_19 : decode cJ7_copyOf_9075b 19 = .ok (.iconst 0, 1) := by decide +kernel
theorem dJ7_copyOf_9075b_20 : decode cJ7_copyOf_9075b 20 = .ok (.aload_n 2, 1) := by decide +kernel
theorem dJ7_copyOf_9075b_21 : decode cJ7_copyOf_9075b 21 = .ok (.iconst 0, 1) := by decide +kernel
theorem dJ7_copyOf_9075b_22 : decode cJ7_copyOf_9075b 22 = .ok (.aload_n 0, 1) := by decide +kernel
theorem dJ7_copyOf_9075b_23 : decode cJ7_copyOf_9075b 23 = .ok (.arraylength, 1) := by decide +kernel
theorem dJ7_copyOf_9075b_24 : decode cJ7_copyOf_9075b 24 = .ok (.iload_n 1, 1) := by decide +kernel
theorem dJ7_copyOf_9075b_25 : decode cJ7_copyOf_9075b 25 = .ok (.invokestatic 304, 3) := by decide +kernel
theorem dJ7_copyOf_9075b_28 : decode cJ7_copyOf_9075b 28 = .ok (.invokestatic 150, 3) := by decide +kernel
theorem dJ7_copyOf_9075b_31 : decode cJ7_copyOf_9075b 31 = .ok (.aload_n 2, 1) := by decide +kernel
theorem dJ7_copyOf_9075b_32 : decode cJ7_copyOf_9075b 32 = .ok (.areturn, 1) := by decide +kernel
theorem dJ5_ensureCapacityInternal_d00df_0 : decode cJ5_ensureCapacityInternal_d00df 0 = .ok (.aload_n 0, 1) := by decide +kernel
theorem dJ5_ensureCapacityInternal_d00df_1 : decode cJ5_ensureCapacityInternal_d00df 1 = .ok (.getfield 15, 3) := by decide +kernel
theorem dJ5_ensureCapacityInternal_d00df_4 : decode cJ5_ensureCapacityInternal_d00df 4 = .ok (.arraylength, 1) := by decide +kernel
theorem dJ5_ensureCapacityInternal_d00df_5 : decode cJ5_ensureCapacityInternal_d00df 5 = .ok (.aload_n 0, 1) := by decide +kernel
theorem dJ5_ensureCapacityInternal_d00df_6 : decode cJ5_ensureCapacityInternal_d00df 6 = .ok (.getfield 22, 3) := by decide +kernel
theorem dJ5_ensureCapacityInternal_d00df_9 : decode cJ5_ensureCapacityInternal_d00df 9 = .ok (.ishr, 1) := by decide +kernel
theorem dJ5_ensureCapacityInternal_d00df_10 : decode cJ5_ensureCapacityInternal_d00df 10 = .ok (.istore_n 2, 1) := by decide +kernel
theorem dJ5_ensureCapacityInternal_d00df_11 : decode cJ5_ensureCapacityInternal_d00df 11 = .ok (.iload_n 1, 1) := by decide +kernel
theorem dJ5_ensureCapacityInternal_d00df_12 : decode cJ5_ensureCapacityInternal_d00df 12 = .ok (.iload_n 2, 1) := by decide +kernel
theorem dJ5_ensureCapacityInternal_d00df_13 : decode cJ5_ensureCapacityInternal_d00df 13 = .ok (.isub, 1) := by decide +kernel
theorem dJ5_ensureCapacityInternal_d00df_14 : decode cJ5_ensureCapacityInternal_d00df 14 = .ok (.ifCond .le 24, 3) := by decide +kernel
theorem dJ5_ensureCapacityInternal_d00df_17 : decode cJ5_ensureCapacityInternal_d00df 17 = .ok (.aload_n 0, 1) := by decide +kernel
theorem dJ5_ensureCapacityInternal_d00df_18 : decode cJ5_ensureCapacityInternal_d00df 18 = .ok (.aload_n 0, 1) := by decide +kernel
theorem dJ5_ensureCapacityInternal_d00df_19 : decode cJ5_ensureCapacityInternal_d00df 19 = .ok (.getfield 15, 3) := by decide +kernel
theorem dJ5_ensureCapacityInternal_d00df_22 : decode cJ5_ensureCapacityInternal_d00df 22 = .ok (.aload_n 0, 1) := by decide +kernel
theorem dJ5_ensureCapacityInternal_d00df_23 : decode cJ5_ensureCapacityInternal_d00df 23 = .ok (.iload_n 1, 1) := by decide +kernel
theorem dJ5_ensureCapacityInternal_d00df_24 : decode cJ5_ensureCapacityInternal_d00df 24 = .ok (.invokevirtual 104, 3) := by decide +kernel
theorem dJ5_ensureCapacityInternal_d00df_27 : decode cJ5_ensureCapacityInternal_d00df 27 = .ok (.aload_n 0, 1) := by decide +kernel
theorem dJ5_ensureCapacityInternal_d00df_28 : decode cJ5_ensureCapacityInternal_d00df 28 = .ok (.getfield 22, 3) := by decide +kernel
theorem dJ5_ensureCapacityInternal_d00df_31 : decode cJ5_ensureCapacityInternal_d00df 31 = .ok (.ishl, 1) := by decide +kernel
theorem dJ5_ensureCapacityInternal_d00df_32 : decode cJ5_ensureCapacityInternal_d00df 32 = .ok (.invokestatic 108, 3) := by decide +kernel
theorem dJ5_ensureCapacityInternal_d00df_35 : decode cJ5_ensureCapacityInternal_d00df 35 = .ok (.putfield 15, 3) := by decide +kernel
theorem dJ5_ensureCapacityInternal_d00df_38 : decode cJ5_ensureCapacityInternal_d00df 38 = .ok (.return_, 1) := by decide +kernel
theorem dJ5_append_3fe6f_0 : decode cJ5_append_3fe6f 0 = .ok (.aload_n 0, 1) := by decide +kernel
theorem dJ5_append_3fe6f_1 : decode cJ5_append_3fe6f 1 = .ok (.aload_n 0, 1) := by decide +kernel
theorem dJ5_append_3fe6f_2 : decode cJ5_append_3fe6f 2 = .ok (.getfield 79, 3) := by decide +kernel
theorem dJ5_append_3fe6f_5 : decode cJ5_append_3fe6f 5 = .ok (.iconst 1, 1) := by decide +kernel
theorem dJ5_append_3fe6f_6 : decode cJ5_append_3fe6f 6 = .ok (.iadd, 1) := by decide +kernel
theorem dJ5_append_3fe6f_7 : decode cJ5_append_3fe6f 7 = .ok (.invokevirtual 100, 3) := by decide +kernel
theorem dJ5_append_3fe6f_10 : decode cJ5_append_3fe6f 10 = .ok (.aload_n 0, 1) := by decide +kernel
theorem dJ5_append_3fe6f_11 : decode cJ5_append_3fe6f 11 = .ok (.invokevirtual 83, 3) := by decide +kernel
theorem dJ5_append_3fe6f_14 : decode cJ5_append_3fe6f 14 = .ok (.ifCond .eq 31, 3) := by decide +kernel
theorem dJ5_append_3fe6f_17 : decode cJ5_append_3fe6f 17 = .ok (.iload_n 1, 1) := by decide +kernel
theorem dJ5_append_3fe6f_18 : decode cJ5_append_3fe6f 18 = .ok (.invokestatic 191, 3) := by decide +kernel
theorem dJ5_append_3fe6f_21 : decode cJ5_append_3fe6f 21 = .ok (.ifCond .eq 24, 3) := by decide +kernel
theorem dJ5_append_3fe6f_24 : decode cJ5_append_3fe6f 24 = .ok (.aload_n 0, 1) := by decide +kernel
theorem dJ5_append_3fe6f_25 : decode cJ5_append_3fe6f 25 = .ok (.getfield 15, 3) := by decide +kernel
theorem dJ5_append_3fe6f_28 : decode cJ5_append_3fe6f 28 = .ok (.aload_n 0, 1) := by decide +kernel
theorem dJ5_append_3fe6f_29 : decode cJ5_append_3fe6f 29 = .ok (.dup, 1) := by decide +kernel
theorem dJ5_append_3fe6f_30 : decode cJ5_append_3fe6f 30 = .ok (.getfield 79, 3) := by decide +kernel
theorem dJ5_append_3fe6f_33 : decode cJ5_append_3fe6f 33 = .ok (.dup_x1, 1) := by decide +kernel
theorem dJ5_append_3fe6f_34 : decode cJ5_append_3fe6f 34 = .ok (.iconst 1, 1) := by decide +kernel
theorem dJ5_append_3fe6f_35 : decode cJ5_append_3fe6f 35 = .ok (.iadd, 1) := by decide +kernel
theorem dJ5_append_3fe6f_36 : decode cJ5_append_3fe6f 36 = .ok (.putfield 79, 3) := by decide +kernel
theorem dJ5_append_3fe6f_39 : decode cJ5_append_3fe6f 39 = .ok (.iload_n 1, 1) := by decide +kernel
theorem dJ5_append_3fe6f_40 : decode cJ5_append_3fe6f 40 = .ok (.i2b, 1) := by decide +kernel
theorem dJ5_append_3fe6f_41 : decode cJ5_append_3fe6f 41 = .ok (.bastore, 1) := by decide +kernel
theorem dJ5_append_3fe6f_42 : decode cJ5_append_3fe6f 42 = .ok (.goto 33, 3) := by decide +kernel
theorem dJ5_append_3fe6f_45 : decode cJ5_append_3fe6f 45 = .ok (.aload_n 0, 1) := by decide +kernel
theorem dJ5_append_3fe6f_46 : decode cJ5_append_3fe6f 46 = .ok (.invokevirtual 83, 3) := by decide +kernel
theorem dJ5_append_3fe6f_49 : decode cJ5_append_3fe6f 49 = .ok (.ifCond .eq 7, 3) := by decide +kernel
theorem dJ5_append_3fe6f_52 : decode cJ5_append_3fe6f 52 = .ok (.aload_n 0, 1) := by decide +kernel
theorem dJ5_append_3fe6f_53 : decode cJ5_append_3fe6f 53 = .ok (.invokevirtual 195, 3) := by decide +kernel
theorem dJ5_append_3fe6f_56 : decode cJ5_append_3fe6f 56 = .ok (.aload_n 0, 1) := by decide +kernel
theorem dJ5_append_3fe6f_57 : decode cJ5_append_3fe6f 57 = .ok (.getfield 15, 3) := by decide +kernel
theorem dJ5_append_3fe6f_60 : decode cJ5_append_3fe6f 60 = .ok (.aload_n 0, 1) := by decide +kernel
theorem dJ5_append_3fe6f_61 : decode cJ5_append_3fe6f 61 = .ok (.dup, 1) := by decide +kernel
theorem dJ5_append_3fe6f_62 : decode cJ5_append_3fe6f 62 = .ok (.getfield 79, 3) := by decide +kernel
theorem dJ5_append_3fe6f_65 : decode cJ5_append_3fe6f 65 = .ok (.dup_x1, 1) := by decide +kernel
theorem dJ5_append_3fe6f_66 : decode cJ5_append_3fe6f 66 = .ok (.iconst 1, 1) := by decide +kernel
theorem dJ5_append_3fe6f_67 : decode cJ5_append_3fe6f 67 = .ok (.iadd, 1) := by decide +kernel
theorem dJ5_append_3fe6f_68 : decode cJ5_append_3fe6f 68 = .ok (.putfield 79, 3) := by decide +kernel
theorem dJ5_append_3fe6f_71 : decode cJ5_append_3fe6f 71 = .ok (.iload_n 1, 1) := by decide +kernel
theorem dJ5_append_3fe6f_72 : decode cJ5_append_3fe6f 72 = .ok (.invokestatic 197, 3) := by decide +kernel
theorem dJ5_append_3fe6f_75 : decode cJ5_append_3fe6f 75 = .ok (.aload_n 0, 1) := by decide +kernel
theorem dJ5_append_3fe6f_76 : decode cJ5_append_3fe6f 76 = .ok (.areturn, 1) := by decide +kernel
theorem dJ4_append_cf468_0 : decode cJ4_append_cf468 0 = .ok (.aload_n 0, 1) := by decide +kernel
theorem dJ4_append_cf468_1 : decode cJ4_append_cf468 1 = .ok (.iload_n 1, 1) := by decide +kernel
theorem dJ4_append_cf468_2 : decode cJ4_append_cf468 2 = .ok (.invokespecial 50, 3) := by decide +kernel
theorem dJ4_append_cf468_5 : decode cJ4_append_cf468 5 = .ok (.pop, 1) := by decide +kernel
theorem dJ4_append_cf468_6 : decode cJ4_append_cf468 6 = .ok (.aload_n 0, 1) := by decide +kernel
theorem dJ4_append_cf468_7 : decode cJ4_append_cf468 7 = .ok (.areturn, 1) := by decide +kernel
theorem mbJ5_isLatin1_aae02 : gYB yJ5_isLatin1_aae02 cJ5_isLatin1_aae02 1 (Option.some Jvm.ClassFile.FieldType.boolean) 0 := ⟨wm6_63, wm1_2, ⟨by decide, by decide, by decide +kernel⟩, wm6_60⟩
theorem mbJ5_newCapacity_0f7a4 : gYB yJ5_newCapacity_0f7a4 cJ5_newCapacity_0f7a4 6 (Option.some Jvm.ClassFile.FieldType.int) 1 := ⟨wm6_37, wm1_2, ⟨by decide, by decide, by decide +kernel⟩, wm6_36⟩
theorem mbJ5_ensureCapacityInternal_d00df : gYB yJ5_ensureCapacityInternal_d00df cJ5_ensureCapacityInternal_d00df 3 (Option.none : Option Jvm.ClassFile.FieldType) 1 := ⟨wm6_33, wm1_2, ⟨by decide, by decide, by decide +kernel⟩, wm6_32⟩
theorem mbJ4_append_cf468 : gYB yJ4_append_cf468 cJ4_append_cf468 2 (Option.some (Jvm.ClassFile.FieldType.object "java/lang/StringBuilder")) 1 := ⟨wm6_26, wm1_3, ⟨by decide, by decide, by decide +kernel⟩, wm6_24⟩
theorem muJ5_append_3fe6f : gYU "java/lang/StringBuilder" yJ5_append_3fe6f cJ5_append_3fe6f 2 (Option.some (Jvm.ClassFile.FieldType.object "java/lang/AbstractStringBuilder")) 1 := ⟨wm6_29, wm1_2, ⟨by decide, by decide +kernel⟩, wm6_28, wx7_22, wx6_22⟩
theorem c_sbL {w : WP} (hS : gS w) {ct : CT} {iB : ID} {b v n : Nat} (hB : wOk w iB) (ha : wAd w iB = b) (hct : ct iB = sbC v n) : gM w 0 yJ5_isLatin1_aae02 cJ5_isLatin1_aae02 1 (some .boolean) [.ref b] ct (some (.int 1)) ct := by
  refine gM_of "java/lang/AbstractStringBuilder" rfl (by decide) (kR rfl) fun X C => ?_
  have hE := hS.s C
  show gV w X _ _ 0 [(0, .ref b)] []
  refine r_gets C (hE.imp fun _ _ _ h => h.1) wm6_2 dJ5_isLatin1_aae02_0 ?_
  refine r_if_eq C (tgt := 17) rfl dJ5_isLatin1_aae02_3 (fun h => absurd h (by decide)) (fun _ => ?_)
  refine r_aload_n C (k := 0) rfl rfl dJ5_isLatin1_aae02_6 ?_
  refine r_getA C FJ4 1 iB hB ha hct (by decide) wm6_11 rfl dJ5_isLatin1_aae02_7 ?_
  refine r_if_ne C (tgt := 17) rfl dJ5_isLatin1_aae02_10 (fun h => absurd rfl h) (fun _ => ?_)
  refine r_iconst C (v := 1) rfl dJ5_isLatin1_aae02_13 ?_
  refine r_goto C (tgt := 18) rfl dJ5_isLatin1_aae02_14 ?_
  exact r_zreturn C true rfl dJ5_isLatin1_aae02_18
theorem c_canEnc {w : WP} {ct : CT} {x : Nat} (hx : x ≤ 255) : gM w 0 yJ1_canEncode_fc78d cJ1_canEncode_fc78d 1 (some .boolean) [.int (nI x)] ct (some (.int 1)) ct := by
  refine gM_of "java/lang/StringLatin1" rfl (by decide) (kR rfl) fun X C => ?_
  show gV w X _ _ 0 [(0, .int (nI x))] []
  refine r_iload_n C (k := 0) rfl rfl dJ1_canEncode_fc78d_0 ?_
  refine r_sipush C (v := 255) rfl dJ1_canEncode_fc78d_1 ?_
  refine r_icmp_gt C (tgt := 11) rfl dJ1_canEncode_fc78d_4 (fun h => absurd h (show ¬ nI 255 < nI x from nI_nlt hx (by decide))) (fun _ => ?_)
  refine r_iconst C (v := 1) rfl dJ1_canEncode_fc78d_7 ?_
  refine r_goto C (tgt := 12) rfl dJ1_canEncode_fc78d_8 ?_
  exact r_zreturn C true rfl dJ1_canEncode_fc78d_12
theorem c_newLen {w : WP} {ct : CT} {a b c : Nat} (ha : 0 < a + if b < c then c else b) (hb : (a + if b < c then c else b) ≤ 100000) (hb1 : b ≤ 100000) (hc1 : c ≤ 100000) : gM w 1 yJ8_newLength_cabcc cJ8_newLength_cabcc 4 (some .int) [.int (nI a), .int (nI b), .int (nI c)] ct (some (.int (nI (a + if b < c then c else b)))) ct := by
  refine gM_of "jdk/internal/util/ArraysSupport" rfl (by decide) (kR rfl) fun X C => ?_
  have e1 : (if nI b < nI c then nI c else nI b) = nI (if b < c then c else b) := by
    by_cases h : b < c
    · rw [if_pos h, if_pos (nI_lt h (by omega))]
    · rw [if_neg h, if_neg (nI_nlt (by omega) (by omega))]
  show gV w X _ _ 0 [(0, .int (nI a)), (1, .int (nI b)), (2, .int (nI c))] []
  refine r_iload_n C (k := 0) rfl rfl dJ8_newLength_cabcc_0 ?_
  refine r_iload_n C (k := 1) rfl rfl dJ8_newLength_cabcc_1 ?_
  refine r_iload_n C (k := 2) rfl rfl dJ8_newLength_cabcc_2 ?_
  refine r_mmax C (kR rfl) wm6_41 (kR rfl) dJ8_newLength_cabcc_3 ?_
  refine r_st (st' := [.int (nI (if b < c then c else b)), .int (nI a)]) (by rw [e1]) ?_
  refine r_iadd C dJ8_newLength_cabcc_6 ?_
  refine r_st (st' := [.int (nI (a + if b < c then c else b))]) (by rw [nI_add] <;> rfl) ?_
  refine r_istore_n C (lo' := [(3, .int (nI (a + if b < c then c else b))), (0, .int (nI a)), (1, .int (nI b)), (2, .int (nI c))]) rfl (by decide) rfl dJ8_newLength_cabcc_7 ?_
  refine r_iconst C (v := 0) rfl dJ8_newLength_cabcc_8 ?_
  refine r_iload_n C (k := 0) rfl rfl dJ8_newLength_cabcc_9 ?_
  refine r_icmp_ge C (tgt := 21) rfl dJ8_newLength_cabcc_10 (fun h => absurd h (nI_nle (by omega) (by omega))) (fun _ => ?_)
  refine r_iload_n C (k := 0) rfl rfl dJ8_newLength_cabcc_13 ?_
  refine r_ldcI C wm6_42 dJ8_newLength_cabcc_14 ?_
  refine r_icmp_gt C (tgt := 21) rfl dJ8_newLength_cabcc_16 (fun h => absurd h (show ¬ nI 2147483639 < _ from nI_nlt (by omega) (by decide))) (fun _ => ?_)
  refine r_iload_n C (k := 0) rfl rfl dJ8_newLength_cabcc_19 ?_
  exact r_ireturn C dJ8_newLength_cabcc_20
theorem c_newCap {w : WP} {ct : CT} {iB iV : ID} {b v n L m : Nat} {f : Nat → Int32} (hB : wOk w iB) (ha : wAd w iB = b) (hct : ct iB = sbC v n) (hV : wOk w iV) (hv : wAd w iV = v) (hcv : ct iV = .inl (wJ w, L, .inl f)) (hL : L < m) (hm : m ≤ 400) : gM w 2 yJ5_newCapacity_0f7a4 cJ5_newCapacity_0f7a4 6 (some .int) [.ref b, .int (nI m)] ct (some (.int (nI (capF L m)))) ct := by
  refine gM_of "java/lang/AbstractStringBuilder" rfl (by decide) (kR rfl) fun X C => ?_
  have hq := capF_le hL hm
  show gV w X _ _ 0 [(0, .ref b), (1, .int (nI m))] []
  refine r_aload_n C (k := 0) rfl rfl dJ5_newCapacity_0f7a4_0 ?_
  refine r_getA C FJ4 0 iB hB ha hct (by decide) wm6_10 rfl dJ5_newCapacity_0f7a4_1 ?_
  refine r_alenA C iV hV hv hcv dJ5_newCapacity_0f7a4_4 ?_
  refine r_istore_n C (lo' := [(2, .int (nI L)), (0, .ref b), (1, .int (nI m))]) rfl (by decide) rfl dJ5_newCapacity_0f7a4_5 ?_
  refine r_iload_n C (k := 2) rfl rfl dJ5_newCapacity_0f7a4_6 ?_
  refine r_aload_n C (k := 1) rfl rfl dJ5_newCapacity_0f7a4_7 ?_
  refine r_getA C FJ4 1 iB hB ha hct (by decide) wm6_11 rfl dJ5_newCapacity_0f7a4_8 ?_
  refine r_ishl C dJ5_newCapacity_0f7a4_11 ?_
  refine r_st (st' := [.int (nI m)]) (by rw [sb_shl0] <;> rfl) ?_
  refine r_istore_n C (lo' := [(3, .int (nI m)), (2, .int (nI L)), (0, .ref b), (1, .int (nI m))]) rfl (by decide) rfl dJ5_newCapacity_0f7a4_12 ?_
  refine r_iload_n C (k := 0) rfl rfl dJ5_newCapacity_0f7a4_13 ?_
  refine r_iload_n C (k := 1) rfl rfl dJ5_newCapacity_0f7a4_14 ?_
  refine r_isub C dJ5_newCapacity_0f7a4_15 ?_
  refine r_st (st' := [.int (nI (m - L))]) (by rw [pk_sub (by omega)] <;> rfl) ?_
  refine r_istore C (lo' := [(4, .int (nI (m - L))), (3, .int (nI m)), (2, .int (nI L)), (0, .ref b), (1, .int (nI m))]) (by decide) rfl dJ5_newCapacity_0f7a4_16 ?_
  refine r_iload_n C (k := 2) rfl rfl dJ5_newCapacity_0f7a4_18 ?_
  refine r_iload C (k := 0) rfl dJ5_newCapacity_0f7a4_19 ?_
  refine r_iload_n C (k := 2) rfl rfl dJ5_newCapacity_0f7a4_21 ?_
  refine r_iconst C (v := 2) rfl dJ5_newCapacity_0f7a4_22 ?_
  refine r_aload_n C (k := 3) rfl rfl dJ5_newCapacity_0f7a4_23 ?_
  refine r_getA C FJ4 1 iB hB ha hct (by decide) wm6_11 rfl dJ5_newCapacity_0f7a4_24 ?_
  refine r_ishl C dJ5_newCapacity_0f7a4_27 ?_
  refine r_st (st' := [.int (nI 2), .int (nI L), .int (nI (m - L)), .int (nI L)]) (by rw [sb_shl0] <;> rfl) ?_
  refine r_iadd C dJ5_newCapacity_0f7a4_28 ?_
  refine r_st (st' := [.int (nI (L + 2)), .int (nI (m - L)), .int (nI L)]) (by rw [nI_add] <;> rfl) ?_
  refine r_callS C (d' := 1) [.int (nI L), .int (nI (m - L)), .int (nI (L + 2))] (c_newLen (show 0 < capF L m by omega) (show capF L m ≤ 100000 by omega) (by omega) (by omega)) myJ8_newLength_cabcc wm6_38 rfl (kR rfl) (by decide) (kR rfl) rfl dJ5_newCapacity_0f7a4_29 ?_
  refine r_istore C (lo' := [(5, .int (nI (capF L m))), (4, .int (nI (m - L))), (3, .int (nI m)), (2, .int (nI L)), (0, .ref b), (1, .int (nI m))]) (by decide) rfl dJ5_newCapacity_0f7a4_32 ?_
  refine r_iload C (k := 0) rfl dJ5_newCapacity_0f7a4_34 ?_
  refine r_ldcI C wm6_46 dJ5_newCapacity_0f7a4_36 ?_
  refine r_icmp_ne C (tgt := 51) rfl dJ5_newCapacity_0f7a4_38 (fun _ => ?_) (fun h => absurd h (fun z => by have := (nI_eq (by omega) (by decide)).mp (show nI (capF L m) = nI 2147483647 from z); omega))
  refine r_iload C (k := 0) rfl dJ5_newCapacity_0f7a4_51 ?_
  refine r_aload_n C (k := 4) rfl rfl dJ5_newCapacity_0f7a4_53 ?_
  refine r_getA C FJ4 1 iB hB ha hct (by decide) wm6_11 rfl dJ5_newCapacity_0f7a4_54 ?_
  refine r_ishr C dJ5_newCapacity_0f7a4_57 ?_
  refine r_st (st' := [.int (nI (capF L m))]) (by rw [sb_shr0] <;> rfl) ?_
  exact r_ireturn C dJ5_newCapacity_0f7a4_58
theorem c_copyOf {w : WP} (hY : gY w) {ct : CT} {iV iW : ID} {v L N : Nat} {f : Nat → Int32} (hV : wOk w iV) (hv : wAd w iV = v) (hcv : ct iV = .inl (wJ w, L, .inl f)) (hf : fB f) (hW9 : ¬ wOk w iW) (hL : L < N) (hN : N ≤ 1000) : gMe w 1 yJ7_copyOf_9075b cJ7_copyOf_9075b 3 (some (.array .byte)) [.ref v, .int (nI N)] ct (fun I ad v9 ct9 => I = one iW ∧ v9 = some (.ref (ad iW)) ∧ ct9 = upE ct iW (.inl (wJ w, N, .inl (va_cpy f (fun _ => 0) 0 0 L)))) 1 N := by
  refine gMe_of "java/util/Arrays" rfl (by decide) (kR rfl) fun X C hT => ?_
  show gU w X _ _ 0 [(0, .ref v), (1, .int (nI N))] []
  refine r_iload_n C (k := 1) rfl rfl dJ7_copyOf_9075b_0 ?_
  refine r_aload_n C (k := 0) rfl rfl dJ7_copyOf_9075b_1 ?_
  refine r_alenA C iV hV hv hcv dJ7_copyOf_9075b_2 ?_
  refine r_icmp_ne C (tgt := 14) rfl dJ7_copyOf_9075b_3 (fun _ => ?_) (fun h => absurd h (fun z => by have := (nI_eq (by omega) (by omega)).mp z; omega))
  refine r_iload_n C (k := 1) rfl rfl dJ7_copyOf_9075b_14 ?_
  refine r_newB C hY iW hW9 (nI_pos (by omega)) (nI_clamp (by omega)) (by omega) dJ7_copyOf_9075b_15 (hT.q (kR rfl) (show 0 + N ≤ N by omega)) fun q hag hbh C2 => ?_
  have hq9 : adU w iW q iW = q := if_pos rfl
  have hv2 : adU w iW q iV = v := (hag.1 iV hV).trans hv
  have hVW : iV ≠ iW := fun z => hW9 (z ▸ hV)
  refine r_astore_n C2 (lo' := [(2, .ref q), (0, .ref v), (1, .int (nI N))]) rfl (by decide) rfl dJ7_copyOf_9075b_17 ?_
  refine r_aload_n C2 (k := 1) rfl rfl dJ7_copyOf_9075b_18 ?_
  refine r_iconst C2 (v := 0) rfl dJ7_copyOf_9075b_19 ?_
  refine r_aload_n C2 (k := 0) rfl rfl dJ7_copyOf_9075b_20 ?_
  refine r_iconst C2 (v := 0) rfl dJ7_copyOf_9075b_21 ?_
  refine r_aload_n C2 (k := 1) rfl rfl dJ7_copyOf_9075b_22 ?_
  refine r_alenA C2 iV (Or.inl hV) hv2 (upE_n hVW |>.trans hcv) dJ7_copyOf_9075b_23 ?_
  refine r_iload_n C2 (k := 2) rfl rfl dJ7_copyOf_9075b_24 ?_
  refine r_mmin C2 (kR rfl) wm6_57 (kR rfl) dJ7_copyOf_9075b_25 ?_ (hq := hT.q (kR rfl) (show 0 + N ≤ N by omega))
  refine r_st (st' := [.int (nI L), .int 0, .ref q, .int 0, .ref v]) (by rw [if_neg (nI_nlt (by omega) (by omega))]) ?_
  have hs9 := gSrc_id C2 iV (Or.inl hV) (ct := upE ct iW (.inl (wJ w, N, .inl (fun _ => 0)))) ((upE_n hVW).trans hcv)
  rw [show wAd (wM w (one iW) (adU w iW q)) iV = v from hv2] at hs9
  refine r_acopyA C2 (kR rfl) hs9 hf iW (Or.inr rfl) hq9 upE_s wm6_58 0 0 L rfl rfl rfl (by decide) (by decide) (by omega) (by omega) (by omega) (kR rfl) dJ7_copyOf_9075b_28 ?_
  refine r_aload_n C2 (k := 0) rfl rfl dJ7_copyOf_9075b_31 ?_
  refine r_wid (c' := 1) (s' := N) (kR rfl) (show 0 + N ≤ N by omega) ?_
  refine r_eendA C2 (Or.inr ⟨_, rfl⟩) hag hbh ⟨rfl, by rw [hq9], ?_⟩ dJ7_copyOf_9075b_32
  funext z
  unfold upE
  split
  · rfl
  · rfl
theorem c_ensure {w : WP} (hS : gS w) (hY : gY w) {ct : CT} {iB iV iW : ID} {b m L : Nat} {T : List Nat} (hIn : sbIn w ct iB iV T L) (ha : wAd w iB = b) (hW9 : ¬ wOk w iW) (hD : gD w) (hm : m ≤ 400) : gMe w 3 yJ5_ensureCapacityInternal_d00df cJ5_ensureCapacityInternal_d00df 3 none [.ref b, .int (nI m)] ct (fun I ad v9 ct9 => v9 = none ∧ (∀ z, I z → z = iW) ∧ ∃ iC L', (iC = iV ∨ iC = iW) ∧ sbIn (wM w I ad) ct9 iB iC T L' ∧ m ≤ L' ∧ ∀ z, z ≠ iB → z ≠ iV → z ≠ iW → ct9 z = ct z) 1 1000 := by
  obtain ⟨hB, hV, hBV, hct, ⟨f, hcv, hf, hl⟩, hTL, hL⟩ := hIn
  have hBo := hD.2.1 iB hB
  have hVo := hD.2.1 iV hV
  obtain ⟨v, hv⟩ : ∃ v, wAd w iV = v := ⟨_, rfl⟩
  rw [hv] at hct
  refine gMe_of "java/lang/AbstractStringBuilder" rfl (by decide) (kR rfl) fun X C hT => ?_
  show gU w X _ _ 0 [(0, .ref b), (1, .int (nI m))] []
  refine r_aload_n C (k := 0) rfl rfl dJ5_ensureCapacityInternal_d00df_0 ?_
  refine r_getA C FJ4 0 iB hBo ha hct (by decide) wm6_10 rfl dJ5_ensureCapacityInternal_d00df_1 ?_
  refine r_alenA C iV hVo hv hcv dJ5_ensureCapacityInternal_d00df_4 ?_
  refine r_aload_n C (k := 0) rfl rfl dJ5_ensureCapacityInternal_d00df_5 ?_
  refine r_getA C FJ4 1 iB hBo ha hct (by decide) wm6_11 rfl dJ5_ensureCapacityInternal_d00df_6 ?_
  refine r_ishr C dJ5_ensureCapacityInternal_d00df_9 ?_
  refine r_st (st' := [.int (nI L)]) (by rw [sb_shr0] <;> rfl) ?_
  refine r_istore_n C (lo' := [(2, .int (nI L)), (0, .ref b), (1, .int (nI m))]) rfl (by decide) rfl dJ5_ensureCapacityInternal_d00df_10 ?_
  refine r_iload_n C (k := 2) rfl rfl dJ5_ensureCapacityInternal_d00df_11 ?_
  refine r_iload_n C (k := 0) rfl rfl dJ5_ensureCapacityInternal_d00df_12 ?_
  refine r_isub C dJ5_ensureCapacityInternal_d00df_13 ?_
  refine r_if_le C (tgt := 38) rfl dJ5_ensureCapacityInternal_d00df_14 (fun h9 => ?_) (fun h9 => ?_)
  · have hge : m ≤ L := by
      rcases Nat.lt_or_ge L m with h1 | h1
      · exfalso
        rw [pk_sub (by omega)] at h9
        exact nI_nle (by omega) (by omega) h9
      · exact h1
    refine r_wid (c' := 1) (s' := 1000) (kR rfl) (kR rfl) ?_
    refine r_eend0V C ⟨rfl, fun z hz => hz.elim, iV, L, Or.inl rfl, ?_, by omega, fun _ _ _ _ => rfl⟩ dJ5_ensureCapacityInternal_d00df_38
    rw [wM_Z]
    exact ⟨hB, hV, hBV, by rw [hct, hv], ⟨f, hcv, hf, hl⟩, hTL, hL⟩
  · have hlt : L < m := by
      rcases Nat.lt_or_ge L m with h1 | h1
      · exact h1
      · exfalso
        apply h9
        rw [Int32.le_iff_toInt_le, pk_sub_toInt (by omega) (by omega), Int32.toInt_zero]
        omega
    have hq := capF_le hlt hm
    refine r_aload_n C (k := 1) rfl rfl dJ5_ensureCapacityInternal_d00df_17 ?_
    refine r_aload_n C (k := 1) rfl rfl dJ5_ensureCapacityInternal_d00df_18 ?_
    refine r_getA C FJ4 0 iB hBo ha hct (by decide) wm6_10 rfl dJ5_ensureCapacityInternal_d00df_19 ?_
    refine r_aload_n C (k := 1) rfl rfl dJ5_ensureCapacityInternal_d00df_22 ?_
    refine r_iload_n C (k := 2) rfl rfl dJ5_ensureCapacityInternal_d00df_23 ?_
    refine r_callB C (d' := 2) [.int (nI m)] (c_newCap hBo ha hct hVo hv hcv hlt hm) mbJ5_newCapacity_0f7a4 ((hS.e C).imp fun _ _ _ h => h.2.2.2.2 _ (by decide)) wm6_34 (recB hBo ha hct) rfl (kR rfl) (by decide) (kR rfl) rfl dJ5_ensureCapacityInternal_d00df_24 ?_
    refine r_aload_n C (k := 1) rfl rfl dJ5_ensureCapacityInternal_d00df_27 ?_
    refine r_getA C FJ4 1 iB hBo ha hct (by decide) wm6_11 rfl dJ5_ensureCapacityInternal_d00df_28 ?_
    refine r_ishl C dJ5_ensureCapacityInternal_d00df_31 ?_
    refine r_st (st' := [.int (nI (capF L m)), .ref v, .ref b]) (by rw [sb_shl0] <;> rfl) ?_
    refine r_geS C (d' := 1) [.ref v, .int (nI (capF L m))] (c_copyOf hY (iV := iV) (iW := iW) hVo hv hcv hf hW9 hq.2.1 hq.2.2) myJ7_copyOf_9075b wm6_47 rfl (kR rfl) (by decide) (kR rfl) rfl dJ5_ensureCapacityInternal_d00df_32 (hT.q (kR rfl) (show 0 + capF L m ≤ 1000 by omega)) ?_
    rintro I ad v9 ct9 ⟨rfl, rfl, rfl⟩ hag hbh C2
    show gU _ X _ _ 35 _ [.ref (ad iW), .ref b]
    have ha2 : ad iB = b := (hag.1 iB hBo).trans ha
    have hBW : iB ≠ iW := fun z => hW9 (z ▸ hBo)
    refine r_putA C2 FJ4 0 iB (Or.inl hB) ha2 (fs := [.ref v, .int 0, .int 0, .int (nI T.length)]) ((upE_n hBW).trans hct) (by decide) wm6_10 rfl rfl rfl (kR rfl) dJ5_ensureCapacityInternal_d00df_35 ?_
    refine r_wid (c' := 1) (s' := 1000) (kR rfl) (show 0 + capF L m ≤ 1000 by omega) ?_
    refine r_eendV C2 hag hbh ⟨rfl, fun z hz => hz, iW, capF L m, Or.inr rfl, ⟨Or.inl hB, Or.inr rfl, hBW, upE_s, ⟨va_cpy f (fun _ => 0) 0 0 L, ?_, fB_cpy hf fB0 0 0 L, ?_⟩, by omega, hq.2.2⟩, hq.1, fun z h1 h2 h3 => ?_⟩ dJ5_ensureCapacityInternal_d00df_38
    · rw [upE_n hBW.symm, upE_s]
      rfl
    · intro k hk
      rw [pk_cpy_in (by omega) (by omega)]
      exact (congrArg f (by omega)).trans (hl k hk)
    · rw [upE_n h1, upE_n h3]
