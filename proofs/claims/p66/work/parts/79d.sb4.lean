/-! ===== sb4: the text out of a builder; texts that were made ===== -/
/-- a text that was made: the String's id, its row's -/
def stIn (w : WP) (ct : CT) (iS iX : ID) (T : List Nat) : Prop := wOk w iS ∧ wOk w iX ∧ ct iS = .inr (8, [.ref (wAd w iX), .int 0, .int 0, .int 0]) ∧ ∃ g, ct iX = .inl (wJ w, T.length, .inl g) ∧ lat T g ∧ T.length ≤ 1000 ∧ ∀ c ∈ T, c < 128
theorem recS {w : WP} {ct : CT} {iB : ID} {b : Nat} (hB : wOk w iB) (ha : wAd w iB = b) {fs : List Value} (hct : ct iB = .inr (8, fs)) : gRc w ct b "java/lang/String" := ⟨iB, 8, fs, _, hB, ha, hct, rfl, rfl⟩
theorem chr_c : ∀ c : Fin 128, (((nI c.1) &&& 255).toUInt32 % 65536).toInt32 = nI c.1 ∧ narrow .char (.int (nI c.1)) = .int (nI c.1) := by decide +kernel
theorem getD_mem {T : List Nat} {k : Nat} (h : k < T.length) : T.getD k 0 ∈ T := by
  rw [List.getD_eq_getElem?_getD, List.getElem?_eq_getElem h]
  exact List.getElem_mem h
theorem r_putRA {w : WP} {X : CX} {cc : ByteArray} {own : String} {ret : Option FieldType} {d nL : Nat} {Q : QT} {ct : CT} {pc : Nat} {lo : List (Nat × Value)} {st : List Value} (C : gC w X cc own ret d nL) {mc ms : Nat} (hT9 : gTn X mc ms) {ci N idx : Nat} {cl : String} {T : u_T} {ty : Nat → FieldType} (F : gF ci cl T N ty) (k : Nat) (i : ID) (hi : wFr w i) {a : Nat} (ha : wAd w i = a) {v : Value} {fs : List Value} (hct : ct i = .inr (ci, fs)) (hk : k < N) (hlink : Cond.fieldLink own idx (T k).1 (T k).2.1 (T k).2.2.1 ∈ lw_tbl) (hfin : (T k).2.2.2 = true) (hdecl : (T k).1 = own) (hn : narrow (ty k) v = v) (hfit : fits (ty k) v = true) (hlen : k < fs.length) (hd : decode cc pc = .ok (.putfield idx, 3)) (kk : gU w X Q (upE ct i (.inr (ci, fs.set k v))) (pc + 3) lo st) : gU w X Q ct pc lo (v :: .ref a :: st) :=
  r_putV C hT9 F k i hi ha hct hk hlink hfin hdecl hn hfit hlen hd (fun _ _ => rfl) kk
theorem wx6_112 : Cond.sameMethod "java/lang/AbstractStringBuilder" "java/lang/AbstractStringBuilder" "length" "()I" ∈ lw_tbl := in_t6 (List.mem_of_getElem? (i := 112) rfl)
theorem wx7_31 : Cond.sameMethod "java/lang/AbstractStringBuilder" "java/lang/AbstractStringBuilder" "charAt" "(I)C" ∈ lw_tbl := in_t7 (List.mem_of_getElem? (i := 31) rfl)
theorem dJ5_getValue_6d5f1_0 : decode cJ5_getValue_6d5f1 0 = .ok (.aload_n 0, 1) := by decide +kernel
theorem dJ5_getValue_6d5f1_1 : decode cJ5_getValue_6d5f1 1 = .ok (.getfield 15, 3) := by decide +kernel
theorem dJ5_getValue_6d5f1_4 : decode cJ5_getValue_6d5f1 4 = .ok (.areturn, 1) := by decide +kernel
theorem dJ5_length_8abf5_0 : decode cJ5_length_8abf5 0 = .ok (.aload_n 0, 1) := by decide +kernel
theorem dJ5_length_8abf5_1 : decode cJ5_length_8abf5 1 = .ok (.getfield 79, 3) := by decide +kernel
theorem dJ5_length_8abf5_4 : decode cJ5_length_8abf5 4 = .ok (.ireturn, 1) := by decide +kernel
theorem dJ4_length_8abf5_0 : decode cJ4_length_8abf5 0 = .ok (.aload_n 0, 1) := by decide +kernel
theorem dJ4_length_8abf5_1 : decode cJ4_length_8abf5 1 = .ok (.invokespecial 343, 3) := by decide +kernel
theorem dJ4_length_8abf5_4 : decode cJ4_length_8abf5 4 = .ok (.ireturn, 1) := by decide +kernel
theorem dJ7_copyOfRange_39247_0 : decode cJ7_copyOfRange_39247 0 = .ok (.iload_n 1, 1) := by decide +kernel
theorem dJ7_copyOfRange_39247_1 : decode cJ7_copyOfRange_39247 1 = .ok (.ifCond .ne 9, 3) := by decide +kernel
theorem dJ7_copyOfRange_39247_4 : decode cJ7_copyOfRange_39247 4 = .ok (.iload_n 2, 1) := by decide +kernel
theorem dJ7_copyOfRange_39247_5 : decode cJ7_copyOfRange_39247 5 = .ok (.aload_n 0, 1) := by decide +kernel
theorem dJ7_copyOfRange_39247_6 : decode cJ7_copyOfRange_39247 6 = .ok (.arraylength, 1) := by decide +kernel
theorem dJ7_copyOfRange_39247_7 : decode cJ7_copyOfRange_39247 7 = .ok (.if_icmp .eq 10, 3) := by decide +kernel
theorem dJ7_copyOfRange_39247_10 : decode cJ7_copyOfRange_39247 10 = .ok (.aload_n 0, 1) := by decide +kernel
theorem dJ7_copyOfRange_39247_11 : decode cJ7_copyOfRange_39247 11 = .ok (.iload_n 1, 1) := by decide +kernel
theorem dJ7_copyOfRange_39247_12 : decode cJ7_copyOfRange_39247 12 = .ok (.iload_n 2, 1) := by decide +kernel
theorem dJ7_copyOfRange_39247_13 : decode cJ7_copyOfRange_39247 13 = .ok (.invokestatic 339, 3) := by decide +kernel
theorem dJ7_copyOfRange_39247_16 : decode cJ7_copyOfRange_39247 16 = .ok (.areturn, 1) := by decide +kernel
theorem dJ7_copyOfRange_39247_17 : decode cJ7_copyOfRange_39247 17 = .ok (.aload_n 0, 1) := by decide +kernel
theorem dJ7_copyOfRange_39247_18 : decode cJ7_copyOfRange_39247 18 = .ok (.invokevirtual 310, 3) := by decide +kernel
theorem dJ7_copyOfRange_39247_21 : decode cJ7_copyOfRange_39247 21 = .ok (.checkcast 311, 3) := by decide +kernel
theorem dJ7_copyOfRange_39247_24 : decode cJ7_copyOfRange_39247 24 = .ok (.areturn, 1) := by decide +kernel
theorem dJ7_checkLength_df160_0 : decode cJ7_checkLength_df160 0 = .ok (.iload_n 1, 1) := by decide +kernel
theorem dJ7_checkLength_df160_1 : decode cJ7_checkLength_df160 1 = .ok (.iload_n 0, 1) := by decide +kernel
theorem dJ7_checkLength_df160_2 : decode cJ7_checkLength_df160 2 = .ok (.if_icmp .ge 35, 3) := by decide +kernel
theorem dJ7_checkLength_df160_5 : decode cJ7_checkLength_df160 5 = .ok (.new 43, 3) := by decide +kernel
theorem dJ7_checkLength_df160_8 : decode cJ7_checkLength_df160 8 = .ok (.dup, 1) := by decide +kernel
theorem dJ7_checkLength_df160_9 : decode cJ7_checkLength_df160 9 = .ok (.new 45, 3) := by decide +kernel
theorem dJ7_checkLength_df160_12 : decode cJ7_checkLength_df160 12 = .ok (.dup, 1) := by decide +kernel
theorem dJ7_checkLength_df160_13 : decode cJ7_checkLength_df160 13 = .ok (.invokespecial 47, 3) := by decide +kernel
theorem dJ7_checkLength_df160_16 : decode cJ7_checkLength_df160 16 = .ok (.iload_n 0, 1) := by decide +kernel
theorem dJ7_checkLength_df160_17 : decode cJ7_checkLength_df160 17 = .ok (.invokevirtual 54, 3) := by decide +kernel
theorem dJ7_checkLength_df160_20 : decode cJ7_checkLength_df160 20 = .ok (.ldc_w 337, 3) := by decide +kernel
theorem dJ7_checkLength_df160_23 : decode cJ7_checkLength_df160 23 = .ok (.invokevirtual 50, 3) := by decide +kernel
theorem dJ7_checkLength_df160_26 : decode cJ7_checkLength_df160 26 = .ok (.iload_n 1, 1) := by decide +kernel
theorem dJ7_checkLength_df160_27 : decode cJ7_checkLength_df160 27 = .ok (.invokevirtual 54, 3) := by decide +kernel
theorem dJ7_checkLength_df160_30 : decode cJ7_checkLength_df160 30 = .ok (.invokevirtual 61, 3) := by decide +kernel
theorem dJ7_checkLength_df160_33 : decode cJ7_checkLength_df160 33 = .ok (.invokespecial 65, 3) := by decide +kernel
theorem dJ7_checkLength_df160_36 : decode cJ7_checkLength_df160 36 = .ok (.athrow, 1) := by decide +kernel
theorem dJ7_checkLength_df160_37 : decode cJ7_checkLength_df160 37 = .ok (.return_, 1) := by decide +kernel
theorem dJ7_copyOfRangeByte_39247_0 : decode cJ7_copyOfRangeByte_39247 0 = .ok (.iload_n 1, 1) := by decide +kernel
theorem dJ7_copyOfRangeByte_39247_1 : decode cJ7_copyOfRangeByte_39247 1 = .ok (.iload_n 2, 1) := by decide +kernel
theorem dJ7_copyOfRangeByte_39247_2 : decode cJ7_copyOfRangeByte_39247 2 = .ok (.invokestatic 343, 3) := by decide +kernel
theorem dJ7_copyOfRangeByte_39247_5 : decode cJ7_copyOfRangeByte_39247 5 = .ok (.iload_n 2, 1) := by decide +kernel
theorem dJ7_copyOfRangeByte_39247_6 : decode cJ7_copyOfRangeByte_39247 6 = .ok (.iload_n 1, 1) := by decide +kernel
theorem dJ7_copyOfRangeByte_39247_7 : decode cJ7_copyOfRangeByte_39247 7 = .ok (.isub, 1) := by decide +kernel
theorem dJ7_copyOfRangeByte_39247_8 : decode cJ7_copyOfRangeByte_39247 8 = .ok (.istore_n 3, 1) := by decide +kernel
theorem dJ7_copyOfRangeByte_39247_9 : decode cJ7_copyOfRangeByte_39247 9 = .ok (.iload_n 3, 1) := by decide +kernel
theorem dJ7_copyOfRangeByte_39247_10 : decode cJ7_copyOfRangeByte_39247 10 = .ok (.newarray .byte, 2) := by decide +kernel
theorem dJ7_copyOfRangeByte_39247_12 : decode cJ7_copyOfRangeByte_39247 12 = .ok (.astore 4, 2) := by decide +kernel
theorem dJ7_copyOfRangeByte_39247_14 : decode cJ7_copyOfRangeByte_39247 14 = .ok (.aload_n 0, 1) := by decide +kernel
theorem dJ7_copyOfRangeByte_39247_15 : decode cJ7_copyOfRangeByte_39247 15 = .ok (.iload_n 1, 1) := by decide +kernel
theorem dJ7_copyOfRangeByte_39247_16 : decode cJ7_copyOfRangeByte_39247 16 = .ok (.aload 4, 2) := by decide +kernel
theorem dJ7_copyOfRangeByte_39247_18 : decode cJ7_copyOfRangeByte_39247 18 = .ok (.iconst 0, 1) := by decide +kernel
theorem dJ7_copyOfRangeByte_39247_19 : decode cJ7_copyOfRangeByte_39247 19 = .ok (.aload_n 0, 1) := by decide +kernel
theorem dJ7_copyOfRangeByte_39247_20 : decode cJ7_copyOfRangeByte_39247 20 = .ok (.arraylength, 1) := by decide +kernel
theorem dJ7_copyOfRangeByte_39247_21 : decode cJ7_copyOfRangeByte_39247 21 = .ok (.iload_n 1, 1) := by decide +kernel
theorem dJ7_copyOfRangeByte_39247_22 : decode cJ7_copyOfRangeByte_39247 22 = .ok (.isub, 1) := by decide +kernel
theorem dJ7_copyOfRangeByte_39247_23 : decode cJ7_copyOfRangeByte_39247 23 = .ok (.iload_n 3, 1) := by decide +kernel
theorem dJ7_copyOfRangeByte_39247_24 : decode cJ7_copyOfRangeByte_39247 24 = .ok (.invokestatic 304, 3) := by decide +kernel
theorem dJ7_copyOfRangeByte_39247_27 : decode cJ7_copyOfRangeByte_39247 27 = .ok (.invokestatic 150, 3) := by decide +kernel
theorem dJ7_copyOfRangeByte_39247_30 : decode cJ7_copyOfRangeByte_39247 30 = .ok (.aload 4, 2) := by decide +kernel
theorem dJ7_copyOfRangeByte_39247_32 : decode cJ7_copyOfRangeByte_39247 32 = .ok (.areturn, 1) := by decide +kernel
theorem dJ0_init_db425_0 : decode cJ0_init_db425 0 = .ok (.aload_n 0, 1) := by decide +kernel
theorem dJ0_init_db425_1 : decode cJ0_init_db425 1 = .ok (.invokespecial 1, 3) := by decide +kernel
theorem dJ0_init_db425_4 : decode cJ0_init_db425 4 = .ok (.aload_n 1, 1) := by decide +kernel
theorem dJ0_init_db425_5 : decode cJ0_init_db425 5 = .ok (.invokevirtual 552, 3) := by decide +kernel
theorem dJ0_init_db425_8 : decode cJ0_init_db425 8 = .ok (.astore_n 3, 1) := by decide +kernel
theorem dJ0_init_db425_9 : decode cJ0_init_db425 9 = .ok (.aload_n 1, 1) := by decide +kernel
theorem dJ0_init_db425_10 : decode cJ0_init_db425 10 = .ok (.invokevirtual 549, 3) := by decide +kernel
theorem dJ0_init_db425_13 : decode cJ0_init_db425 13 = .ok (.istore 4, 2) := by decide +kernel
theorem dJ0_init_db425_15 : decode cJ0_init_db425 15 = .ok (.aload_n 1, 1) := by decide +kernel
theorem dJ0_init_db425_16 : decode cJ0_init_db425 16 = .ok (.invokevirtual 1047, 3) := by decide +kernel
theorem dJ0_init_db425_19 : decode cJ0_init_db425 19 = .ok (.ifCond .eq 22, 3) := by decide +kernel
theorem dJ0_init_db425_22 : decode cJ0_init_db425 22 = .ok (.aload_n 0, 1) := by decide +kernel
theorem dJ0_init_db425_23 : decode cJ0_init_db425 23 = .ok (.iconst 0, 1) := by decide +kernel
theorem dJ0_init_db425_24 : decode cJ0_init_db425 24 = .ok (.putfield 15, 3) := by decide +kernel
theorem dJ0_init_db425_27 : decode cJ0_init_db425 27 = .ok (.aload_n 0, 1) := by decide +kernel
theorem dJ0_init_db425_28 : decode cJ0_init_db425 28 = .ok (.aload_n 3, 1) := by decide +kernel
theorem dJ0_init_db425_29 : decode cJ0_init_db425 29 = .ok (.iconst 0, 1) := by decide +kernel
theorem dJ0_init_db425_30 : decode cJ0_init_db425 30 = .ok (.iload 4, 2) := by decide +kernel
theorem dJ0_init_db425_32 : decode cJ0_init_db425 32 = .ok (.invokestatic 54, 3) := by decide +kernel
theorem dJ0_init_db425_35 : decode cJ0_init_db425 35 = .ok (.putfield 9, 3) := by decide +kernel
theorem dJ0_init_db425_38 : decode cJ0_init_db425 38 = .ok (.goto 59, 3) := by decide +kernel
theorem dJ0_init_db425_41 : decode cJ0_init_db425 41 = .ok (.getstatic 38, 3) := by decide +kernel
theorem dJ0_init_db425_44 : decode cJ0_init_db425 44 = .ok (.ifCond .eq 35, 3) := by decide +kernel
theorem dJ0_init_db425_47 : decode cJ0_init_db425 47 = .ok (.aload_n 1, 1) := by decide +kernel
theorem dJ0_init_db425_48 : decode cJ0_init_db425 48 = .ok (.getfield 1048, 3) := by decide +kernel
theorem dJ0_init_db425_51 : decode cJ0_init_db425 51 = .ok (.ifCond .eq 28, 3) := by decide +kernel
theorem dJ0_init_db425_54 : decode cJ0_init_db425 54 = .ok (.aload_n 0, 1) := by decide +kernel
theorem dJ0_init_db425_55 : decode cJ0_init_db425 55 = .ok (.aload_n 3, 1) := by decide +kernel
theorem dJ0_init_db425_56 : decode cJ0_init_db425 56 = .ok (.iconst 0, 1) := by decide +kernel
theorem dJ0_init_db425_57 : decode cJ0_init_db425 57 = .ok (.iload 4, 2) := by decide +kernel
theorem dJ0_init_db425_59 : decode cJ0_init_db425 59 = .ok (.invokestatic 1051, 3) := by decide +kernel
theorem dJ0_init_db425_62 : decode cJ0_init_db425 62 = .ok (.putfield 9, 3) := by decide +kernel
theorem dJ0_init_db425_65 : decode cJ0_init_db425 65 = .ok (.aload_n 0, 1) := by decide +kernel
theorem dJ0_init_db425_66 : decode cJ0_init_db425 66 = .ok (.aload_n 0, 1) := by decide +kernel
theorem dJ0_init_db425_67 : decode cJ0_init_db425 67 = .ok (.getfield 9, 3) := by decide +kernel
theorem dJ0_init_db425_70 : decode cJ0_init_db425 70 = .ok (.iload 4, 2) := by decide +kernel
theorem dJ0_init_db425_72 : decode cJ0_init_db425 72 = .ok (.invokestatic 47, 3) := by decide +kernel
theorem dJ0_init_db425_75 : decode cJ0_init_db425 75 = .ok (.putfield 15, 3) := by decide +kernel
theorem dJ0_init_db425_78 : decode cJ0_init_db425 78 = .ok (.return_, 1) := by decide +kernel
theorem dJ0_init_db425_79 : decode cJ0_init_db425 79 = .ok (.aload_n 0, 1) := by decide +kernel
theorem dJ0_init_db425_80 : decode cJ0_init_db425 80 = .ok (.iconst 1, 1) := by decide +kernel
theorem dJ0_init_db425_81 : decode cJ0_init_db425 81 = .ok (.putfield 15, 3) := by decide +kernel
theorem dJ0_init_db425_84 : decode cJ0_init_db425 84 = .ok (.aload_n 0, 1) := by decide +kernel
theorem dJ0_init_db425_85 : decode cJ0_init_db425 85 = .ok (.aload_n 3, 1) := by decide +kernel
theorem dJ0_init_db425_86 : decode cJ0_init_db425 86 = .ok (.iconst 0, 1) := by decide +kernel
theorem dJ0_init_db425_87 : decode cJ0_init_db425 87 = .ok (.iload 4, 2) := by decide +kernel
theorem dJ0_init_db425_89 : decode cJ0_init_db425 89 = .ok (.iconst 1, 1) := by decide +kernel
theorem dJ0_init_db425_90 : decode cJ0_init_db425 90 = .ok (.ishl, 1) := by decide +kernel
theorem dJ0_init_db425_91 : decode cJ0_init_db425 91 = .ok (.invokestatic 54, 3) := by decide +kernel
theorem dJ0_init_db425_94 : decode cJ0_init_db425 94 = .ok (.putfield 9, 3) := by decide +kernel
theorem dJ0_init_db425_97 : decode cJ0_init_db425 97 = .ok (.return_, 1) := by decide +kernel
theorem dJ0_init_81219_0 : decode cJ0_init_81219 0 = .ok (.aload_n 0, 1) := by decide +kernel
theorem dJ0_init_81219_1 : decode cJ0_init_81219 1 = .ok (.aload_n 1, 1) := by decide +kernel
theorem dJ0_init_81219_2 : decode cJ0_init_81219 2 = .ok (.aconst_null, 1) := by decide +kernel
theorem dJ0_init_81219_3 : decode cJ0_init_81219 3 = .ok (.invokespecial 489, 3) := by decide +kernel
theorem dJ0_init_81219_6 : decode cJ0_init_81219 6 = .ok (.return_, 1) := by decide +kernel
theorem dJ4_toString_0e30d_0 : decode cJ4_toString_0e30d 0 = .ok (.new 18, 3) := by decide +kernel
theorem dJ4_toString_0e30d_3 : decode cJ4_toString_0e30d 3 = .ok (.dup, 1) := by decide +kernel
theorem dJ4_toString_0e30d_4 : decode cJ4_toString_0e30d 4 = .ok (.aload_n 0, 1) := by decide +kernel
theorem dJ4_toString_0e30d_5 : decode cJ4_toString_0e30d 5 = .ok (.invokespecial 137, 3) := by decide +kernel
theorem dJ4_toString_0e30d_8 : decode cJ4_toString_0e30d 8 = .ok (.areturn, 1) := by decide +kernel
theorem dJ5_charAt_5068e_0 : decode cJ5_charAt_5068e 0 = .ok (.aload_n 0, 1) := by decide +kernel
theorem dJ5_charAt_5068e_1 : decode cJ5_charAt_5068e 1 = .ok (.getfield 22, 3) := by decide +kernel
theorem dJ5_charAt_5068e_4 : decode cJ5_charAt_5068e 4 = .ok (.istore_n 2, 1) := by decide +kernel
theorem dJ5_charAt_5068e_5 : decode cJ5_charAt_5068e 5 = .ok (.aload_n 0, 1) := by decide +kernel
theorem dJ5_charAt_5068e_6 : decode cJ5_charAt_5068e 6 = .ok (.getfield 15, 3) := by decide +kernel
theorem dJ5_charAt_5068e_9 : decode cJ5_charAt_5068e 9 = .ok (.astore_n 3, 1) := by decide +kernel
theorem dJ5_charAt_5068e_10 : decode cJ5_charAt_5068e 10 = .ok (.aload_n 0, 1) := by decide +kernel
theorem dJ5_charAt_5068e_11 : decode cJ5_charAt_5068e 11 = .ok (.getfield 79, 3) := by decide +kernel
theorem dJ5_charAt_5068e_14 : decode cJ5_charAt_5068e 14 = .ok (.aload_n 3, 1) := by decide +kernel
theorem dJ5_charAt_5068e_15 : decode cJ5_charAt_5068e 15 = .ok (.arraylength, 1) := by decide +kernel
theorem dJ5_charAt_5068e_16 : decode cJ5_charAt_5068e 16 = .ok (.iload_n 2, 1) := by decide +kernel
theorem dJ5_charAt_5068e_17 : decode cJ5_charAt_5068e 17 = .ok (.ishr, 1) := by decide +kernel
theorem dJ5_charAt_5068e_18 : decode cJ5_charAt_5068e 18 = .ok (.invokestatic 138, 3) := by decide +kernel
theorem dJ5_charAt_5068e_21 : decode cJ5_charAt_5068e 21 = .ok (.istore 4, 2) := by decide +kernel
theorem dJ5_charAt_5068e_23 : decode cJ5_charAt_5068e 23 = .ok (.iload_n 1, 1) := by decide +kernel
theorem dJ5_charAt_5068e_24 : decode cJ5_charAt_5068e 24 = .ok (.iload 4, 2) := by decide +kernel
theorem dJ5_charAt_5068e_26 : decode cJ5_charAt_5068e 26 = .ok (.invokestatic 144, 3) := by decide +kernel
theorem dJ5_charAt_5068e_29 : decode cJ5_charAt_5068e 29 = .ok (.iload_n 2, 1) := by decide +kernel
theorem dJ5_charAt_5068e_30 : decode cJ5_charAt_5068e 30 = .ok (.ifCond .ne 12, 3) := by decide +kernel
theorem dJ5_charAt_5068e_33 : decode cJ5_charAt_5068e 33 = .ok (.aload_n 3, 1) := by decide +kernel
theorem dJ5_charAt_5068e_34 : decode cJ5_charAt_5068e 34 = .ok (.iload_n 1, 1) := by decide +kernel
theorem dJ5_charAt_5068e_35 : decode cJ5_charAt_5068e 35 = .ok (.baload, 1) := by decide +kernel
theorem dJ5_charAt_5068e_36 : decode cJ5_charAt_5068e 36 = .ok (.sipush 255, 3) := by decide +kernel
theorem dJ5_charAt_5068e_39 : decode cJ5_charAt_5068e 39 = .ok (.iand, 1) := by decide +kernel
theorem dJ5_charAt_5068e_40 : decode cJ5_charAt_5068e 40 = .ok (.i2c, 1) := by decide +kernel
theorem dJ5_charAt_5068e_41 : decode cJ5_charAt_5068e 41 = .ok (.ireturn, 1) := by decide +kernel
theorem dJ5_charAt_5068e_42 : decode cJ5_charAt_5068e 42 = .ok (.aload_n 3, 1) := by decide +kernel
theorem dJ5_charAt_5068e_43 : decode cJ5_charAt_5068e 43 = .ok (.iload_n 1, 1) := by decide +kernel
theorem dJ5_charAt_5068e_44 : decode cJ5_charAt_5068e 44 = .ok (.invokestatic 148, 3) := by decide +kernel
theorem dJ5_charAt_5068e_47 : decode cJ5_charAt_5068e 47 = .ok (.ireturn, 1) := by decide +kernel
theorem dJ4_charAt_5068e_0 : decode cJ4_charAt_5068e 0 = .ok (.aload_n 0, 1) := by decide +kernel
theorem dJ4_charAt_5068e_1 : decode cJ4_charAt_5068e 1 = .ok (.iload_n 1, 1) := by decide +kernel
theorem dJ4_charAt_5068e_2 : decode cJ4_charAt_5068e 2 = .ok (.invokespecial 329, 3) := by decide +kernel
theorem dJ4_charAt_5068e_5 : decode cJ4_charAt_5068e 5 = .ok (.ireturn, 1) := by decide +kernel
theorem mbJ5_getValue_6d5f1 : gYB yJ5_getValue_6d5f1 cJ5_getValue_6d5f1 1 (Option.some (Jvm.ClassFile.FieldType.array Jvm.ClassFile.FieldType.byte)) 0 := ⟨wm6_109, wm1_2, ⟨by decide, by decide, by decide +kernel⟩, wm6_106⟩
theorem muJ5_length_8abf5 : gYU "java/lang/StringBuilder" yJ5_length_8abf5 cJ5_length_8abf5 1 (Option.some Jvm.ClassFile.FieldType.int) 0 := ⟨wm6_117, wm1_2, ⟨by decide, by decide +kernel⟩, wm6_111, wx6_112, wx6_22⟩
theorem moJ5_length_8abf5 : gYO "java/lang/StringBuilder" "java/lang/AbstractStringBuilder" yJ5_length_8abf5 yJ4_length_8abf5 cJ4_length_8abf5 1 (Option.some Jvm.ClassFile.FieldType.int) 0 := ⟨wm6_115, wm1_3, ⟨by decide, by decide, by decide +kernel⟩, ⟨_, _, _, wm6_117⟩, wm6_111, wx6_112, wm6_113, wm6_114⟩
theorem miJ0_init_db425 : gYI yJ0_init_db425 cJ0_init_db425 5 2 := ⟨wm6_103, wm1_4, ⟨by decide, by decide, by decide +kernel⟩, wm6_102, rfl⟩
theorem miJ0_init_81219 : gYI yJ0_init_81219 cJ0_init_81219 2 1 := ⟨wm6_100, wm1_4, ⟨by decide, by decide, by decide +kernel⟩, wm6_99, rfl⟩
theorem mbJ4_toString_0e30d : gYB yJ4_toString_0e30d cJ4_toString_0e30d 1 (Option.some (Jvm.ClassFile.FieldType.object "java/lang/String")) 0 := ⟨wm6_95, wm1_3, ⟨by decide, by decide, by decide +kernel⟩, wm6_93⟩
theorem muJ5_charAt_5068e : gYU "java/lang/StringBuilder" yJ5_charAt_5068e cJ5_charAt_5068e 5 (Option.some Jvm.ClassFile.FieldType.char) 1 := ⟨wm6_225, wm1_2, ⟨by decide, by decide +kernel⟩, wm6_224, wx7_31, wx6_22⟩
theorem mbJ4_charAt_5068e : gYB yJ4_charAt_5068e cJ4_charAt_5068e 2 (Option.some Jvm.ClassFile.FieldType.char) 1 := ⟨wm6_222, wm1_3, ⟨by decide, by decide, by decide +kernel⟩, wm6_220⟩
theorem c_sbV {w : WP} {ct : CT} {iB : ID} {b v n : Nat} (hB : wOk w iB) (ha : wAd w iB = b) (hct : ct iB = sbC v n) : gM w 0 yJ5_getValue_6d5f1 cJ5_getValue_6d5f1 1 (some (.array .byte)) [.ref b] ct (some (.ref v)) ct := by
  refine gM_of "java/lang/AbstractStringBuilder" rfl (by decide) (kR rfl) fun X C => ?_
  show gV w X _ _ 0 [(0, .ref b)] []
  refine r_aload_n C (k := 0) rfl rfl dJ5_getValue_6d5f1_0 ?_
  refine r_getA C FJ4 0 iB hB ha hct (by decide) wm6_10 rfl dJ5_getValue_6d5f1_1 ?_
  exact r_areturn C (Or.inr ⟨_, rfl⟩) dJ5_getValue_6d5f1_4
theorem c_sb5l {w : WP} {ct : CT} {iB : ID} {b v n : Nat} (hB : wOk w iB) (ha : wAd w iB = b) (hct : ct iB = sbC v n) : gM w 0 yJ5_length_8abf5 cJ5_length_8abf5 1 (some .int) [.ref b] ct (some (.int (nI n))) ct := by
  refine gM_of "java/lang/AbstractStringBuilder" rfl (by decide) (kR rfl) fun X C => ?_
  show gV w X _ _ 0 [(0, .ref b)] []
  refine r_aload_n C (k := 0) rfl rfl dJ5_length_8abf5_0 ?_
  refine r_getA C FJ4 3 iB hB ha hct (by decide) wm6_13 rfl dJ5_length_8abf5_1 ?_
  exact r_ireturn C dJ5_length_8abf5_4
theorem c_sb4l {w : WP} {ct : CT} {iB : ID} {b v n : Nat} (hB : wOk w iB) (ha : wAd w iB = b) (hct : ct iB = sbC v n) : gM w 1 yJ4_length_8abf5 cJ4_length_8abf5 1 (some .int) [.ref b] ct (some (.int (nI n))) ct := by
  refine gM_of "java/lang/StringBuilder" rfl (by decide) (kR rfl) fun X C => ?_
  show gV w X _ _ 0 [(0, .ref b)] []
  refine r_aload_n C (k := 0) rfl rfl dJ4_length_8abf5_0 ?_
  refine r_callU C (d' := 0) [] iB hB ha hct rfl (c_sb5l hB ha hct) muJ5_length_8abf5 rfl rfl wm6_116 rfl (kR rfl) (by decide) (kR rfl) rfl dJ4_length_8abf5_1 ?_
  exact r_ireturn C dJ4_length_8abf5_4
theorem c_ckLen {w : WP} {ct : CT} {n : Nat} (hn : n ≤ 1000) : gM w 0 yJ7_checkLength_df160 cJ7_checkLength_df160 2 none [.int 0, .int (nI n)] ct none ct := by
  refine gM_of "java/util/Arrays" rfl (by decide) (kR rfl) fun X C => ?_
  show gV w X _ _ 0 [(0, .int 0), (1, .int (nI n))] []
  refine r_iload_n C (k := 1) rfl rfl dJ7_checkLength_df160_0 ?_
  refine r_iload_n C (k := 0) rfl rfl dJ7_checkLength_df160_1 ?_
  refine r_icmp_ge C (tgt := 37) rfl dJ7_checkLength_df160_2 (fun _ => ?_) (fun h => absurd (nI_pos' (by omega)) h)
  exact r_return C dJ7_checkLength_df160_37
theorem c_corB {w : WP} (hY : gY w) (hD : gD w) {ct : CT} {iV iX : ID} {v L n : Nat} {f : Nat → Int32} (hV : wOk w iV) (hv : wAd w iV = v) (hcv : ct iV = .inl (wJ w, L, .inl f)) (hf : fB f) (hX9 : ¬ wOk w iX) (hn : n ≤ L) (hL : L ≤ 1000) : gMe w 1 yJ7_copyOfRangeByte_39247 cJ7_copyOfRangeByte_39247 5 (some (.array .byte)) [.ref v, .int 0, .int (nI n)] ct (fun I ad v9 ct9 => I = one iX ∧ v9 = some (.ref (ad iX)) ∧ ∃ g, ct9 = upE ct iX (.inl (wJ w, n, .inl g)) ∧ fB g ∧ ∀ k, k < n → g k = f k) 1 1000 := by
  refine gMe_of "java/util/Arrays" rfl (by decide) (kR rfl) fun X C hT => ?_
  show gU w X _ _ 0 [(0, .ref v), (1, .int 0), (2, .int (nI n))] []
  refine r_iload_n C (k := 1) rfl rfl dJ7_copyOfRangeByte_39247_0 ?_
  refine r_iload_n C (k := 2) rfl rfl dJ7_copyOfRangeByte_39247_1 ?_
  refine r_callS C (d' := 0) [.int 0, .int (nI n)] (c_ckLen (by omega)) myJ7_checkLength_df160 wm6_125 rfl (kR rfl) (by decide) (kR rfl) rfl dJ7_copyOfRangeByte_39247_2 ?_
  refine r_iload_n C (k := 2) rfl rfl dJ7_copyOfRangeByte_39247_5 ?_
  refine r_iload_n C (k := 1) rfl rfl dJ7_copyOfRangeByte_39247_6 ?_
  refine r_isub C dJ7_copyOfRangeByte_39247_7 ?_
  refine r_st (st' := [.int (nI n)]) (by rw [show nI n - 0 = nI n from pk_sub (Nat.zero_le n)] <;> rfl) ?_
  refine r_istore_n C (lo' := [(3, .int (nI n)), (0, .ref v), (1, .int 0), (2, .int (nI n))]) rfl (by decide) rfl dJ7_copyOfRangeByte_39247_8 ?_
  refine r_iload_n C (k := 0) rfl rfl dJ7_copyOfRangeByte_39247_9 ?_
  refine r_newB C hY iX hX9 (nI_pos (by omega)) (nI_clamp (by omega)) (by omega) dJ7_copyOfRangeByte_39247_10 (hT.q (kR rfl) (show 0 + n ≤ 1000 by omega)) fun q hag hbh C2 => ?_
  have hq9 : adU w iX q iX = q := if_pos rfl
  have hv2 : adU w iX q iV = v := (hag.1 iV hV).trans hv
  have hVX : iV ≠ iX := fun z => hX9 (z ▸ hV)
  refine r_astore C2 (lo' := [(4, .ref q), (3, .int (nI n)), (0, .ref v), (1, .int 0), (2, .int (nI n))]) (by decide) rfl dJ7_copyOfRangeByte_39247_12 ?_
  refine r_aload_n C2 (k := 2) rfl rfl dJ7_copyOfRangeByte_39247_14 ?_
  refine r_iload_n C2 (k := 3) rfl rfl dJ7_copyOfRangeByte_39247_15 ?_
  refine r_aload C2 (k := 0) rfl dJ7_copyOfRangeByte_39247_16 ?_
  refine r_iconst C2 (v := 0) rfl dJ7_copyOfRangeByte_39247_18 ?_
  refine r_aload_n C2 (k := 2) rfl rfl dJ7_copyOfRangeByte_39247_19 ?_
  refine r_alenA C2 iV (Or.inl hV) hv2 ((upE_n hVX).trans hcv) dJ7_copyOfRangeByte_39247_20 ?_
  refine r_iload_n C2 (k := 3) rfl rfl dJ7_copyOfRangeByte_39247_21 ?_
  refine r_isub C2 dJ7_copyOfRangeByte_39247_22 ?_
  refine r_st (st' := [.int (nI L), .int 0, .ref q, .int 0, .ref v]) (by rw [show nI L - 0 = nI L from pk_sub (Nat.zero_le L)] <;> rfl) ?_
  refine r_iload_n C2 (k := 1) rfl rfl dJ7_copyOfRangeByte_39247_23 ?_
  refine r_mmin C2 (kR rfl) wm6_57 (kR rfl) dJ7_copyOfRangeByte_39247_24 ?_ (hq := hT.q (kR rfl) (show 0 + n ≤ 1000 by omega))
  refine r_st (st' := [.int (nI n), .int 0, .ref q, .int 0, .ref v]) ?_ ?_
  · by_cases h9 : n < L
    · rw [if_pos (nI_lt h9 (by omega))]
    · rw [if_neg (nI_nlt (by omega) (by omega)), show L = n by omega]
  have hs9 := gSrc_id C2 iV (Or.inl hV) (ct := upE ct iX (.inl (wJ w, n, .inl (fun _ => 0)))) ((upE_n hVX).trans hcv)
  rw [show wAd (wM w (one iX) (adU w iX q)) iV = v from hv2] at hs9
  refine r_acopyA C2 (kR rfl) hs9 hf iX (Or.inr rfl) hq9 upE_s wm6_58 0 0 n rfl rfl rfl (by decide) (by decide) (by omega) (by omega) (by omega) (kR rfl) dJ7_copyOfRangeByte_39247_27 ?_
  refine r_aload C2 (k := 0) rfl dJ7_copyOfRangeByte_39247_30 ?_
  refine r_wid (c' := 1) (s' := 1000) (kR rfl) (show 0 + n ≤ 1000 by omega) ?_
  refine r_eendA C2 (Or.inr ⟨_, rfl⟩) hag hbh ⟨rfl, by rw [hq9], _, upE_upE, fB_cpy hf fB0 _ _ _, fun k hk => ?_⟩ dJ7_copyOfRangeByte_39247_32
  rw [pk_cpy_in (Nat.zero_le _) (by omega), Nat.zero_add, Nat.sub_zero]
theorem c_cor {w : WP} (hY : gY w) (hD : gD w) {ct : CT} {iV iX : ID} {v L n : Nat} {f : Nat → Int32} (hV : wOk w iV) (hv : wAd w iV = v) (hcv : ct iV = .inl (wJ w, L, .inl f)) (hf : fB f) (hX9 : ¬ wOk w iX) (hn : n ≤ L) (hL : L ≤ 1000) : gMe w 2 yJ7_copyOfRange_39247 cJ7_copyOfRange_39247 3 (some (.array .byte)) [.ref v, .int 0, .int (nI n)] ct (fun I ad v9 ct9 => I = one iX ∧ v9 = some (.ref (ad iX)) ∧ ∃ g, ct9 = upE ct iX (.inl (wJ w, n, .inl g)) ∧ fB g ∧ ∀ k, k < n → g k = f k) 1 1000 := by
  refine gMe_of "java/util/Arrays" rfl (by decide) (kR rfl) fun X C hT => ?_
  show gU w X _ _ 0 [(0, .ref v), (1, .int 0), (2, .int (nI n))] []
  refine r_iload_n C (k := 1) rfl rfl dJ7_copyOfRange_39247_0 ?_
  refine r_if_ne C (tgt := 10) rfl dJ7_copyOfRange_39247_1 (fun h => absurd rfl h) (fun _ => ?_)
  refine r_iload_n C (k := 2) rfl rfl dJ7_copyOfRange_39247_4 ?_
  refine r_aload_n C (k := 0) rfl rfl dJ7_copyOfRange_39247_5 ?_
  refine r_alenA C iV hV hv hcv dJ7_copyOfRange_39247_6 ?_
  refine r_icmp_eq C (tgt := 17) rfl dJ7_copyOfRange_39247_7 (fun h9 => ?_) (fun _ => ?_)
  · have hnL : n = L := (nI_eq (by omega) (by omega)).mp h9
    refine r_aload_n C (k := 0) rfl rfl dJ7_copyOfRange_39247_17 ?_
    subst hv
    refine r_cloneB C (kR rfl) iV iX hV hX9 hcv hf wm6_50 (kR rfl) dJ7_copyOfRange_39247_18 (hT.q (show 0 + 1 ≤ 1 from Nat.le_refl _) (show 0 + L ≤ 1000 by omega)) fun q hag hbh C2 => ?_
    have hq9 : adU w iX q iX = q := if_pos rfl
    refine r_st (st' := [.ref (wAd (wM w (one iX) (adU w iX q)) iX)]) (by rw [show wAd (wM w (one iX) (adU w iX q)) iX = q from hq9]) ?_
    refine r_castB C2 iX (Or.inr rfl) upE_s wm6_56 rfl dJ7_copyOfRange_39247_21 ?_
    refine r_wid (c' := 1) (s' := 1000) (kR rfl) (show 0 + L ≤ 1000 by omega) ?_
    exact r_eendA C2 (Or.inr ⟨_, rfl⟩) hag hbh ⟨rfl, rfl, f, by rw [hnL], hf, fun _ _ => rfl⟩ dJ7_copyOfRange_39247_24
  · refine r_aload_n C (k := 0) rfl rfl dJ7_copyOfRange_39247_10 ?_
    refine r_iload_n C (k := 1) rfl rfl dJ7_copyOfRange_39247_11 ?_
    refine r_iload_n C (k := 2) rfl rfl dJ7_copyOfRange_39247_12 ?_
    refine r_geS C (d' := 1) [.ref v, .int 0, .int (nI n)] (c_corB hY hD hV hv hcv hf hX9 hn hL) myJ7_copyOfRangeByte_39247 wm6_122 rfl (kR rfl) (by decide) (kR rfl) rfl dJ7_copyOfRange_39247_13 (hT.q (show 0 + 1 ≤ 1 from Nat.le_refl _) (show 0 + 1000 ≤ 1000 from Nat.le_refl _)) ?_
    rintro I ad v9 ct9 ⟨rfl, rfl, hP⟩ hag hbh C2
    show gU _ X _ ct9 16 [(0, .ref v), (1, .int 0), (2, .int (nI n))] [.ref (ad iX)]
    refine r_wid (c' := 1) (s' := 1000) (show 0 + 1 ≤ 1 from Nat.le_refl _) (show 0 + 1000 ≤ 1000 from Nat.le_refl _) ?_
    exact r_eendA C2 (Or.inr ⟨_, rfl⟩) hag hbh ⟨rfl, rfl, hP⟩ dJ7_copyOfRange_39247_16
theorem c_stA {w : WP} (hS : gS w) (hY : gY w) (hD : gD w) {ct : CT} {iB iV iS iX : ID} {b s L : Nat} {T : List Nat} (hIn : sbIn w ct iB iV T L) (ha : wAd w iB = b) (hSf : wFr w iS) (hs : wAd w iS = s) (hcs : ct iS = .inr (8, [.null, .int 0, .int 0, .int 0])) (hX9 : ¬ wOk w iX) (hSB : iS ≠ iB) (hSV : iS ≠ iV) : gMe w 3 yJ0_init_db425 cJ0_init_db425 5 none [.ref s, .ref b, .null] ct (fun I ad v9 ct9 => v9 = none ∧ I = one iX ∧ ct9 iS = .inr (8, [.ref (ad iX), .int 0, .int 0, .int 0]) ∧ (∃ g, ct9 iX = .inl (wJ w, T.length, .inl g) ∧ lat T g) ∧ ∀ z, z ≠ iS → z ≠ iX → ct9 z = ct z) 1 1000 := by
  obtain ⟨hB, hV, hBV, hct, ⟨f, hcv, hf, hl⟩, hTL, hL⟩ := hIn
  have hBo := hD.2.1 iB hB
  have hVo := hD.2.1 iV hV
  obtain ⟨v, hv⟩ : ∃ v, wAd w iV = v := ⟨_, rfl⟩
  rw [hv] at hct
  refine gMe_of "java/lang/String" rfl (by decide) (kR rfl) fun X C hT => ?_
  show gU w X _ _ 0 [(0, .ref s), (1, .ref b), (2, .null)] []
  refine r_aload_n C (k := 0) rfl rfl dJ0_init_db425_0 ?_
  refine r_objInit C wm6_104 (kR rfl) (kR rfl) dJ0_init_db425_1 ?_
  refine r_aload_n C (k := 1) rfl rfl dJ0_init_db425_4 ?_
  refine r_callB C (d' := 0) [] (c_sbV hBo ha hct) mbJ5_getValue_6d5f1 (sel_tbl C wm6_108 rfl) wm6_105 (recB hBo ha hct) rfl (kR rfl) (by decide) (kR rfl) rfl dJ0_init_db425_5 ?_
  refine r_astore_n C (lo' := [(3, .ref v), (0, .ref s), (1, .ref b), (2, .null)]) rfl (by decide) rfl dJ0_init_db425_8 ?_
  refine r_aload_n C (k := 2) rfl rfl dJ0_init_db425_9 ?_
  refine r_callOv C (d' := 1) (y := yJ4_length_8abf5) [] (c_sb4l hBo ha hct) moJ5_length_8abf5 rfl wm6_110 (recB hBo ha hct) rfl (kR rfl) (by decide) (kR rfl) rfl dJ0_init_db425_10 ?_
  refine r_istore C (lo' := [(4, .int (nI T.length)), (3, .ref v), (0, .ref s), (1, .ref b), (2, .null)]) (by decide) rfl dJ0_init_db425_13 ?_
  refine r_aload_n C (k := 3) rfl rfl dJ0_init_db425_15 ?_
  refine r_callB C (d' := 0) [] (c_sbL hS hBo ha hct) mbJ5_isLatin1_aae02 (sel_tbl C wm6_62 rfl) wm6_118 (recB hBo ha hct) rfl (kR rfl) (by decide) (kR rfl) rfl dJ0_init_db425_16 ?_
  refine r_if_eq C (tgt := 41) rfl dJ0_init_db425_19 (fun h => absurd h (by decide)) (fun _ => ?_)
  refine r_aload_n C (k := 2) rfl rfl dJ0_init_db425_22 ?_
  refine r_iconst C (v := 0) rfl dJ0_init_db425_23 ?_
  have hT9 : gTn X 1 1000 := gTe.n (show gTe X "<init>" 1 1000 from hT)
  refine r_putRA C hT9 FJ0 1 iS hSf hs (fs := [.null, .int 0, .int 0, .int 0]) hcs (by decide) wm6_209 rfl rfl rfl rfl (kR rfl) dJ0_init_db425_24 ?_
  refine r_aload_n C (k := 2) rfl rfl dJ0_init_db425_27 ?_
  refine r_aload_n C (k := 1) rfl rfl dJ0_init_db425_28 ?_
  refine r_iconst C (v := 0) rfl dJ0_init_db425_29 ?_
  refine r_iload C (k := 0) rfl dJ0_init_db425_30 ?_
  refine r_geS C (d' := 2) [.ref v, .int 0, .int (nI T.length)] (c_cor hY hD hVo hv ((upE_n hSV.symm).trans hcv) hf hX9 hTL hL) myJ7_copyOfRange_39247 wm6_119 rfl (kR rfl) (by decide) (kR rfl) rfl dJ0_init_db425_32 (hT.q (show 0 + 1 ≤ 1 from Nat.le_refl _) (show 0 + 1000 ≤ 1000 from Nat.le_refl _)) ?_
  rintro I ad v9 ct9 ⟨rfl, rfl, g, rfl, hg, hgf⟩ hag hbh C2
  show gU _ X _ _ 35 [(4, .int (nI T.length)), (3, .ref v), (0, .ref s), (1, .ref b), (2, .null)] [.ref (ad iX), .ref s]
  have hSo := hD.2.1 iS hSf
  have hSX : iS ≠ iX := fun z => hX9 (z ▸ hSo)
  have hs2 : ad iS = s := (hag.1 iS hSo).trans hs
  refine r_putRA C2 hT9 FJ0 0 iS (Or.inl hSf) hs2 (fs := [.null, .int 0, .int 0, .int 0]) ((upE_n hSX).trans upE_s) (by decide) wm6_208 rfl rfl rfl rfl (kR rfl) dJ0_init_db425_35 ?_
  refine r_goto C2 (tgt := 97) rfl dJ0_init_db425_38 ?_
  refine r_wid (c' := 1) (s' := 1000) (show 0 + 1 ≤ 1 from Nat.le_refl _) (show 0 + 1000 ≤ 1000 from Nat.le_refl _) ?_
  refine r_eendV C2 hag hbh ⟨rfl, rfl, upE_s, ⟨g, ?_, fun k hk => (hgf k hk).trans (hl k hk)⟩, fun z h1 h2 => ?_⟩ dJ0_init_db425_97
  · rw [upE_n hSX.symm, upE_s]
  · rw [upE_n h1, upE_n h2, upE_n h1]
theorem c_stB {w : WP} (hS : gS w) (hY : gY w) (hD : gD w) {ct : CT} {iB iV iS iX : ID} {b s L : Nat} {T : List Nat} (hIn : sbIn w ct iB iV T L) (ha : wAd w iB = b) (hSf : wFr w iS) (hs : wAd w iS = s) (hcs : ct iS = .inr (8, [.null, .int 0, .int 0, .int 0])) (hX9 : ¬ wOk w iX) (hSB : iS ≠ iB) (hSV : iS ≠ iV) : gMe w 4 yJ0_init_81219 cJ0_init_81219 2 none [.ref s, .ref b] ct (fun I ad v9 ct9 => v9 = none ∧ I = one iX ∧ ct9 iS = .inr (8, [.ref (ad iX), .int 0, .int 0, .int 0]) ∧ (∃ g, ct9 iX = .inl (wJ w, T.length, .inl g) ∧ lat T g) ∧ ∀ z, z ≠ iS → z ≠ iX → ct9 z = ct z) 1 1000 := by
  refine gMe_of "java/lang/String" rfl (by decide) (kR rfl) fun X C hT => ?_
  show gU w X _ _ 0 [(0, .ref s), (1, .ref b)] []
  refine r_aload_n C (k := 0) rfl rfl dJ0_init_81219_0 ?_
  refine r_aload_n C (k := 1) rfl rfl dJ0_init_81219_1 ?_
  refine r_null C dJ0_init_81219_2 ?_
  refine r_geI C (d' := 3) [.ref b, .null] (c_stA hS hY hD hIn ha hSf hs hcs hX9 hSB hSV) miJ0_init_db425 wm6_101 rfl (kR rfl) (by decide) (kR rfl) rfl dJ0_init_81219_3 (hT.q (show 0 + 1 ≤ 1 from Nat.le_refl _) (show 0 + 1000 ≤ 1000 from Nat.le_refl _)) ?_
  rintro I ad v9 ct9 ⟨rfl, hP⟩ hag hbh C2
  show gU (wM w I ad) X _ ct9 6 [(0, .ref s), (1, .ref b)] []
  refine r_wid (c' := 1) (s' := 1000) (show 0 + 1 ≤ 1 from Nat.le_refl _) (show 0 + 1000 ≤ 1000 from Nat.le_refl _) ?_
  exact r_eendV C2 hag hbh ⟨rfl, hP⟩ dJ0_init_81219_6
theorem c_toS {w : WP} (hS : gS w) (hY : gY w) (hD : gD w) {ct : CT} {iB iV iS iX : ID} {b L : Nat} {T : List Nat} (hIn : sbIn w ct iB iV T L) (ha : wAd w iB = b) (hasc : ∀ c ∈ T, c < 128) (hS9 : ¬ wOk w iS) (hX9 : ¬ wOk w iX) (hSX : iS ≠ iX) (hkS : 30 ≤ iS.1) : gMe w 5 yJ4_toString_0e30d cJ4_toString_0e30d 1 (some (.object "java/lang/String")) [.ref b] ct (fun I ad v9 ct9 => v9 = some (.ref (ad iS)) ∧ I = (fun z => one iS z ∨ one iX z) ∧ stIn (wM w I ad) ct9 iS iX T ∧ ∀ z, z ≠ iS → z ≠ iX → ct9 z = ct z) 2 1004 := by
  refine gMe_of "java/lang/StringBuilder" rfl (by decide) (kR rfl) fun X C hT => ?_
  show gU w X _ _ 0 [(0, .ref b)] []
  refine r_new C FJ0 wm6_96 rfl wm6_97 wm1_4 iS hS9 (fs := [.null, .int 0, .int 0, .int 0]) (fun j hj => by match j, hj with | 0, _ => rfl | 1, _ => rfl | 2, _ => rfl | 3, _ => rfl) dJ4_toString_0e30d_0 (hT.q (kR rfl) (kR rfl)) fun q hag hbh C2 => ?_
  have hq9 : adU w iS q iS = q := if_pos rfl
  have hBo := hD.2.1 iB hIn.1
  have hVo := hD.2.1 iV hIn.2.1
  have hSB : iS ≠ iB := fun z => hS9 (z ▸ hBo)
  have hSV : iS ≠ iV := fun z => hS9 (z ▸ hVo)
  have ha2 : adU w iS q iB = b := (hag.1 iB hBo).trans ha
  have hI0 : ∀ z, one iS z → 30 ≤ z.1 := fun z hz => by rw [show z = iS from hz]; exact hkS
  have hS2 := gS_N hS hag hI0
  have hD2 := gD_C C2
  have hIn2 : sbIn (wM w (one iS) (adU w iS q)) (upE ct iS (.inr (8, [.null, .int 0, .int 0, .int 0]))) iB iV T L := by
    obtain ⟨hB, hV, hBV, hct, ⟨f, hcv, hf, hl⟩, hTL, hL⟩ := hIn
    exact ⟨Or.inl hB, Or.inl hV, hBV, by rw [upE_n hSB.symm, hct, show wAd (wM w (one iS) (adU w iS q)) iV = wAd w iV from hag.1 iV hVo], ⟨f, (upE_n hSV.symm).trans hcv, hf, hl⟩, hTL, hL⟩
  refine r_dup C2 rfl dJ4_toString_0e30d_3 ?_
  refine r_aload_n C2 (k := 0) rfl rfl dJ4_toString_0e30d_4 ?_
  refine r_geI C2 (d' := 4) [.ref b] (c_stB hS2 hY hD2 hIn2 ha2 (iS := iS) (iX := iX) (Or.inr rfl) hq9 upE_s (fun z => z.elim hX9 (fun z => hSX (show iX = iS from z).symm)) hSB hSV) miJ0_init_81219 wm6_98 rfl (kR rfl) (by decide) (kR rfl) rfl dJ4_toString_0e30d_5 (hT.q (show 0 + 1 + 1 ≤ 2 from Nat.le_refl _) (show 0 + 4 + 1000 ≤ 1004 from Nat.le_refl _)) ?_
  rintro I ad v9 ct9 ⟨rfl, rfl, h1, h2, h3⟩ hag3 hbh3 C3
  show gU (wM (wM w (one iS) (adU w iS q)) (one iX) ad) X _ ct9 8 [(0, .ref b)] [.ref q]
  rw [wM_M] at C3 ⊢
  have hag4 := gAg_M hag hag3
  have hbh4 := gBh_M hbh hag3 hbh3
  have hq3 : ad iS = q := (hag3.1 iS (Or.inr rfl)).trans hq9
  refine r_wid (c' := 2) (s' := 1004) (show 0 + 1 + 1 ≤ 2 from Nat.le_refl _) (show 0 + 4 + 1000 ≤ 1004 from Nat.le_refl _) ?_
  refine r_eendA C3 (Or.inl ⟨_, rfl⟩) hag4 hbh4 ⟨by rw [hq3], rfl, ⟨Or.inr (Or.inl rfl), Or.inr (Or.inr rfl), h1, ?_⟩, fun z g1 g2 => ?_⟩ dJ4_toString_0e30d_8
  · obtain ⟨g, h4, h5⟩ := h2
    exact ⟨g, h4, h5, Nat.le_trans hIn.2.2.2.2.2.1 hIn.2.2.2.2.2.2, hasc⟩
  · rw [h3 z g1 g2, upE_n g1]
theorem c_mcod {w : WP} (hS : gS w) {ct : CT} {iS iX : ID} {s : Nat} {T : List Nat} (hIn : stIn w ct iS iX T) (hs : wAd w iS = s) : gM w 0 yJ0_coder_7d493 cJ0_coder_7d493 1 (some .byte) [.ref s] ct (some (.int 0)) ct := by
  obtain ⟨hSo, hXo, hcs, g, hcx, hl, hT0, hasc⟩ := hIn
  obtain ⟨v, hv⟩ : ∃ v, wAd w iX = v := ⟨_, rfl⟩
  rw [hv] at hcs
  refine gM_of "java/lang/String" rfl (by decide) (kR rfl) fun X C => ?_
  have hE := hS.s C
  show gV w X _ _ 0 [(0, .ref s)] []
  refine r_gets C (hE.imp fun _ _ _ h => h.1) wm2_97 dJ0_coder_7d493_0 ?_
  refine r_if_eq C (tgt := 13) rfl dJ0_coder_7d493_3 (fun h => absurd h (by decide)) (fun _ => ?_)
  refine r_aload_n C (k := 0) rfl rfl dJ0_coder_7d493_6 ?_
  refine r_getA C FJ0 1 iS hSo hs hcs (by decide) wm6_209 rfl dJ0_coder_7d493_7 ?_
  refine r_goto C (tgt := 14) rfl dJ0_coder_7d493_10 ?_
  exact r_nret C rfl dJ0_coder_7d493_14
theorem c_mlat {w : WP} (hS : gS w) {ct : CT} {iS iX : ID} {s : Nat} {T : List Nat} (hIn : stIn w ct iS iX T) (hs : wAd w iS = s) : gM w 0 yJ0_isLatin1_aae02 cJ0_isLatin1_aae02 1 (some .boolean) [.ref s] ct (some (.int 1)) ct := by
  obtain ⟨hSo, hXo, hcs, g, hcx, hl, hT0, hasc⟩ := hIn
  obtain ⟨v, hv⟩ : ∃ v, wAd w iX = v := ⟨_, rfl⟩
  rw [hv] at hcs
  refine gM_of "java/lang/String" rfl (by decide) (kR rfl) fun X C => ?_
  have hE := hS.s C
  show gV w X _ _ 0 [(0, .ref s)] []
  refine r_gets C (hE.imp fun _ _ _ h => h.1) wm2_97 dJ0_isLatin1_aae02_0 ?_
  refine r_if_eq C (tgt := 17) rfl dJ0_isLatin1_aae02_3 (fun h => absurd h (by decide)) (fun _ => ?_)
  refine r_aload_n C (k := 0) rfl rfl dJ0_isLatin1_aae02_6 ?_
  refine r_getA C FJ0 1 iS hSo hs hcs (by decide) wm6_209 rfl dJ0_isLatin1_aae02_7 ?_
  refine r_if_ne C (tgt := 17) rfl dJ0_isLatin1_aae02_10 (fun h => absurd rfl h) (fun _ => ?_)
  refine r_iconst C (v := 1) rfl dJ0_isLatin1_aae02_13 ?_
  refine r_goto C (tgt := 18) rfl dJ0_isLatin1_aae02_14 ?_
  exact r_zreturn C true rfl dJ0_isLatin1_aae02_18
theorem c_mlen {w : WP} (hS : gS w) {ct : CT} {iS iX : ID} {s : Nat} {T : List Nat} (hIn : stIn w ct iS iX T) (hs : wAd w iS = s) : gM w 1 yJ0_length_8abf5 cJ0_length_8abf5 1 (some .int) [.ref s] ct (some (.int (nI T.length))) ct := by
  have hIn0 := hIn
  obtain ⟨hSo, hXo, hcs, g, hcx, hl, hT0, hasc⟩ := hIn
  obtain ⟨v, hv⟩ : ∃ v, wAd w iX = v := ⟨_, rfl⟩
  rw [hv] at hcs
  refine gM_of "java/lang/String" rfl (by decide) (kR rfl) fun X C => ?_
  show gV w X _ _ 0 [(0, .ref s)] []
  refine r_aload_n C (k := 0) rfl rfl dJ0_length_8abf5_0 ?_
  refine r_getA C FJ0 0 iS hSo hs hcs (by decide) wm6_208 rfl dJ0_length_8abf5_1 ?_
  refine r_alenA C iX hXo hv hcx dJ0_length_8abf5_4 ?_
  refine r_aload_n C (k := 0) rfl rfl dJ0_length_8abf5_5 ?_
  refine r_callV C (d' := 0) [] (c_mcod hS hIn0 hs) myJ0_coder_7d493 wm2_93 (recS hSo hs hcs) rfl (kR rfl) (by decide) (kR rfl) rfl dJ0_length_8abf5_6 ?_
  refine r_ishr C dJ0_length_8abf5_9 ?_
  refine r_st (st' := [.int (nI T.length)]) (by rw [sb_shr0] <;> rfl) ?_
  exact r_ireturn C dJ0_length_8abf5_10
theorem c_mch1 {w : WP} (hS : gS w) {ct : CT} {iX : ID} {v k : Nat} {T : List Nat} {g : Nat → Int32} (hXo : wOk w iX) (hv : wAd w iX = v) (hcx : ct iX = .inl (wJ w, T.length, .inl g)) (hl : lat T g) (hT0 : T.length ≤ 1000) (hasc : ∀ c ∈ T, c < 128) (hk : k < T.length) : gM w 2 yJ1_charAt_3b067 cJ1_charAt_3b067 2 (some .char) [.ref v, .int (nI k)] ct (some (.int (nI (T.getD k 0)))) ct := by
  refine gM_of "java/lang/StringLatin1" rfl (by decide) (kR rfl) fun X C => ?_
  show gV w X _ _ 0 [(0, .ref v), (1, .int (nI k))] []
  refine r_iload_n C (k := 1) rfl rfl dJ1_charAt_3b067_0 ?_
  refine r_aload_n C (k := 0) rfl rfl dJ1_charAt_3b067_1 ?_
  refine r_alenA C iX hXo hv hcx dJ1_charAt_3b067_2 ?_
  refine r_callS C (d' := 1) [.int (nI k), .int (nI T.length)] (c_check0 hS (vp_in_nI hk (by omega)) (by omega)) myJ0_checkIndex_df160 wm2_110 rfl (kR rfl) (by decide) (kR rfl) rfl dJ1_charAt_3b067_3 ?_
  refine r_aload_n C (k := 0) rfl rfl dJ1_charAt_3b067_6 ?_
  refine r_iload_n C (k := 1) rfl rfl dJ1_charAt_3b067_7 ?_
  refine r_balA C iX hXo hv hcx (vp_in_nI hk (by omega)) (v := nI (T.getD k 0)) (by rw [nI_clamp (by omega)]; exact hl k hk) dJ1_charAt_3b067_8 ?_
  refine r_sipush C (v := 255) rfl dJ1_charAt_3b067_9 ?_
  refine r_iand C dJ1_charAt_3b067_12 ?_
  refine r_i2c C (v := nI (T.getD k 0)) (chr_c ⟨_, hasc _ (getD_mem hk)⟩).1 dJ1_charAt_3b067_13 ?_
  exact r_nret C (chr_c ⟨_, hasc _ (getD_mem hk)⟩).2 dJ1_charAt_3b067_14
theorem c_mch {w : WP} (hS : gS w) {ct : CT} {iS iX : ID} {s : Nat} {T : List Nat} (hIn : stIn w ct iS iX T) (hs : wAd w iS = s) {k : Nat} (hk : k < T.length) : gM w 3 yJ0_charAt_5068e cJ0_charAt_5068e 2 (some .char) [.ref s, .int (nI k)] ct (some (.int (nI (T.getD k 0)))) ct := by
  have hIn0 := hIn
  obtain ⟨hSo, hXo, hcs, g, hcx, hl, hT0, hasc⟩ := hIn
  obtain ⟨v, hv⟩ : ∃ v, wAd w iX = v := ⟨_, rfl⟩
  rw [hv] at hcs
  refine gM_of "java/lang/String" rfl (by decide) (kR rfl) fun X C => ?_
  show gV w X _ _ 0 [(0, .ref s), (1, .int (nI k))] []
  refine r_aload_n C (k := 0) rfl rfl dJ0_charAt_5068e_0 ?_
  refine r_callV C (d' := 0) [] (c_mlat hS hIn0 hs) myJ0_isLatin1_aae02 wm2_103 (recS hSo hs hcs) rfl (kR rfl) (by decide) (kR rfl) rfl dJ0_charAt_5068e_1 ?_
  refine r_if_eq C (tgt := 16) rfl dJ0_charAt_5068e_4 (fun h => absurd h (by decide)) (fun _ => ?_)
  refine r_aload_n C (k := 0) rfl rfl dJ0_charAt_5068e_7 ?_
  refine r_getA C FJ0 0 iS hSo hs hcs (by decide) wm6_208 rfl dJ0_charAt_5068e_8 ?_
  refine r_iload_n C (k := 1) rfl rfl dJ0_charAt_5068e_11 ?_
  refine r_callS C (d' := 2) [.ref v, .int (nI k)] (c_mch1 hS hXo hv hcx hl hT0 hasc hk) myJ1_charAt_3b067 wm2_107 rfl (kR rfl) (by decide) (kR rfl) rfl dJ0_charAt_5068e_12 ?_
  exact r_nret C (chr_c ⟨_, hasc _ (getD_mem hk)⟩).2 dJ0_charAt_5068e_15
theorem c_sb5c {w : WP} (hS : gS w) (hD : gD w) {ct : CT} {iB iV : ID} {b L k : Nat} {T : List Nat} (hIn : sbIn w ct iB iV T L) (ha : wAd w iB = b) (hasc : ∀ c ∈ T, c < 128) (hk : k < T.length) : gM w 2 yJ5_charAt_5068e cJ5_charAt_5068e 5 (some .char) [.ref b, .int (nI k)] ct (some (.int (nI (T.getD k 0)))) ct := by
  obtain ⟨hB, hV, hBV, hct, ⟨f, hcv, hf, hl⟩, hTL, hL⟩ := hIn
  have hBo := hD.2.1 iB hB
  have hVo := hD.2.1 iV hV
  obtain ⟨v, hv⟩ : ∃ v, wAd w iV = v := ⟨_, rfl⟩
  rw [hv] at hct
  refine gM_of "java/lang/AbstractStringBuilder" rfl (by decide) (kR rfl) fun X C => ?_
  show gV w X _ _ 0 [(0, .ref b), (1, .int (nI k))] []
  refine r_aload_n C (k := 0) rfl rfl dJ5_charAt_5068e_0 ?_
  refine r_getA C FJ4 1 iB hBo ha hct (by decide) wm6_11 rfl dJ5_charAt_5068e_1 ?_
  refine r_istore_n C (lo' := [(2, .int 0), (0, .ref b), (1, .int (nI k))]) rfl (by decide) rfl dJ5_charAt_5068e_4 ?_
  refine r_aload_n C (k := 1) rfl rfl dJ5_charAt_5068e_5 ?_
  refine r_getA C FJ4 0 iB hBo ha hct (by decide) wm6_10 rfl dJ5_charAt_5068e_6 ?_
  refine r_astore_n C (lo' := [(3, .ref v), (2, .int 0), (0, .ref b), (1, .int (nI k))]) rfl (by decide) rfl dJ5_charAt_5068e_9 ?_
  refine r_aload_n C (k := 2) rfl rfl dJ5_charAt_5068e_10 ?_
  refine r_getA C FJ4 3 iB hBo ha hct (by decide) wm6_13 rfl dJ5_charAt_5068e_11 ?_
  refine r_aload_n C (k := 0) rfl rfl dJ5_charAt_5068e_14 ?_
  refine r_alenA C iV hVo hv hcv dJ5_charAt_5068e_15 ?_
  refine r_iload_n C (k := 1) rfl rfl dJ5_charAt_5068e_16 ?_
  refine r_ishr C dJ5_charAt_5068e_17 ?_
  refine r_st (st' := [.int (nI L), .int (nI T.length)]) (by rw [sb_shr0] <;> rfl) ?_
  refine r_mmin C (kR rfl) wm6_226 (kR rfl) dJ5_charAt_5068e_18 ?_
  refine r_st (st' := [.int (nI T.length)]) ?_ ?_
  · by_cases h9 : L < T.length
    · omega
    · rw [if_neg (nI_nlt (by omega) (by omega))]
  refine r_istore C (lo' := [(4, .int (nI T.length)), (3, .ref v), (2, .int 0), (0, .ref b), (1, .int (nI k))]) (by decide) rfl dJ5_charAt_5068e_21 ?_
  refine r_iload_n C (k := 4) rfl rfl dJ5_charAt_5068e_23 ?_
  refine r_iload C (k := 0) rfl dJ5_charAt_5068e_24 ?_
  refine r_callS C (d' := 1) [.int (nI k), .int (nI T.length)] (c_check0 hS (vp_in_nI hk (by omega)) (by omega)) myJ0_checkIndex_df160 wm6_227 rfl (kR rfl) (by decide) (kR rfl) rfl dJ5_charAt_5068e_26 ?_
  refine r_iload_n C (k := 2) rfl rfl dJ5_charAt_5068e_29 ?_
  refine r_if_ne C (tgt := 42) rfl dJ5_charAt_5068e_30 (fun h => absurd rfl h) (fun _ => ?_)
  refine r_aload_n C (k := 1) rfl rfl dJ5_charAt_5068e_33 ?_
  refine r_iload_n C (k := 4) rfl rfl dJ5_charAt_5068e_34 ?_
  refine r_balA C iV hVo hv hcv (vp_in_nI (n := k) (by omega) (by omega)) (v := nI (T.getD k 0)) (by rw [nI_clamp (by omega)]; exact hl k hk) dJ5_charAt_5068e_35 ?_
  refine r_sipush C (v := 255) rfl dJ5_charAt_5068e_36 ?_
  refine r_iand C dJ5_charAt_5068e_39 ?_
  refine r_i2c C (v := nI (T.getD k 0)) (chr_c ⟨_, hasc _ (getD_mem hk)⟩).1 dJ5_charAt_5068e_40 ?_
  exact r_nret C (chr_c ⟨_, hasc _ (getD_mem hk)⟩).2 dJ5_charAt_5068e_41
theorem c_sbCh {w : WP} (hS : gS w) (hD : gD w) {ct : CT} {iB iV : ID} {b L k : Nat} {T : List Nat} (hIn : sbIn w ct iB iV T L) (ha : wAd w iB = b) (hasc : ∀ c ∈ T, c < 128) (hk : k < T.length) : gM w 3 yJ4_charAt_5068e cJ4_charAt_5068e 2 (some .char) [.ref b, .int (nI k)] ct (some (.int (nI (T.getD k 0)))) ct := by
  have hIn0 := hIn
  obtain ⟨hB, hV, hBV, hct, ⟨f, hcv, hf, hl⟩, hTL, hL⟩ := hIn
  have hBo := hD.2.1 iB hB
  have hVo := hD.2.1 iV hV
  obtain ⟨v, hv⟩ : ∃ v, wAd w iV = v := ⟨_, rfl⟩
  rw [hv] at hct
  refine gM_of "java/lang/StringBuilder" rfl (by decide) (kR rfl) fun X C => ?_
  show gV w X _ _ 0 [(0, .ref b), (1, .int (nI k))] []
  refine r_aload_n C (k := 0) rfl rfl dJ4_charAt_5068e_0 ?_
  refine r_iload_n C (k := 1) rfl rfl dJ4_charAt_5068e_1 ?_
  refine r_callU C (d' := 2) [.int (nI k)] iB hBo ha hct rfl (c_sb5c hS hD hIn0 ha hasc hk) muJ5_charAt_5068e rfl rfl wm6_223 rfl (kR rfl) (by decide) (kR rfl) rfl dJ4_charAt_5068e_2 ?_
  exact r_nret C (chr_c ⟨_, hasc _ (getD_mem hk)⟩).2 dJ4_charAt_5068e_5
