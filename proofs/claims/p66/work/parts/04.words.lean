/-! ===== the words of the tables, by their places ===== -/
theorem in_t1 {x : Cond} (h : x ∈ tables_1_1) : x ∈ lw_tbl := by
  refine List.mem_append_right _ ?_
  show x ∈ tables_1_1 ++ (tables_1_2 ++ (tables_1_3 ++ (tables_1_4 ++ (tables_1_5 ++ (tables_1_6 ++ (tables_1_7))))))
  exact List.mem_append_left _ h
theorem in_t2 {x : Cond} (h : x ∈ tables_1_2) : x ∈ lw_tbl := by
  refine List.mem_append_right _ ?_
  show x ∈ tables_1_1 ++ (tables_1_2 ++ (tables_1_3 ++ (tables_1_4 ++ (tables_1_5 ++ (tables_1_6 ++ (tables_1_7))))))
  refine List.mem_append_right _ ?_; exact List.mem_append_left _ h
theorem in_t3 {x : Cond} (h : x ∈ tables_1_3) : x ∈ lw_tbl := by
  refine List.mem_append_right _ ?_
  show x ∈ tables_1_1 ++ (tables_1_2 ++ (tables_1_3 ++ (tables_1_4 ++ (tables_1_5 ++ (tables_1_6 ++ (tables_1_7))))))
  refine List.mem_append_right _ ?_; refine List.mem_append_right _ ?_; exact List.mem_append_left _ h
theorem in_t4 {x : Cond} (h : x ∈ tables_1_4) : x ∈ lw_tbl := by
  refine List.mem_append_right _ ?_
  show x ∈ tables_1_1 ++ (tables_1_2 ++ (tables_1_3 ++ (tables_1_4 ++ (tables_1_5 ++ (tables_1_6 ++ (tables_1_7))))))
  refine List.mem_append_right _ ?_; refine List.mem_append_right _ ?_; refine List.mem_append_right _ ?_; exact List.mem_append_left _ h
theorem in_t5 {x : Cond} (h : x ∈ tables_1_5) : x ∈ lw_tbl := by
  refine List.mem_append_right _ ?_
  show x ∈ tables_1_1 ++ (tables_1_2 ++ (tables_1_3 ++ (tables_1_4 ++ (tables_1_5 ++ (tables_1_6 ++ (tables_1_7))))))
  refine List.mem_append_right _ ?_; refine List.mem_append_right _ ?_; refine List.mem_append_right _ ?_; refine List.mem_append_right _ ?_; exact List.mem_append_left _ h
theorem in_t6 {x : Cond} (h : x ∈ tables_1_6) : x ∈ lw_tbl := by
  refine List.mem_append_right _ ?_
  show x ∈ tables_1_1 ++ (tables_1_2 ++ (tables_1_3 ++ (tables_1_4 ++ (tables_1_5 ++ (tables_1_6 ++ (tables_1_7))))))
  refine List.mem_append_right _ ?_; refine List.mem_append_right _ ?_; refine List.mem_append_right _ ?_; refine List.mem_append_right _ ?_; refine List.mem_append_right _ ?_; exact List.mem_append_left _ h
theorem in_t7 {x : Cond} (h : x ∈ tables_1_7) : x ∈ lw_tbl := by
  refine List.mem_append_right _ ?_
  show x ∈ tables_1_1 ++ (tables_1_2 ++ (tables_1_3 ++ (tables_1_4 ++ (tables_1_5 ++ (tables_1_6 ++ (tables_1_7))))))
  refine List.mem_append_right _ ?_; refine List.mem_append_right _ ?_; refine List.mem_append_right _ ?_; refine List.mem_append_right _ ?_; refine List.mem_append_right _ ?_; refine List.mem_append_right _ ?_; exact h
theorem in_p1 {q : MethodName × Nat} (h : q ∈ lw_privs_1) : Cond.selects q.1.cls q.1 q.1 ∈ lw_tbl := by
  refine List.mem_append_left _ (List.mem_map.mpr ⟨q, ?_, rfl⟩)
  show q ∈ lw_privs_1 ++ (lw_privs_2)
  exact List.mem_append_left _ h
theorem in_p2 {q : MethodName × Nat} (h : q ∈ lw_privs_2) : Cond.selects q.1.cls q.1 q.1 ∈ lw_tbl := by
  refine List.mem_append_left _ (List.mem_map.mpr ⟨q, ?_, rfl⟩)
  show q ∈ lw_privs_1 ++ (lw_privs_2)
  refine List.mem_append_right _ ?_; exact h
theorem wm1_0 : Cond.initialized "HedgeMessagesLaw" ∈ lw_tbl := in_t1 (List.mem_of_getElem? (i := 0) rfl)
theorem wm1_1 : Cond.initialized "java/lang/Math" ∈ lw_tbl := in_t1 (List.mem_of_getElem? (i := 1) rfl)
theorem wm1_2 : Cond.initialized "java/lang/AbstractStringBuilder" ∈ lw_tbl := in_t1 (List.mem_of_getElem? (i := 2) rfl)
theorem wm1_3 : Cond.initialized "java/lang/StringBuilder" ∈ lw_tbl := in_t1 (List.mem_of_getElem? (i := 3) rfl)
theorem wm1_4 : Cond.initialized "java/lang/String" ∈ lw_tbl := in_t1 (List.mem_of_getElem? (i := 4) rfl)
theorem wm1_5 : Cond.initialized "java/lang/StringUTF16" ∈ lw_tbl := in_t1 (List.mem_of_getElem? (i := 5) rfl)
theorem wm1_6 : Cond.initialized "jdk/internal/util/ArraysSupport" ∈ lw_tbl := in_t1 (List.mem_of_getElem? (i := 6) rfl)
theorem wm1_7 : Cond.initialized "java/util/Arrays" ∈ lw_tbl := in_t1 (List.mem_of_getElem? (i := 7) rfl)
theorem wm1_8 : Cond.initialized "java/lang/System" ∈ lw_tbl := in_t1 (List.mem_of_getElem? (i := 8) rfl)
theorem wm1_9 : Cond.initialized "jdk/internal/util/Preconditions" ∈ lw_tbl := in_t1 (List.mem_of_getElem? (i := 9) rfl)
theorem wm1_10 : Cond.initialized "java/lang/StringLatin1" ∈ lw_tbl := in_t1 (List.mem_of_getElem? (i := 10) rfl)
theorem wm1_11 : Cond.initialized "java/lang/Integer" ∈ lw_tbl := in_t1 (List.mem_of_getElem? (i := 11) rfl)
theorem wm1_12 : Cond.initialized "HedgeMessages" ∈ lw_tbl := in_t1 (List.mem_of_getElem? (i := 12) rfl)
theorem wm1_13 : Cond.initialized "HedgeMessages$Hedge" ∈ lw_tbl := in_t1 (List.mem_of_getElem? (i := 13) rfl)
theorem wm1_14 : Cond.initialized "HedgeMessages$Row" ∈ lw_tbl := in_t1 (List.mem_of_getElem? (i := 14) rfl)
theorem wm1_15 : Cond.initialized "HedgeMessages$Gardener" ∈ lw_tbl := in_t1 (List.mem_of_getElem? (i := 15) rfl)
theorem wm1_16 : Cond.initialized "HedgeMessages$PostedMessages" ∈ lw_tbl := in_t1 (List.mem_of_getElem? (i := 16) rfl)
theorem wm1_17 : Cond.initialized "HedgeMessages$History" ∈ lw_tbl := in_t1 (List.mem_of_getElem? (i := 17) rfl)
theorem wm1_18 : Cond.initialized "HedgeMessages$Text" ∈ lw_tbl := in_t1 (List.mem_of_getElem? (i := 18) rfl)
theorem wm1_19 : Cond.initialized "HedgeMessages$CommandList" ∈ lw_tbl := in_t1 (List.mem_of_getElem? (i := 19) rfl)
theorem wm1_20 : Cond.initialized "java/lang/Throwable" ∈ lw_tbl := in_t1 (List.mem_of_getElem? (i := 20) rfl)
theorem wm1_21 : Cond.initialized "java/lang/Exception" ∈ lw_tbl := in_t1 (List.mem_of_getElem? (i := 21) rfl)
theorem wm1_22 : Cond.initialized "java/lang/RuntimeException" ∈ lw_tbl := in_t1 (List.mem_of_getElem? (i := 22) rfl)
theorem wm1_23 : Cond.initialized "java/lang/IllegalArgumentException" ∈ lw_tbl := in_t1 (List.mem_of_getElem? (i := 23) rfl)
theorem wm1_24 : Cond.initialized "java/lang/IllegalStateException" ∈ lw_tbl := in_t1 (List.mem_of_getElem? (i := 24) rfl)
theorem wm1_25 : Cond.initialized "HedgeMessages$Configuration" ∈ lw_tbl := in_t1 (List.mem_of_getElem? (i := 25) rfl)
theorem wm1_26 : Cond.initialized "java/lang/IndexOutOfBoundsException" ∈ lw_tbl := in_t1 (List.mem_of_getElem? (i := 26) rfl)
theorem wm1_27 : Cond.classLink "HedgeMessagesLaw" 15 "HedgeMessages" ∈ lw_tbl := in_t1 (List.mem_of_getElem? (i := 27) rfl)
theorem wm1_28 : Cond.instantiable "HedgeMessages" 9 ∈ lw_tbl := in_t1 (List.mem_of_getElem? (i := 28) rfl)
theorem wm1_29 : Cond.methodLink "HedgeMessagesLaw" 289 yX10_init ∈ lw_tbl := in_t1 (List.mem_of_getElem? (i := 29) rfl)
theorem wm1_30 : Cond.instanceMethod yX10_init ∈ lw_tbl := in_t1 (List.mem_of_getElem? (i := 30) rfl)
theorem wm1_31 : Cond.code yX10_init prog_1_method_1_code 1 (Option.none : Option Jvm.ClassFile.FieldType) ∈ lw_tbl := in_t1 (List.mem_of_getElem? (i := 31) rfl)
theorem wm1_32 : Cond.methodLink "HedgeMessages" 1 ({ cls := "java/lang/Object", name := "<init>", desc := "()V" } : Jvm.MethodName) ∈ lw_tbl := in_t1 (List.mem_of_getElem? (i := 32) rfl)
theorem wm1_33 : Cond.instanceMethod ({ cls := "java/lang/Object", name := "<init>", desc := "()V" } : Jvm.MethodName) ∈ lw_tbl := in_t1 (List.mem_of_getElem? (i := 33) rfl)
theorem wm1_34 : Cond.code ({ cls := "java/lang/Object", name := "<init>", desc := "()V" } : Jvm.MethodName) object_method_1_code 1 (Option.none : Option Jvm.ClassFile.FieldType) ∈ lw_tbl := in_t1 (List.mem_of_getElem? (i := 34) rfl)
theorem wm1_35 : Cond.classLink "HedgeMessages" 7 "HedgeMessages$Hedge" ∈ lw_tbl := in_t1 (List.mem_of_getElem? (i := 35) rfl)
theorem wm1_36 : Cond.instantiable "HedgeMessages$Hedge" 19 ∈ lw_tbl := in_t1 (List.mem_of_getElem? (i := 36) rfl)
theorem wm1_37 : Cond.methodLink "HedgeMessages" 9 yX5_init ∈ lw_tbl := in_t1 (List.mem_of_getElem? (i := 37) rfl)
theorem wm1_38 : Cond.instanceMethod yX5_init ∈ lw_tbl := in_t1 (List.mem_of_getElem? (i := 38) rfl)
theorem wm1_39 : Cond.code yX5_init prog_7_method_1_code 1 (Option.none : Option Jvm.ClassFile.FieldType) ∈ lw_tbl := in_t1 (List.mem_of_getElem? (i := 39) rfl)
theorem wm1_40 : Cond.methodLink "HedgeMessages$Hedge" 3 ({ cls := "java/lang/Object", name := "<init>", desc := "()V" } : Jvm.MethodName) ∈ lw_tbl := in_t1 (List.mem_of_getElem? (i := 40) rfl)
theorem wm1_41 : Cond.classLink "HedgeMessages$Hedge" 9 "HedgeMessages$Row" ∈ lw_tbl := in_t1 (List.mem_of_getElem? (i := 41) rfl)
theorem wm1_42 : Cond.instantiable "HedgeMessages$Row" 1 ∈ lw_tbl := in_t1 (List.mem_of_getElem? (i := 42) rfl)
theorem wm1_43 : Cond.methodLink "HedgeMessages$Hedge" 11 yX8_init ∈ lw_tbl := in_t1 (List.mem_of_getElem? (i := 43) rfl)
theorem wm1_44 : Cond.instanceMethod yX8_init ∈ lw_tbl := in_t1 (List.mem_of_getElem? (i := 44) rfl)
theorem wm1_45 : Cond.code yX8_init prog_10_method_1_code 2 (Option.none : Option Jvm.ClassFile.FieldType) ∈ lw_tbl := in_t1 (List.mem_of_getElem? (i := 45) rfl)
theorem wm1_46 : Cond.methodLink "HedgeMessages$Row" 1 ({ cls := "java/lang/Object", name := "<init>", desc := "()V" } : Jvm.MethodName) ∈ lw_tbl := in_t1 (List.mem_of_getElem? (i := 46) rfl)
theorem wm1_47 : Cond.fieldLink "HedgeMessages$Row" 7 "HedgeMessages$Row" "cells" "[I" ∈ lw_tbl := in_t1 (List.mem_of_getElem? (i := 47) rfl)
theorem wm1_48 : Cond.laysFinal "HedgeMessages$Row" "HedgeMessages$Row" "cells" "[I" ∈ lw_tbl := in_t1 (List.mem_of_getElem? (i := 48) rfl)
theorem wm1_51 : Cond.arrayClass Jvm.ClassFile.FieldType.int ∈ lw_tbl := in_t1 (List.mem_of_getElem? (i := 51) rfl)
theorem wm1_52 : Cond.classLink "HedgeMessages$Hedge" 32 "HedgeMessages$Gardener" ∈ lw_tbl := in_t1 (List.mem_of_getElem? (i := 52) rfl)
theorem wm1_53 : Cond.instantiable "HedgeMessages$Gardener" 10 ∈ lw_tbl := in_t1 (List.mem_of_getElem? (i := 53) rfl)
theorem wm1_54 : Cond.methodLink "HedgeMessages$Hedge" 34 yX4_init ∈ lw_tbl := in_t1 (List.mem_of_getElem? (i := 54) rfl)
theorem wm1_55 : Cond.instanceMethod yX4_init ∈ lw_tbl := in_t1 (List.mem_of_getElem? (i := 55) rfl)
theorem wm1_56 : Cond.code yX4_init prog_6_method_1_code 1 (Option.none : Option Jvm.ClassFile.FieldType) ∈ lw_tbl := in_t1 (List.mem_of_getElem? (i := 56) rfl)
theorem wm1_57 : Cond.methodLink "HedgeMessages$Gardener" 3 ({ cls := "java/lang/Object", name := "<init>", desc := "()V" } : Jvm.MethodName) ∈ lw_tbl := in_t1 (List.mem_of_getElem? (i := 57) rfl)
theorem wm1_58 : Cond.classLink "HedgeMessages$Gardener" 9 "HedgeMessages$Row" ∈ lw_tbl := in_t1 (List.mem_of_getElem? (i := 58) rfl)
theorem wm1_59 : Cond.methodLink "HedgeMessages$Gardener" 11 yX8_init ∈ lw_tbl := in_t1 (List.mem_of_getElem? (i := 59) rfl)
theorem wm1_60 : Cond.fieldLink "HedgeMessages$Gardener" 14 "HedgeMessages$Gardener" "letters" "LHedgeMessages$Row;" ∈ lw_tbl := in_t1 (List.mem_of_getElem? (i := 60) rfl)
theorem wm1_61 : Cond.fieldLinkNest "HedgeMessages$Hedge" 250 "HedgeMessages$Gardener" "letters" "LHedgeMessages$Row;" "HedgeMessages" ∈ lw_tbl := in_t1 (List.mem_of_getElem? (i := 61) rfl)
theorem wm1_62 : Cond.fieldLink "HedgeMessages$Gardener" 20 "HedgeMessages$Gardener" "lengths" "LHedgeMessages$Row;" ∈ lw_tbl := in_t1 (List.mem_of_getElem? (i := 62) rfl)
theorem wm1_63 : Cond.fieldLink "HedgeMessages$Gardener" 23 "HedgeMessages$Gardener" "pending" "I" ∈ lw_tbl := in_t1 (List.mem_of_getElem? (i := 63) rfl)
theorem wm1_64 : Cond.fieldLinkNest "HedgeMessages$Hedge" 140 "HedgeMessages$Gardener" "pending" "I" "HedgeMessages" ∈ lw_tbl := in_t1 (List.mem_of_getElem? (i := 64) rfl)
theorem wm1_65 : Cond.fieldLinkNest "HedgeMessages" 186 "HedgeMessages$Gardener" "pending" "I" "HedgeMessages" ∈ lw_tbl := in_t1 (List.mem_of_getElem? (i := 65) rfl)
theorem wm1_66 : Cond.fieldLink "HedgeMessages$Gardener" 46 "HedgeMessages$Gardener" "start" "I" ∈ lw_tbl := in_t1 (List.mem_of_getElem? (i := 66) rfl)
theorem wm1_67 : Cond.fieldLinkNest "HedgeMessages$Hedge" 150 "HedgeMessages$Gardener" "start" "I" "HedgeMessages" ∈ lw_tbl := in_t1 (List.mem_of_getElem? (i := 67) rfl)
theorem wm1_68 : Cond.fieldLinkNest "HedgeMessages" 202 "HedgeMessages$Gardener" "start" "I" "HedgeMessages" ∈ lw_tbl := in_t1 (List.mem_of_getElem? (i := 68) rfl)
theorem wm1_69 : Cond.fieldLink "HedgeMessages$Gardener" 49 "HedgeMessages$Gardener" "length" "I" ∈ lw_tbl := in_t1 (List.mem_of_getElem? (i := 69) rfl)
theorem wm1_70 : Cond.fieldLinkNest "HedgeMessages$Hedge" 241 "HedgeMessages$Gardener" "length" "I" "HedgeMessages" ∈ lw_tbl := in_t1 (List.mem_of_getElem? (i := 70) rfl)
theorem wm1_71 : Cond.fieldLink "HedgeMessages$Gardener" 52 "HedgeMessages$Gardener" "written" "I" ∈ lw_tbl := in_t1 (List.mem_of_getElem? (i := 71) rfl)
theorem wm1_72 : Cond.fieldLinkNest "HedgeMessages" 195 "HedgeMessages$Gardener" "written" "I" "HedgeMessages" ∈ lw_tbl := in_t1 (List.mem_of_getElem? (i := 72) rfl)
theorem wm1_73 : Cond.fieldLinkNest "HedgeMessages$Hedge" 153 "HedgeMessages$Gardener" "written" "I" "HedgeMessages" ∈ lw_tbl := in_t1 (List.mem_of_getElem? (i := 73) rfl)
theorem wm1_74 : Cond.fieldLink "HedgeMessages$Gardener" 30 "HedgeMessages$Gardener" "queued" "I" ∈ lw_tbl := in_t1 (List.mem_of_getElem? (i := 74) rfl)
theorem wm1_75 : Cond.fieldLinkNest "HedgeMessages$Hedge" 112 "HedgeMessages$Gardener" "queued" "I" "HedgeMessages" ∈ lw_tbl := in_t1 (List.mem_of_getElem? (i := 75) rfl)
theorem wm1_76 : Cond.fieldLinkNest "HedgeMessages" 263 "HedgeMessages$Gardener" "queued" "I" "HedgeMessages" ∈ lw_tbl := in_t1 (List.mem_of_getElem? (i := 76) rfl)
theorem wm1_77 : Cond.fieldLink "HedgeMessages$Gardener" 33 "HedgeMessages$Gardener" "delivered" "I" ∈ lw_tbl := in_t1 (List.mem_of_getElem? (i := 77) rfl)
theorem wm1_78 : Cond.fieldLinkNest "HedgeMessages" 253 "HedgeMessages$Gardener" "delivered" "I" "HedgeMessages" ∈ lw_tbl := in_t1 (List.mem_of_getElem? (i := 78) rfl)
theorem wm1_79 : Cond.fieldLinkNest "HedgeMessages$Hedge" 231 "HedgeMessages$Gardener" "delivered" "I" "HedgeMessages" ∈ lw_tbl := in_t1 (List.mem_of_getElem? (i := 79) rfl)
theorem wm1_80 : Cond.fieldLink "HedgeMessages$Gardener" 36 "HedgeMessages$Gardener" "failed" "I" ∈ lw_tbl := in_t1 (List.mem_of_getElem? (i := 80) rfl)
theorem wm1_81 : Cond.fieldLinkNest "HedgeMessages" 266 "HedgeMessages$Gardener" "failed" "I" "HedgeMessages" ∈ lw_tbl := in_t1 (List.mem_of_getElem? (i := 81) rfl)
theorem wm1_82 : Cond.fieldLinkNest "HedgeMessages$Hedge" 265 "HedgeMessages$Gardener" "failed" "I" "HedgeMessages" ∈ lw_tbl := in_t1 (List.mem_of_getElem? (i := 82) rfl)
theorem wm1_83 : Cond.fieldLink "HedgeMessages$Gardener" 39 "HedgeMessages$Gardener" "dropped" "I" ∈ lw_tbl := in_t1 (List.mem_of_getElem? (i := 83) rfl)
theorem wm1_84 : Cond.fieldLinkNest "HedgeMessages" 269 "HedgeMessages$Gardener" "dropped" "I" "HedgeMessages" ∈ lw_tbl := in_t1 (List.mem_of_getElem? (i := 84) rfl)
theorem wm1_85 : Cond.fieldLinkNest "HedgeMessages$Hedge" 268 "HedgeMessages$Gardener" "dropped" "I" "HedgeMessages" ∈ lw_tbl := in_t1 (List.mem_of_getElem? (i := 85) rfl)
theorem wm1_86 : Cond.laysFinal "HedgeMessages$Gardener" "HedgeMessages$Gardener" "letters" "LHedgeMessages$Row;" ∈ lw_tbl := in_t1 (List.mem_of_getElem? (i := 86) rfl)
theorem wm1_88 : Cond.laysFinal "HedgeMessages$Gardener" "HedgeMessages$Gardener" "lengths" "LHedgeMessages$Row;" ∈ lw_tbl := in_t1 (List.mem_of_getElem? (i := 88) rfl)
theorem wm1_90 : Cond.lays "HedgeMessages$Gardener" "HedgeMessages$Gardener" "pending" "I" ∈ lw_tbl := in_t1 (List.mem_of_getElem? (i := 90) rfl)
theorem wm1_92 : Cond.lays "HedgeMessages$Gardener" "HedgeMessages$Gardener" "start" "I" ∈ lw_tbl := in_t1 (List.mem_of_getElem? (i := 92) rfl)
theorem wm1_94 : Cond.lays "HedgeMessages$Gardener" "HedgeMessages$Gardener" "length" "I" ∈ lw_tbl := in_t1 (List.mem_of_getElem? (i := 94) rfl)
theorem wm1_96 : Cond.lays "HedgeMessages$Gardener" "HedgeMessages$Gardener" "written" "I" ∈ lw_tbl := in_t1 (List.mem_of_getElem? (i := 96) rfl)
theorem wm1_98 : Cond.lays "HedgeMessages$Gardener" "HedgeMessages$Gardener" "queued" "I" ∈ lw_tbl := in_t1 (List.mem_of_getElem? (i := 98) rfl)
theorem wm1_100 : Cond.lays "HedgeMessages$Gardener" "HedgeMessages$Gardener" "delivered" "I" ∈ lw_tbl := in_t1 (List.mem_of_getElem? (i := 100) rfl)
theorem wm1_102 : Cond.lays "HedgeMessages$Gardener" "HedgeMessages$Gardener" "failed" "I" ∈ lw_tbl := in_t1 (List.mem_of_getElem? (i := 102) rfl)
theorem wm1_104 : Cond.lays "HedgeMessages$Gardener" "HedgeMessages$Gardener" "dropped" "I" ∈ lw_tbl := in_t1 (List.mem_of_getElem? (i := 104) rfl)
theorem wm1_107 : Cond.classLink "HedgeMessages$Hedge" 42 "HedgeMessages$PostedMessages" ∈ lw_tbl := in_t1 (List.mem_of_getElem? (i := 107) rfl)
theorem wm1_108 : Cond.instantiable "HedgeMessages$PostedMessages" 4 ∈ lw_tbl := in_t1 (List.mem_of_getElem? (i := 108) rfl)
theorem wm1_109 : Cond.methodLink "HedgeMessages$Hedge" 44 yX7_init ∈ lw_tbl := in_t1 (List.mem_of_getElem? (i := 109) rfl)
theorem wm1_110 : Cond.instanceMethod yX7_init ∈ lw_tbl := in_t1 (List.mem_of_getElem? (i := 110) rfl)
theorem wm1_111 : Cond.code yX7_init prog_9_method_1_code 1 (Option.none : Option Jvm.ClassFile.FieldType) ∈ lw_tbl := in_t1 (List.mem_of_getElem? (i := 111) rfl)
theorem wm1_112 : Cond.methodLink "HedgeMessages$PostedMessages" 3 ({ cls := "java/lang/Object", name := "<init>", desc := "()V" } : Jvm.MethodName) ∈ lw_tbl := in_t1 (List.mem_of_getElem? (i := 112) rfl)
theorem wm1_113 : Cond.classLink "HedgeMessages$PostedMessages" 9 "HedgeMessages$Row" ∈ lw_tbl := in_t1 (List.mem_of_getElem? (i := 113) rfl)
theorem wm1_114 : Cond.methodLink "HedgeMessages$PostedMessages" 11 yX8_init ∈ lw_tbl := in_t1 (List.mem_of_getElem? (i := 114) rfl)
theorem wm1_115 : Cond.fieldLink "HedgeMessages$PostedMessages" 14 "HedgeMessages$PostedMessages" "senders" "LHedgeMessages$Row;" ∈ lw_tbl := in_t1 (List.mem_of_getElem? (i := 115) rfl)
theorem wm1_116 : Cond.fieldLinkNest "HedgeMessages$Hedge" 160 "HedgeMessages$PostedMessages" "senders" "LHedgeMessages$Row;" "HedgeMessages" ∈ lw_tbl := in_t1 (List.mem_of_getElem? (i := 116) rfl)
theorem wm1_117 : Cond.fieldLink "HedgeMessages$PostedMessages" 20 "HedgeMessages$PostedMessages" "starts" "LHedgeMessages$Row;" ∈ lw_tbl := in_t1 (List.mem_of_getElem? (i := 117) rfl)
theorem wm1_118 : Cond.fieldLinkNest "HedgeMessages$Hedge" 163 "HedgeMessages$PostedMessages" "starts" "LHedgeMessages$Row;" "HedgeMessages" ∈ lw_tbl := in_t1 (List.mem_of_getElem? (i := 118) rfl)
theorem wm1_119 : Cond.fieldLink "HedgeMessages$PostedMessages" 23 "HedgeMessages$PostedMessages" "lengths" "LHedgeMessages$Row;" ∈ lw_tbl := in_t1 (List.mem_of_getElem? (i := 119) rfl)
theorem wm1_120 : Cond.fieldLinkNest "HedgeMessages$Hedge" 166 "HedgeMessages$PostedMessages" "lengths" "LHedgeMessages$Row;" "HedgeMessages" ∈ lw_tbl := in_t1 (List.mem_of_getElem? (i := 120) rfl)
theorem wm1_121 : Cond.fieldLink "HedgeMessages$PostedMessages" 30 "HedgeMessages$PostedMessages" "count" "I" ∈ lw_tbl := in_t1 (List.mem_of_getElem? (i := 121) rfl)
theorem wm1_122 : Cond.fieldLinkNest "HedgeMessages$Hedge" 97 "HedgeMessages$PostedMessages" "count" "I" "HedgeMessages" ∈ lw_tbl := in_t1 (List.mem_of_getElem? (i := 122) rfl)
theorem wm1_123 : Cond.fieldLinkNest "HedgeMessages" 291 "HedgeMessages$PostedMessages" "count" "I" "HedgeMessages" ∈ lw_tbl := in_t1 (List.mem_of_getElem? (i := 123) rfl)
theorem wm1_124 : Cond.laysFinal "HedgeMessages$PostedMessages" "HedgeMessages$PostedMessages" "senders" "LHedgeMessages$Row;" ∈ lw_tbl := in_t1 (List.mem_of_getElem? (i := 124) rfl)
theorem wm1_126 : Cond.laysFinal "HedgeMessages$PostedMessages" "HedgeMessages$PostedMessages" "starts" "LHedgeMessages$Row;" ∈ lw_tbl := in_t1 (List.mem_of_getElem? (i := 126) rfl)
theorem wm1_128 : Cond.laysFinal "HedgeMessages$PostedMessages" "HedgeMessages$PostedMessages" "lengths" "LHedgeMessages$Row;" ∈ lw_tbl := in_t1 (List.mem_of_getElem? (i := 128) rfl)
theorem wm1_130 : Cond.lays "HedgeMessages$PostedMessages" "HedgeMessages$PostedMessages" "count" "I" ∈ lw_tbl := in_t1 (List.mem_of_getElem? (i := 130) rfl)
theorem wm1_133 : Cond.fieldLink "HedgeMessages$Hedge" 49 "HedgeMessages$Hedge" "slots" "I" ∈ lw_tbl := in_t1 (List.mem_of_getElem? (i := 133) rfl)
theorem wm1_134 : Cond.fieldLinkNest "HedgeMessages" 108 "HedgeMessages$Hedge" "slots" "I" "HedgeMessages" ∈ lw_tbl := in_t1 (List.mem_of_getElem? (i := 134) rfl)
theorem wm1_135 : Cond.fieldLinkNest "HedgeMessages$Configuration" 72 "HedgeMessages$Hedge" "slots" "I" "HedgeMessages" ∈ lw_tbl := in_t1 (List.mem_of_getElem? (i := 135) rfl)
theorem wm1_136 : Cond.fieldLink "HedgeMessages$Hedge" 53 "HedgeMessages$Hedge" "workLimit" "I" ∈ lw_tbl := in_t1 (List.mem_of_getElem? (i := 136) rfl)
theorem wm1_137 : Cond.fieldLinkNest "HedgeMessages" 139 "HedgeMessages$Hedge" "workLimit" "I" "HedgeMessages" ∈ lw_tbl := in_t1 (List.mem_of_getElem? (i := 137) rfl)
theorem wm1_138 : Cond.fieldLink "HedgeMessages$Hedge" 56 "HedgeMessages$Hedge" "growth" "I" ∈ lw_tbl := in_t1 (List.mem_of_getElem? (i := 138) rfl)
theorem wm1_139 : Cond.fieldLink "HedgeMessages$Hedge" 59 "HedgeMessages$Hedge" "legalLength" "I" ∈ lw_tbl := in_t1 (List.mem_of_getElem? (i := 139) rfl)
theorem wm1_140 : Cond.fieldLink "HedgeMessages$Hedge" 62 "HedgeMessages$Hedge" "interval" "I" ∈ lw_tbl := in_t1 (List.mem_of_getElem? (i := 140) rfl)
theorem wm1_141 : Cond.fieldLink "HedgeMessages$Hedge" 65 "HedgeMessages$Hedge" "yardSize" "I" ∈ lw_tbl := in_t1 (List.mem_of_getElem? (i := 141) rfl)
theorem wm1_142 : Cond.fieldLink "HedgeMessages$Hedge" 68 "HedgeMessages$Hedge" "day" "I" ∈ lw_tbl := in_t1 (List.mem_of_getElem? (i := 142) rfl)
theorem wm1_143 : Cond.fieldLinkNest "HedgeMessages" 132 "HedgeMessages$Hedge" "day" "I" "HedgeMessages" ∈ lw_tbl := in_t1 (List.mem_of_getElem? (i := 143) rfl)
theorem wm1_144 : Cond.fieldLink "HedgeMessages$Hedge" 71 "HedgeMessages$Hedge" "actions" "I" ∈ lw_tbl := in_t1 (List.mem_of_getElem? (i := 144) rfl)
theorem wm1_145 : Cond.fieldLinkNest "HedgeMessages" 142 "HedgeMessages$Hedge" "actions" "I" "HedgeMessages" ∈ lw_tbl := in_t1 (List.mem_of_getElem? (i := 145) rfl)
theorem wm1_146 : Cond.fieldLink "HedgeMessages$Hedge" 14 "HedgeMessages$Hedge" "letters" "LHedgeMessages$Row;" ∈ lw_tbl := in_t1 (List.mem_of_getElem? (i := 146) rfl)
theorem wm1_147 : Cond.fieldLinkNest "HedgeMessages" 154 "HedgeMessages$Hedge" "letters" "LHedgeMessages$Row;" "HedgeMessages" ∈ lw_tbl := in_t1 (List.mem_of_getElem? (i := 147) rfl)
theorem wm1_148 : Cond.fieldLink "HedgeMessages$Hedge" 20 "HedgeMessages$Hedge" "owners" "LHedgeMessages$Row;" ∈ lw_tbl := in_t1 (List.mem_of_getElem? (i := 148) rfl)
theorem wm1_149 : Cond.fieldLinkNest "HedgeMessages" 161 "HedgeMessages$Hedge" "owners" "LHedgeMessages$Row;" "HedgeMessages" ∈ lw_tbl := in_t1 (List.mem_of_getElem? (i := 149) rfl)
theorem wm1_150 : Cond.fieldLink "HedgeMessages$Hedge" 23 "HedgeMessages$Hedge" "lengths" "LHedgeMessages$Row;" ∈ lw_tbl := in_t1 (List.mem_of_getElem? (i := 150) rfl)
theorem wm1_151 : Cond.fieldLinkNest "HedgeMessages" 164 "HedgeMessages$Hedge" "lengths" "LHedgeMessages$Row;" "HedgeMessages" ∈ lw_tbl := in_t1 (List.mem_of_getElem? (i := 151) rfl)
theorem wm1_152 : Cond.fieldLink "HedgeMessages$Hedge" 26 "HedgeMessages$Hedge" "nests" "LHedgeMessages$Row;" ∈ lw_tbl := in_t1 (List.mem_of_getElem? (i := 152) rfl)
theorem wm1_153 : Cond.fieldLinkNest "HedgeMessages$Configuration" 85 "HedgeMessages$Hedge" "nests" "LHedgeMessages$Row;" "HedgeMessages" ∈ lw_tbl := in_t1 (List.mem_of_getElem? (i := 153) rfl)
theorem wm1_154 : Cond.fieldLinkNest "HedgeMessages" 170 "HedgeMessages$Hedge" "nests" "LHedgeMessages$Row;" "HedgeMessages" ∈ lw_tbl := in_t1 (List.mem_of_getElem? (i := 154) rfl)
theorem wm1_155 : Cond.fieldLink "HedgeMessages$Hedge" 29 "HedgeMessages$Hedge" "booked" "LHedgeMessages$Row;" ∈ lw_tbl := in_t1 (List.mem_of_getElem? (i := 155) rfl)
theorem wm1_156 : Cond.fieldLink "HedgeMessages$Hedge" 35 "HedgeMessages$Hedge" "first" "LHedgeMessages$Gardener;" ∈ lw_tbl := in_t1 (List.mem_of_getElem? (i := 156) rfl)
theorem wm1_157 : Cond.fieldLinkNest "HedgeMessages" 281 "HedgeMessages$Hedge" "first" "LHedgeMessages$Gardener;" "HedgeMessages" ∈ lw_tbl := in_t1 (List.mem_of_getElem? (i := 157) rfl)
theorem wm1_158 : Cond.fieldLink "HedgeMessages$Hedge" 39 "HedgeMessages$Hedge" "second" "LHedgeMessages$Gardener;" ∈ lw_tbl := in_t1 (List.mem_of_getElem? (i := 158) rfl)
theorem wm1_159 : Cond.fieldLinkNest "HedgeMessages" 288 "HedgeMessages$Hedge" "second" "LHedgeMessages$Gardener;" "HedgeMessages" ∈ lw_tbl := in_t1 (List.mem_of_getElem? (i := 159) rfl)
theorem wm1_160 : Cond.fieldLink "HedgeMessages$Hedge" 45 "HedgeMessages$Hedge" "posted" "LHedgeMessages$PostedMessages;" ∈ lw_tbl := in_t1 (List.mem_of_getElem? (i := 160) rfl)
theorem wm1_161 : Cond.fieldLinkNest "HedgeMessages" 205 "HedgeMessages$Hedge" "posted" "LHedgeMessages$PostedMessages;" "HedgeMessages" ∈ lw_tbl := in_t1 (List.mem_of_getElem? (i := 161) rfl)
theorem wm1_162 : Cond.fieldLink "HedgeMessages$Hedge" 84 "HedgeMessages$Hedge" "planted" "I" ∈ lw_tbl := in_t1 (List.mem_of_getElem? (i := 162) rfl)
theorem wm1_163 : Cond.fieldLinkNest "HedgeMessages" 272 "HedgeMessages$Hedge" "planted" "I" "HedgeMessages" ∈ lw_tbl := in_t1 (List.mem_of_getElem? (i := 163) rfl)
theorem wm1_164 : Cond.fieldLink "HedgeMessages$Hedge" 87 "HedgeMessages$Hedge" "pruned" "I" ∈ lw_tbl := in_t1 (List.mem_of_getElem? (i := 164) rfl)
theorem wm1_165 : Cond.fieldLinkNest "HedgeMessages" 275 "HedgeMessages$Hedge" "pruned" "I" "HedgeMessages" ∈ lw_tbl := in_t1 (List.mem_of_getElem? (i := 165) rfl)
theorem wm1_166 : Cond.fieldLink "HedgeMessages$Hedge" 90 "HedgeMessages$Hedge" "removed" "I" ∈ lw_tbl := in_t1 (List.mem_of_getElem? (i := 166) rfl)
theorem wm1_167 : Cond.fieldLinkNest "HedgeMessages" 278 "HedgeMessages$Hedge" "removed" "I" "HedgeMessages" ∈ lw_tbl := in_t1 (List.mem_of_getElem? (i := 167) rfl)
theorem wm1_168 : Cond.lays "HedgeMessages$Hedge" "HedgeMessages$Hedge" "slots" "I" ∈ lw_tbl := in_t1 (List.mem_of_getElem? (i := 168) rfl)
theorem wm1_170 : Cond.lays "HedgeMessages$Hedge" "HedgeMessages$Hedge" "workLimit" "I" ∈ lw_tbl := in_t1 (List.mem_of_getElem? (i := 170) rfl)
theorem wm1_172 : Cond.lays "HedgeMessages$Hedge" "HedgeMessages$Hedge" "growth" "I" ∈ lw_tbl := in_t1 (List.mem_of_getElem? (i := 172) rfl)
theorem wm1_174 : Cond.lays "HedgeMessages$Hedge" "HedgeMessages$Hedge" "legalLength" "I" ∈ lw_tbl := in_t1 (List.mem_of_getElem? (i := 174) rfl)
theorem wm1_176 : Cond.lays "HedgeMessages$Hedge" "HedgeMessages$Hedge" "interval" "I" ∈ lw_tbl := in_t1 (List.mem_of_getElem? (i := 176) rfl)
theorem wm1_178 : Cond.lays "HedgeMessages$Hedge" "HedgeMessages$Hedge" "yardSize" "I" ∈ lw_tbl := in_t1 (List.mem_of_getElem? (i := 178) rfl)
theorem wm1_180 : Cond.lays "HedgeMessages$Hedge" "HedgeMessages$Hedge" "day" "I" ∈ lw_tbl := in_t1 (List.mem_of_getElem? (i := 180) rfl)
theorem wm1_182 : Cond.lays "HedgeMessages$Hedge" "HedgeMessages$Hedge" "actions" "I" ∈ lw_tbl := in_t1 (List.mem_of_getElem? (i := 182) rfl)
theorem wm1_184 : Cond.laysFinal "HedgeMessages$Hedge" "HedgeMessages$Hedge" "letters" "LHedgeMessages$Row;" ∈ lw_tbl := in_t1 (List.mem_of_getElem? (i := 184) rfl)
theorem wm1_186 : Cond.laysFinal "HedgeMessages$Hedge" "HedgeMessages$Hedge" "owners" "LHedgeMessages$Row;" ∈ lw_tbl := in_t1 (List.mem_of_getElem? (i := 186) rfl)
theorem wm1_188 : Cond.laysFinal "HedgeMessages$Hedge" "HedgeMessages$Hedge" "lengths" "LHedgeMessages$Row;" ∈ lw_tbl := in_t1 (List.mem_of_getElem? (i := 188) rfl)
theorem wm1_190 : Cond.laysFinal "HedgeMessages$Hedge" "HedgeMessages$Hedge" "nests" "LHedgeMessages$Row;" ∈ lw_tbl := in_t1 (List.mem_of_getElem? (i := 190) rfl)
theorem wm1_192 : Cond.laysFinal "HedgeMessages$Hedge" "HedgeMessages$Hedge" "booked" "LHedgeMessages$Row;" ∈ lw_tbl := in_t1 (List.mem_of_getElem? (i := 192) rfl)
theorem wm1_194 : Cond.laysFinal "HedgeMessages$Hedge" "HedgeMessages$Hedge" "first" "LHedgeMessages$Gardener;" ∈ lw_tbl := in_t1 (List.mem_of_getElem? (i := 194) rfl)
theorem wm1_196 : Cond.laysFinal "HedgeMessages$Hedge" "HedgeMessages$Hedge" "second" "LHedgeMessages$Gardener;" ∈ lw_tbl := in_t1 (List.mem_of_getElem? (i := 196) rfl)
theorem wm1_198 : Cond.laysFinal "HedgeMessages$Hedge" "HedgeMessages$Hedge" "posted" "LHedgeMessages$PostedMessages;" ∈ lw_tbl := in_t1 (List.mem_of_getElem? (i := 198) rfl)
theorem wm1_200 : Cond.lays "HedgeMessages$Hedge" "HedgeMessages$Hedge" "planted" "I" ∈ lw_tbl := in_t1 (List.mem_of_getElem? (i := 200) rfl)
theorem wm1_202 : Cond.lays "HedgeMessages$Hedge" "HedgeMessages$Hedge" "pruned" "I" ∈ lw_tbl := in_t1 (List.mem_of_getElem? (i := 202) rfl)
theorem wm1_204 : Cond.lays "HedgeMessages$Hedge" "HedgeMessages$Hedge" "removed" "I" ∈ lw_tbl := in_t1 (List.mem_of_getElem? (i := 204) rfl)
theorem wm1_207 : Cond.classLink "HedgeMessages" 22 "HedgeMessages$History" ∈ lw_tbl := in_t1 (List.mem_of_getElem? (i := 207) rfl)
theorem wm1_208 : Cond.instantiable "HedgeMessages$History" 3 ∈ lw_tbl := in_t1 (List.mem_of_getElem? (i := 208) rfl)
theorem wm1_209 : Cond.methodLink "HedgeMessages" 24 yX6_init ∈ lw_tbl := in_t1 (List.mem_of_getElem? (i := 209) rfl)
theorem wm1_210 : Cond.instanceMethod yX6_init ∈ lw_tbl := in_t1 (List.mem_of_getElem? (i := 210) rfl)
theorem wm1_211 : Cond.code yX6_init prog_8_method_1_code 2 (Option.none : Option Jvm.ClassFile.FieldType) ∈ lw_tbl := in_t1 (List.mem_of_getElem? (i := 211) rfl)
theorem wm1_212 : Cond.methodLink "HedgeMessages$History" 3 ({ cls := "java/lang/Object", name := "<init>", desc := "()V" } : Jvm.MethodName) ∈ lw_tbl := in_t1 (List.mem_of_getElem? (i := 212) rfl)
theorem wm1_213 : Cond.classLink "HedgeMessages$History" 9 "HedgeMessages$Hedge" ∈ lw_tbl := in_t1 (List.mem_of_getElem? (i := 213) rfl)
theorem wm1_215 : Cond.methodLink "HedgeMessages$History" 17 yX5_init ∈ lw_tbl := in_t1 (List.mem_of_getElem? (i := 215) rfl)
theorem wm1_216 : Cond.fieldLink "HedgeMessages$History" 11 "HedgeMessages$History" "states" "[LHedgeMessages$Hedge;" ∈ lw_tbl := in_t1 (List.mem_of_getElem? (i := 216) rfl)
theorem wm1_217 : Cond.fieldLink "HedgeMessages$History" 22 "HedgeMessages$History" "next" "I" ∈ lw_tbl := in_t1 (List.mem_of_getElem? (i := 217) rfl)
theorem wm1_218 : Cond.fieldLink "HedgeMessages$History" 18 "HedgeMessages$History" "count" "I" ∈ lw_tbl := in_t1 (List.mem_of_getElem? (i := 218) rfl)
theorem wm1_219 : Cond.fieldLinkNest "HedgeMessages" 367 "HedgeMessages$History" "count" "I" "HedgeMessages" ∈ lw_tbl := in_t1 (List.mem_of_getElem? (i := 219) rfl)
theorem wm1_220 : Cond.laysFinal "HedgeMessages$History" "HedgeMessages$History" "states" "[LHedgeMessages$Hedge;" ∈ lw_tbl := in_t1 (List.mem_of_getElem? (i := 220) rfl)
theorem wm1_222 : Cond.lays "HedgeMessages$History" "HedgeMessages$History" "next" "I" ∈ lw_tbl := in_t1 (List.mem_of_getElem? (i := 222) rfl)
theorem wm1_224 : Cond.lays "HedgeMessages$History" "HedgeMessages$History" "count" "I" ∈ lw_tbl := in_t1 (List.mem_of_getElem? (i := 224) rfl)
theorem wm1_227 : Cond.classLink "HedgeMessages" 29 "HedgeMessages$Text" ∈ lw_tbl := in_t1 (List.mem_of_getElem? (i := 227) rfl)
theorem wm1_228 : Cond.instantiable "HedgeMessages$Text" 9 ∈ lw_tbl := in_t1 (List.mem_of_getElem? (i := 228) rfl)
theorem wm1_229 : Cond.methodLink "HedgeMessages" 31 yX9_init ∈ lw_tbl := in_t1 (List.mem_of_getElem? (i := 229) rfl)
theorem wm1_230 : Cond.instanceMethod yX9_init ∈ lw_tbl := in_t1 (List.mem_of_getElem? (i := 230) rfl)
theorem wm1_231 : Cond.code yX9_init prog_11_method_1_code 1 (Option.none : Option Jvm.ClassFile.FieldType) ∈ lw_tbl := in_t1 (List.mem_of_getElem? (i := 231) rfl)
theorem wm1_232 : Cond.methodLink "HedgeMessages$Text" 3 ({ cls := "java/lang/Object", name := "<init>", desc := "()V" } : Jvm.MethodName) ∈ lw_tbl := in_t1 (List.mem_of_getElem? (i := 232) rfl)
theorem wm1_233 : Cond.classLink "HedgeMessages$Text" 9 "HedgeMessages$Row" ∈ lw_tbl := in_t1 (List.mem_of_getElem? (i := 233) rfl)
theorem wm1_234 : Cond.methodLink "HedgeMessages$Text" 11 yX8_init ∈ lw_tbl := in_t1 (List.mem_of_getElem? (i := 234) rfl)
theorem wm1_235 : Cond.fieldLink "HedgeMessages$Text" 14 "HedgeMessages$Text" "bytes" "LHedgeMessages$Row;" ∈ lw_tbl := in_t1 (List.mem_of_getElem? (i := 235) rfl)
theorem wm1_236 : Cond.fieldLinkNest "HedgeMessages$Configuration" 109 "HedgeMessages$Text" "bytes" "LHedgeMessages$Row;" "HedgeMessages" ∈ lw_tbl := in_t1 (List.mem_of_getElem? (i := 236) rfl)
theorem wm1_237 : Cond.fieldLinkNest "HedgeMessages" 346 "HedgeMessages$Text" "bytes" "LHedgeMessages$Row;" "HedgeMessages" ∈ lw_tbl := in_t1 (List.mem_of_getElem? (i := 237) rfl)
theorem wm1_238 : Cond.fieldLinkNest "HedgeMessages" 74 "HedgeMessages$Text" "length" "I" "HedgeMessages" ∈ lw_tbl := in_t1 (List.mem_of_getElem? (i := 238) rfl)
theorem wm1_239 : Cond.fieldLink "HedgeMessages$Text" 24 "HedgeMessages$Text" "length" "I" ∈ lw_tbl := in_t1 (List.mem_of_getElem? (i := 239) rfl)
theorem wm2_0 : Cond.fieldLink "HedgeMessages$Text" 39 "HedgeMessages$Text" "position" "I" ∈ lw_tbl := in_t2 (List.mem_of_getElem? (i := 0) rfl)
theorem wm2_1 : Cond.fieldLink "HedgeMessages$Text" 48 "HedgeMessages$Text" "kind" "I" ∈ lw_tbl := in_t2 (List.mem_of_getElem? (i := 1) rfl)
theorem wm2_2 : Cond.fieldLink "HedgeMessages$Text" 45 "HedgeMessages$Text" "start" "I" ∈ lw_tbl := in_t2 (List.mem_of_getElem? (i := 2) rfl)
theorem wm2_3 : Cond.fieldLinkNest "HedgeMessages$Configuration" 112 "HedgeMessages$Text" "start" "I" "HedgeMessages" ∈ lw_tbl := in_t2 (List.mem_of_getElem? (i := 3) rfl)
theorem wm2_4 : Cond.fieldLink "HedgeMessages$Text" 54 "HedgeMessages$Text" "size" "I" ∈ lw_tbl := in_t2 (List.mem_of_getElem? (i := 4) rfl)
theorem wm2_5 : Cond.fieldLinkNest "HedgeMessages$Configuration" 115 "HedgeMessages$Text" "size" "I" "HedgeMessages" ∈ lw_tbl := in_t2 (List.mem_of_getElem? (i := 5) rfl)
theorem wm2_6 : Cond.fieldLinkNest "HedgeMessages$Configuration" 44 "HedgeMessages$Text" "value" "I" "HedgeMessages" ∈ lw_tbl := in_t2 (List.mem_of_getElem? (i := 6) rfl)
theorem wm2_7 : Cond.fieldLink "HedgeMessages$Text" 72 "HedgeMessages$Text" "value" "I" ∈ lw_tbl := in_t2 (List.mem_of_getElem? (i := 7) rfl)
theorem wm2_8 : Cond.fieldLink "HedgeMessages$Text" 42 "HedgeMessages$Text" "errorCode" "I" ∈ lw_tbl := in_t2 (List.mem_of_getElem? (i := 8) rfl)
theorem wm2_9 : Cond.fieldLink "HedgeMessages$Text" 20 "HedgeMessages$Text" "errorPosition" "I" ∈ lw_tbl := in_t2 (List.mem_of_getElem? (i := 9) rfl)
theorem wm2_10 : Cond.laysFinal "HedgeMessages$Text" "HedgeMessages$Text" "bytes" "LHedgeMessages$Row;" ∈ lw_tbl := in_t2 (List.mem_of_getElem? (i := 10) rfl)
theorem wm2_12 : Cond.lays "HedgeMessages$Text" "HedgeMessages$Text" "length" "I" ∈ lw_tbl := in_t2 (List.mem_of_getElem? (i := 12) rfl)
theorem wm2_14 : Cond.lays "HedgeMessages$Text" "HedgeMessages$Text" "position" "I" ∈ lw_tbl := in_t2 (List.mem_of_getElem? (i := 14) rfl)
theorem wm2_16 : Cond.lays "HedgeMessages$Text" "HedgeMessages$Text" "kind" "I" ∈ lw_tbl := in_t2 (List.mem_of_getElem? (i := 16) rfl)
theorem wm2_18 : Cond.lays "HedgeMessages$Text" "HedgeMessages$Text" "start" "I" ∈ lw_tbl := in_t2 (List.mem_of_getElem? (i := 18) rfl)
theorem wm2_20 : Cond.lays "HedgeMessages$Text" "HedgeMessages$Text" "size" "I" ∈ lw_tbl := in_t2 (List.mem_of_getElem? (i := 20) rfl)
theorem wm2_22 : Cond.lays "HedgeMessages$Text" "HedgeMessages$Text" "value" "I" ∈ lw_tbl := in_t2 (List.mem_of_getElem? (i := 22) rfl)
theorem wm2_24 : Cond.lays "HedgeMessages$Text" "HedgeMessages$Text" "errorCode" "I" ∈ lw_tbl := in_t2 (List.mem_of_getElem? (i := 24) rfl)
theorem wm2_26 : Cond.lays "HedgeMessages$Text" "HedgeMessages$Text" "errorPosition" "I" ∈ lw_tbl := in_t2 (List.mem_of_getElem? (i := 26) rfl)
theorem wm2_29 : Cond.classLink "HedgeMessages" 36 "HedgeMessages$CommandList" ∈ lw_tbl := in_t2 (List.mem_of_getElem? (i := 29) rfl)
theorem wm2_30 : Cond.instantiable "HedgeMessages$CommandList" 5 ∈ lw_tbl := in_t2 (List.mem_of_getElem? (i := 30) rfl)
theorem wm2_31 : Cond.methodLink "HedgeMessages" 38 yX2_init ∈ lw_tbl := in_t2 (List.mem_of_getElem? (i := 31) rfl)
theorem wm2_32 : Cond.instanceMethod yX2_init ∈ lw_tbl := in_t2 (List.mem_of_getElem? (i := 32) rfl)
theorem wm2_33 : Cond.code yX2_init prog_4_method_1_code 1 (Option.none : Option Jvm.ClassFile.FieldType) ∈ lw_tbl := in_t2 (List.mem_of_getElem? (i := 33) rfl)
theorem wm2_34 : Cond.methodLink "HedgeMessages$CommandList" 3 ({ cls := "java/lang/Object", name := "<init>", desc := "()V" } : Jvm.MethodName) ∈ lw_tbl := in_t2 (List.mem_of_getElem? (i := 34) rfl)
theorem wm2_35 : Cond.classLink "HedgeMessages$CommandList" 9 "HedgeMessages$CommandForm" ∈ lw_tbl := in_t2 (List.mem_of_getElem? (i := 35) rfl)
theorem wm2_37 : Cond.classLink "HedgeMessages$CommandList" 17 "HedgeMessages$Row" ∈ lw_tbl := in_t2 (List.mem_of_getElem? (i := 37) rfl)
theorem wm2_38 : Cond.methodLink "HedgeMessages$CommandList" 19 yX8_init ∈ lw_tbl := in_t2 (List.mem_of_getElem? (i := 38) rfl)
theorem wm2_39 : Cond.fieldLink "HedgeMessages$CommandList" 11 "HedgeMessages$CommandList" "forms" "[LHedgeMessages$CommandForm;" ∈ lw_tbl := in_t2 (List.mem_of_getElem? (i := 39) rfl)
theorem wm2_40 : Cond.fieldLink "HedgeMessages$CommandList" 22 "HedgeMessages$CommandList" "arguments" "LHedgeMessages$Row;" ∈ lw_tbl := in_t2 (List.mem_of_getElem? (i := 40) rfl)
theorem wm2_41 : Cond.fieldLink "HedgeMessages$CommandList" 26 "HedgeMessages$CommandList" "seconds" "LHedgeMessages$Row;" ∈ lw_tbl := in_t2 (List.mem_of_getElem? (i := 41) rfl)
theorem wm2_42 : Cond.fieldLink "HedgeMessages$CommandList" 29 "HedgeMessages$CommandList" "wordLengths" "LHedgeMessages$Row;" ∈ lw_tbl := in_t2 (List.mem_of_getElem? (i := 42) rfl)
theorem wm2_43 : Cond.laysFinal "HedgeMessages$CommandList" "HedgeMessages$CommandList" "forms" "[LHedgeMessages$CommandForm;" ∈ lw_tbl := in_t2 (List.mem_of_getElem? (i := 43) rfl)
theorem wm2_45 : Cond.laysFinal "HedgeMessages$CommandList" "HedgeMessages$CommandList" "arguments" "LHedgeMessages$Row;" ∈ lw_tbl := in_t2 (List.mem_of_getElem? (i := 45) rfl)
theorem wm2_47 : Cond.laysFinal "HedgeMessages$CommandList" "HedgeMessages$CommandList" "seconds" "LHedgeMessages$Row;" ∈ lw_tbl := in_t2 (List.mem_of_getElem? (i := 47) rfl)
theorem wm2_49 : Cond.laysFinal "HedgeMessages$CommandList" "HedgeMessages$CommandList" "wordLengths" "LHedgeMessages$Row;" ∈ lw_tbl := in_t2 (List.mem_of_getElem? (i := 49) rfl)
theorem wm2_51 : Cond.lays "HedgeMessages$CommandList" "HedgeMessages$CommandList" "count" "I" ∈ lw_tbl := in_t2 (List.mem_of_getElem? (i := 51) rfl)
theorem wm2_54 : Cond.classLink "HedgeMessages" 43 "HedgeMessages$Row" ∈ lw_tbl := in_t2 (List.mem_of_getElem? (i := 54) rfl)
theorem wm2_55 : Cond.methodLink "HedgeMessages" 45 yX8_init ∈ lw_tbl := in_t2 (List.mem_of_getElem? (i := 55) rfl)
theorem wm2_56 : Cond.methodLink "HedgeMessages" 52 yX5_layOut ∈ lw_tbl := in_t2 (List.mem_of_getElem? (i := 56) rfl)
theorem wm2_57 : Cond.instanceMethod yX5_layOut ∈ lw_tbl := in_t2 (List.mem_of_getElem? (i := 57) rfl)
theorem wm2_58 : Cond.selects "HedgeMessages$Hedge" yX5_layOut yX5_layOut ∈ lw_tbl := in_t2 (List.mem_of_getElem? (i := 58) rfl)
theorem wm2_59 : Cond.code yX5_layOut prog_7_method_3_code 7 (Option.none : Option Jvm.ClassFile.FieldType) ∈ lw_tbl := in_t2 (List.mem_of_getElem? (i := 59) rfl)
theorem wm2_60 : Cond.methodLink "HedgeMessages$Hedge" 93 yX8_clear ∈ lw_tbl := in_t2 (List.mem_of_getElem? (i := 60) rfl)
theorem wm2_61 : Cond.instanceMethod yX8_clear ∈ lw_tbl := in_t2 (List.mem_of_getElem? (i := 61) rfl)
theorem wm2_62 : Cond.selects "HedgeMessages$Row" yX8_clear yX8_clear ∈ lw_tbl := in_t2 (List.mem_of_getElem? (i := 62) rfl)
theorem wm2_63 : Cond.code yX8_clear prog_10_method_4_code 2 (Option.none : Option Jvm.ClassFile.FieldType) ∈ lw_tbl := in_t2 (List.mem_of_getElem? (i := 63) rfl)
theorem wm2_64 : Cond.methodLink "HedgeMessages$Hedge" 96 yX4_clear ∈ lw_tbl := in_t2 (List.mem_of_getElem? (i := 64) rfl)
theorem wm2_65 : Cond.instanceMethod yX4_clear ∈ lw_tbl := in_t2 (List.mem_of_getElem? (i := 65) rfl)
theorem wm2_66 : Cond.selects "HedgeMessages$Gardener" yX4_clear yX4_clear ∈ lw_tbl := in_t2 (List.mem_of_getElem? (i := 66) rfl)
theorem wm2_67 : Cond.code yX4_clear prog_6_method_2_code 1 (Option.none : Option Jvm.ClassFile.FieldType) ∈ lw_tbl := in_t2 (List.mem_of_getElem? (i := 67) rfl)
theorem wm2_68 : Cond.methodLink "HedgeMessages$Gardener" 27 yX4_stopWriting ∈ lw_tbl := in_t2 (List.mem_of_getElem? (i := 68) rfl)
theorem wm2_69 : Cond.instanceMethod yX4_stopWriting ∈ lw_tbl := in_t2 (List.mem_of_getElem? (i := 69) rfl)
theorem wm2_70 : Cond.selects "HedgeMessages$Gardener" yX4_stopWriting yX4_stopWriting ∈ lw_tbl := in_t2 (List.mem_of_getElem? (i := 70) rfl)
theorem wm2_71 : Cond.code yX4_stopWriting prog_6_method_5_code 1 (Option.none : Option Jvm.ClassFile.FieldType) ∈ lw_tbl := in_t2 (List.mem_of_getElem? (i := 71) rfl)
theorem wm2_72 : Cond.methodLink "HedgeMessages" 56 yX5_placeTwig ∈ lw_tbl := in_t2 (List.mem_of_getElem? (i := 72) rfl)
theorem wm2_73 : Cond.instanceMethod yX5_placeTwig ∈ lw_tbl := in_t2 (List.mem_of_getElem? (i := 73) rfl)
theorem wm2_74 : Cond.selects "HedgeMessages$Hedge" yX5_placeTwig yX5_placeTwig ∈ lw_tbl := in_t2 (List.mem_of_getElem? (i := 74) rfl)
theorem wm2_75 : Cond.code yX5_placeTwig prog_7_method_4_code 5 (Option.none : Option Jvm.ClassFile.FieldType) ∈ lw_tbl := in_t2 (List.mem_of_getElem? (i := 75) rfl)
theorem wm2_76 : Cond.methodLink "HedgeMessages$Hedge" 100 yX8_set ∈ lw_tbl := in_t2 (List.mem_of_getElem? (i := 76) rfl)
theorem wm2_77 : Cond.instanceMethod yX8_set ∈ lw_tbl := in_t2 (List.mem_of_getElem? (i := 77) rfl)
theorem wm2_78 : Cond.selects "HedgeMessages$Row" yX8_set yX8_set ∈ lw_tbl := in_t2 (List.mem_of_getElem? (i := 78) rfl)
theorem wm2_79 : Cond.code yX8_set prog_10_method_3_code 3 (Option.none : Option Jvm.ClassFile.FieldType) ∈ lw_tbl := in_t2 (List.mem_of_getElem? (i := 79) rfl)
theorem wm2_80 : Cond.methodLink "HedgeMessages" 60 yX5_placeNest ∈ lw_tbl := in_t2 (List.mem_of_getElem? (i := 80) rfl)
theorem wm2_81 : Cond.instanceMethod yX5_placeNest ∈ lw_tbl := in_t2 (List.mem_of_getElem? (i := 81) rfl)
theorem wm2_82 : Cond.selects "HedgeMessages$Hedge" yX5_placeNest yX5_placeNest ∈ lw_tbl := in_t2 (List.mem_of_getElem? (i := 82) rfl)
theorem wm2_83 : Cond.code yX5_placeNest prog_7_method_5_code 3 (Option.none : Option Jvm.ClassFile.FieldType) ∈ lw_tbl := in_t2 (List.mem_of_getElem? (i := 83) rfl)
theorem wm2_85 : Cond.methodLink "HedgeMessages" 66 yX5_receiveText ∈ lw_tbl := in_t2 (List.mem_of_getElem? (i := 85) rfl)
theorem wm2_86 : Cond.instanceMethod yX5_receiveText ∈ lw_tbl := in_t2 (List.mem_of_getElem? (i := 86) rfl)
theorem wm2_87 : Cond.selects "HedgeMessages$Hedge" yX5_receiveText yX5_receiveText ∈ lw_tbl := in_t2 (List.mem_of_getElem? (i := 87) rfl)
theorem wm2_88 : Cond.code yX5_receiveText prog_7_method_7_code 5 (Option.none : Option Jvm.ClassFile.FieldType) ∈ lw_tbl := in_t2 (List.mem_of_getElem? (i := 88) rfl)
theorem wm2_89 : Cond.methodLink "HedgeMessages$Hedge" 115 yJ0_length_8abf5 ∈ lw_tbl := in_t2 (List.mem_of_getElem? (i := 89) rfl)
theorem wm2_90 : Cond.instanceMethod yJ0_length_8abf5 ∈ lw_tbl := in_t2 (List.mem_of_getElem? (i := 90) rfl)
theorem wm2_91 : Cond.selects "java/lang/String" yJ0_length_8abf5 yJ0_length_8abf5 ∈ lw_tbl := in_t2 (List.mem_of_getElem? (i := 91) rfl)
theorem wm2_92 : Cond.code yJ0_length_8abf5 prog_23_method_54_code 1 (Option.some Jvm.ClassFile.FieldType.int) ∈ lw_tbl := in_t2 (List.mem_of_getElem? (i := 92) rfl)
theorem wm2_93 : Cond.methodLink "java/lang/String" 335 yJ0_coder_7d493 ∈ lw_tbl := in_t2 (List.mem_of_getElem? (i := 93) rfl)
theorem wm2_94 : Cond.instanceMethod yJ0_coder_7d493 ∈ lw_tbl := in_t2 (List.mem_of_getElem? (i := 94) rfl)
theorem wm2_95 : Cond.selects "java/lang/String" yJ0_coder_7d493 yJ0_coder_7d493 ∈ lw_tbl := in_t2 (List.mem_of_getElem? (i := 95) rfl)
theorem wm2_96 : Cond.code yJ0_coder_7d493 prog_23_method_152_code 1 (Option.some Jvm.ClassFile.FieldType.byte) ∈ lw_tbl := in_t2 (List.mem_of_getElem? (i := 96) rfl)
theorem wm2_97 : Cond.fieldLink "java/lang/String" 38 "java/lang/String" "COMPACT_STRINGS" "Z" ∈ lw_tbl := in_t2 (List.mem_of_getElem? (i := 97) rfl)
theorem wm2_99 : Cond.methodLink "HedgeMessages$Hedge" 121 yJ0_charAt_5068e ∈ lw_tbl := in_t2 (List.mem_of_getElem? (i := 99) rfl)
theorem wm2_100 : Cond.instanceMethod yJ0_charAt_5068e ∈ lw_tbl := in_t2 (List.mem_of_getElem? (i := 100) rfl)
theorem wm2_101 : Cond.selects "java/lang/String" yJ0_charAt_5068e yJ0_charAt_5068e ∈ lw_tbl := in_t2 (List.mem_of_getElem? (i := 101) rfl)
theorem wm2_102 : Cond.code yJ0_charAt_5068e prog_23_method_56_code 2 (Option.some Jvm.ClassFile.FieldType.char) ∈ lw_tbl := in_t2 (List.mem_of_getElem? (i := 102) rfl)
theorem wm2_103 : Cond.methodLink "java/lang/String" 492 yJ0_isLatin1_aae02 ∈ lw_tbl := in_t2 (List.mem_of_getElem? (i := 103) rfl)
theorem wm2_104 : Cond.instanceMethod yJ0_isLatin1_aae02 ∈ lw_tbl := in_t2 (List.mem_of_getElem? (i := 104) rfl)
theorem wm2_105 : Cond.selects "java/lang/String" yJ0_isLatin1_aae02 yJ0_isLatin1_aae02 ∈ lw_tbl := in_t2 (List.mem_of_getElem? (i := 105) rfl)
theorem wm2_106 : Cond.code yJ0_isLatin1_aae02 prog_23_method_154_code 1 (Option.some Jvm.ClassFile.FieldType.boolean) ∈ lw_tbl := in_t2 (List.mem_of_getElem? (i := 106) rfl)
theorem wm2_107 : Cond.methodLink "java/lang/String" 495 yJ1_charAt_3b067 ∈ lw_tbl := in_t2 (List.mem_of_getElem? (i := 107) rfl)
theorem wm2_108 : Cond.static yJ1_charAt_3b067 ∈ lw_tbl := in_t2 (List.mem_of_getElem? (i := 108) rfl)
theorem wm2_109 : Cond.code yJ1_charAt_3b067 prog_25_method_2_code 2 (Option.some Jvm.ClassFile.FieldType.char) ∈ lw_tbl := in_t2 (List.mem_of_getElem? (i := 109) rfl)
theorem wm2_110 : Cond.methodLink "java/lang/StringLatin1" 9 yJ0_checkIndex_df160 ∈ lw_tbl := in_t2 (List.mem_of_getElem? (i := 110) rfl)
theorem wm2_111 : Cond.static yJ0_checkIndex_df160 ∈ lw_tbl := in_t2 (List.mem_of_getElem? (i := 111) rfl)
theorem wm2_112 : Cond.code yJ0_checkIndex_df160 prog_23_method_155_code 2 (Option.none : Option Jvm.ClassFile.FieldType) ∈ lw_tbl := in_t2 (List.mem_of_getElem? (i := 112) rfl)
theorem wm2_113 : Cond.fieldLink "java/lang/String" 1053 "jdk/internal/util/Preconditions" "SIOOBE_FORMATTER" "Ljava/util/function/BiFunction;" ∈ lw_tbl := in_t2 (List.mem_of_getElem? (i := 113) rfl)
theorem wm2_115 : Cond.methodLink "java/lang/String" 1059 yJ3_checkIndex_8e157 ∈ lw_tbl := in_t2 (List.mem_of_getElem? (i := 115) rfl)
theorem wm2_116 : Cond.static yJ3_checkIndex_8e157 ∈ lw_tbl := in_t2 (List.mem_of_getElem? (i := 116) rfl)
theorem wm2_117 : Cond.code yJ3_checkIndex_8e157 prog_31_method_11_code 3 (Option.some Jvm.ClassFile.FieldType.int) ∈ lw_tbl := in_t2 (List.mem_of_getElem? (i := 117) rfl)
theorem wm2_118 : Cond.methodLink "java/lang/String" 498 yJ2_charAt_3b067 ∈ lw_tbl := in_t2 (List.mem_of_getElem? (i := 118) rfl)
theorem wm2_119 : Cond.static yJ2_charAt_3b067 ∈ lw_tbl := in_t2 (List.mem_of_getElem? (i := 119) rfl)
theorem wm2_120 : Cond.code yJ2_charAt_3b067 prog_26_method_83_code 2 (Option.some Jvm.ClassFile.FieldType.char) ∈ lw_tbl := in_t2 (List.mem_of_getElem? (i := 120) rfl)
theorem wm2_121 : Cond.methodLink "java/lang/StringUTF16" 67 yJ2_checkIndex_2214a ∈ lw_tbl := in_t2 (List.mem_of_getElem? (i := 121) rfl)
theorem wm2_122 : Cond.static yJ2_checkIndex_2214a ∈ lw_tbl := in_t2 (List.mem_of_getElem? (i := 122) rfl)
theorem wm2_123 : Cond.code yJ2_checkIndex_2214a prog_26_method_91_code 2 (Option.none : Option Jvm.ClassFile.FieldType) ∈ lw_tbl := in_t2 (List.mem_of_getElem? (i := 123) rfl)
theorem wm2_124 : Cond.methodLink "java/lang/StringUTF16" 48 yJ2_length_9d52b ∈ lw_tbl := in_t2 (List.mem_of_getElem? (i := 124) rfl)
theorem wm2_125 : Cond.static yJ2_length_9d52b ∈ lw_tbl := in_t2 (List.mem_of_getElem? (i := 125) rfl)
theorem wm2_126 : Cond.code yJ2_length_9d52b prog_26_method_6_code 1 (Option.some Jvm.ClassFile.FieldType.int) ∈ lw_tbl := in_t2 (List.mem_of_getElem? (i := 126) rfl)
theorem wm2_127 : Cond.methodLink "java/lang/StringUTF16" 414 yJ0_checkIndex_df160 ∈ lw_tbl := in_t2 (List.mem_of_getElem? (i := 127) rfl)
theorem wm2_128 : Cond.methodLink "java/lang/StringUTF16" 71 yJ2_getChar_3b067 ∈ lw_tbl := in_t2 (List.mem_of_getElem? (i := 128) rfl)
theorem wm2_129 : Cond.static yJ2_getChar_3b067 ∈ lw_tbl := in_t2 (List.mem_of_getElem? (i := 129) rfl)
theorem wm2_130 : Cond.code yJ2_getChar_3b067 prog_26_method_5_code 2 (Option.some Jvm.ClassFile.FieldType.char) ∈ lw_tbl := in_t2 (List.mem_of_getElem? (i := 130) rfl)
theorem wm2_131 : Cond.fieldLink "java/lang/StringUTF16" 44 "java/lang/StringUTF16" "$assertionsDisabled" "Z" ∈ lw_tbl := in_t2 (List.mem_of_getElem? (i := 131) rfl)
theorem wm2_133 : Cond.fieldLink "java/lang/StringUTF16" 59 "java/lang/StringUTF16" "HI_BYTE_SHIFT" "I" ∈ lw_tbl := in_t2 (List.mem_of_getElem? (i := 133) rfl)
theorem wm2_135 : Cond.fieldLink "java/lang/StringUTF16" 63 "java/lang/StringUTF16" "LO_BYTE_SHIFT" "I" ∈ lw_tbl := in_t2 (List.mem_of_getElem? (i := 135) rfl)
theorem wm2_137 : Cond.methodLink "HedgeMessages$Hedge" 125 yX5_receive ∈ lw_tbl := in_t2 (List.mem_of_getElem? (i := 137) rfl)
theorem wm2_138 : Cond.instanceMethod yX5_receive ∈ lw_tbl := in_t2 (List.mem_of_getElem? (i := 138) rfl)
theorem wm2_139 : Cond.selects "HedgeMessages$Hedge" yX5_receive yX5_receive ∈ lw_tbl := in_t2 (List.mem_of_getElem? (i := 139) rfl)
theorem wm2_140 : Cond.code yX5_receive prog_7_method_6_code 6 (Option.none : Option Jvm.ClassFile.FieldType) ∈ lw_tbl := in_t2 (List.mem_of_getElem? (i := 140) rfl)
theorem wm2_141 : Cond.methodLink "HedgeMessages$Hedge" 104 yX5_gardener ∈ lw_tbl := in_t2 (List.mem_of_getElem? (i := 141) rfl)
theorem wm2_142 : Cond.instanceMethod yX5_gardener ∈ lw_tbl := in_t2 (List.mem_of_getElem? (i := 142) rfl)
theorem wm2_143 : Cond.selects "HedgeMessages$Hedge" yX5_gardener yX5_gardener ∈ lw_tbl := in_t2 (List.mem_of_getElem? (i := 143) rfl)
theorem wm2_144 : Cond.code yX5_gardener prog_7_method_12_code 2 (Option.some (Jvm.ClassFile.FieldType.object "HedgeMessages$Gardener")) ∈ lw_tbl := in_t2 (List.mem_of_getElem? (i := 144) rfl)
theorem wm2_145 : Cond.methodLink "HedgeMessages$Hedge" 108 yX4_enqueue ∈ lw_tbl := in_t2 (List.mem_of_getElem? (i := 145) rfl)
theorem wm2_146 : Cond.instanceMethod yX4_enqueue ∈ lw_tbl := in_t2 (List.mem_of_getElem? (i := 146) rfl)
theorem wm2_147 : Cond.selects "HedgeMessages$Gardener" yX4_enqueue yX4_enqueue ∈ lw_tbl := in_t2 (List.mem_of_getElem? (i := 147) rfl)
theorem wm2_148 : Cond.code yX4_enqueue prog_6_method_9_code 4 (Option.none : Option Jvm.ClassFile.FieldType) ∈ lw_tbl := in_t2 (List.mem_of_getElem? (i := 148) rfl)
theorem wm2_149 : Cond.methodLink "HedgeMessages$Gardener" 66 yX8_copyPart ∈ lw_tbl := in_t2 (List.mem_of_getElem? (i := 149) rfl)
theorem wm2_150 : Cond.instanceMethod yX8_copyPart ∈ lw_tbl := in_t2 (List.mem_of_getElem? (i := 150) rfl)
theorem wm2_151 : Cond.selects "HedgeMessages$Row" yX8_copyPart yX8_copyPart ∈ lw_tbl := in_t2 (List.mem_of_getElem? (i := 151) rfl)
theorem wm2_152 : Cond.code yX8_copyPart prog_10_method_6_code 6 (Option.none : Option Jvm.ClassFile.FieldType) ∈ lw_tbl := in_t2 (List.mem_of_getElem? (i := 152) rfl)
theorem wm2_153 : Cond.methodLink "HedgeMessages$Row" 17 ({ cls := "java/lang/System", name := "arraycopy", desc := "(Ljava/lang/Object;ILjava/lang/Object;II)V" } : Jvm.MethodName) ∈ lw_tbl := in_t2 (List.mem_of_getElem? (i := 153) rfl)
theorem wm2_154 : Cond.static ({ cls := "java/lang/System", name := "arraycopy", desc := "(Ljava/lang/Object;ILjava/lang/Object;II)V" } : Jvm.MethodName) ∈ lw_tbl := in_t2 (List.mem_of_getElem? (i := 154) rfl)
theorem wm2_155 : Cond.native ({ cls := "java/lang/System", name := "arraycopy", desc := "(Ljava/lang/Object;ILjava/lang/Object;II)V" } : Jvm.MethodName) ∈ lw_tbl := in_t2 (List.mem_of_getElem? (i := 155) rfl)
theorem wm2_156 : Cond.methodLink "HedgeMessages$Gardener" 70 yX8_set ∈ lw_tbl := in_t2 (List.mem_of_getElem? (i := 156) rfl)
theorem wm2_159 : Cond.fieldLink "HedgeMessages" 10 "HedgeMessages" "hedge" "LHedgeMessages$Hedge;" ∈ lw_tbl := in_t2 (List.mem_of_getElem? (i := 159) rfl)
theorem wm2_160 : Cond.fieldLink "HedgeMessages" 16 "HedgeMessages" "scratch" "LHedgeMessages$Hedge;" ∈ lw_tbl := in_t2 (List.mem_of_getElem? (i := 160) rfl)
theorem wm2_161 : Cond.fieldLink "HedgeMessages" 19 "HedgeMessages" "saved" "LHedgeMessages$Hedge;" ∈ lw_tbl := in_t2 (List.mem_of_getElem? (i := 161) rfl)
theorem wm2_162 : Cond.fieldLink "HedgeMessages" 373 "HedgeMessages" "hasSaved" "Z" ∈ lw_tbl := in_t2 (List.mem_of_getElem? (i := 162) rfl)
theorem wm2_163 : Cond.fieldLink "HedgeMessages" 25 "HedgeMessages" "history" "LHedgeMessages$History;" ∈ lw_tbl := in_t2 (List.mem_of_getElem? (i := 163) rfl)
theorem wm2_164 : Cond.fieldLink "HedgeMessages" 32 "HedgeMessages" "text" "LHedgeMessages$Text;" ∈ lw_tbl := in_t2 (List.mem_of_getElem? (i := 164) rfl)
theorem wm2_165 : Cond.fieldLink "HedgeMessages" 39 "HedgeMessages" "commands" "LHedgeMessages$CommandList;" ∈ lw_tbl := in_t2 (List.mem_of_getElem? (i := 165) rfl)
theorem wm2_166 : Cond.fieldLink "HedgeMessages" 48 "HedgeMessages" "output" "LHedgeMessages$Row;" ∈ lw_tbl := in_t2 (List.mem_of_getElem? (i := 166) rfl)
theorem wm2_167 : Cond.laysFinal "HedgeMessages" "HedgeMessages" "hedge" "LHedgeMessages$Hedge;" ∈ lw_tbl := in_t2 (List.mem_of_getElem? (i := 167) rfl)
theorem wm2_169 : Cond.laysFinal "HedgeMessages" "HedgeMessages" "scratch" "LHedgeMessages$Hedge;" ∈ lw_tbl := in_t2 (List.mem_of_getElem? (i := 169) rfl)
theorem wm2_171 : Cond.laysFinal "HedgeMessages" "HedgeMessages" "saved" "LHedgeMessages$Hedge;" ∈ lw_tbl := in_t2 (List.mem_of_getElem? (i := 171) rfl)
theorem wm2_173 : Cond.lays "HedgeMessages" "HedgeMessages" "hasSaved" "Z" ∈ lw_tbl := in_t2 (List.mem_of_getElem? (i := 173) rfl)
theorem wm2_175 : Cond.laysFinal "HedgeMessages" "HedgeMessages" "history" "LHedgeMessages$History;" ∈ lw_tbl := in_t2 (List.mem_of_getElem? (i := 175) rfl)
theorem wm2_177 : Cond.laysFinal "HedgeMessages" "HedgeMessages" "text" "LHedgeMessages$Text;" ∈ lw_tbl := in_t2 (List.mem_of_getElem? (i := 177) rfl)
theorem wm2_179 : Cond.laysFinal "HedgeMessages" "HedgeMessages" "commands" "LHedgeMessages$CommandList;" ∈ lw_tbl := in_t2 (List.mem_of_getElem? (i := 179) rfl)
theorem wm2_181 : Cond.laysFinal "HedgeMessages" "HedgeMessages" "output" "LHedgeMessages$Row;" ∈ lw_tbl := in_t2 (List.mem_of_getElem? (i := 181) rfl)
theorem wm2_183 : Cond.lays "HedgeMessages" "HedgeMessages" "outputLength" "I" ∈ lw_tbl := in_t2 (List.mem_of_getElem? (i := 183) rfl)
theorem wm2_186 : Cond.arrayClass Jvm.ClassFile.FieldType.byte ∈ lw_tbl := in_t2 (List.mem_of_getElem? (i := 186) rfl)
theorem wm2_187 : Cond.methodLink "HedgeMessagesLaw" 88 yX10_day ∈ lw_tbl := in_t2 (List.mem_of_getElem? (i := 187) rfl)
theorem wm2_188 : Cond.instanceMethod yX10_day ∈ lw_tbl := in_t2 (List.mem_of_getElem? (i := 188) rfl)
theorem wm2_189 : Cond.selects "HedgeMessages" yX10_day yX10_day ∈ lw_tbl := in_t2 (List.mem_of_getElem? (i := 189) rfl)
theorem wm2_190 : Cond.code yX10_day prog_1_method_9_code 1 (Option.some Jvm.ClassFile.FieldType.int) ∈ lw_tbl := in_t2 (List.mem_of_getElem? (i := 190) rfl)
theorem wm2_191 : Cond.methodLink "HedgeMessagesLaw" 305 yX10_save ∈ lw_tbl := in_t2 (List.mem_of_getElem? (i := 191) rfl)
theorem wm2_192 : Cond.instanceMethod yX10_save ∈ lw_tbl := in_t2 (List.mem_of_getElem? (i := 192) rfl)
theorem wm2_193 : Cond.selects "HedgeMessages" yX10_save yX10_save ∈ lw_tbl := in_t2 (List.mem_of_getElem? (i := 193) rfl)
theorem wm2_194 : Cond.code yX10_save prog_1_method_61_code 1 (Option.some Jvm.ClassFile.FieldType.int) ∈ lw_tbl := in_t2 (List.mem_of_getElem? (i := 194) rfl)
theorem wm2_195 : Cond.methodLink "HedgeMessages" 101 yX5_copyFrom ∈ lw_tbl := in_t2 (List.mem_of_getElem? (i := 195) rfl)
theorem wm2_196 : Cond.instanceMethod yX5_copyFrom ∈ lw_tbl := in_t2 (List.mem_of_getElem? (i := 196) rfl)
theorem wm2_197 : Cond.selects "HedgeMessages$Hedge" yX5_copyFrom yX5_copyFrom ∈ lw_tbl := in_t2 (List.mem_of_getElem? (i := 197) rfl)
theorem wm2_198 : Cond.code yX5_copyFrom prog_7_method_2_code 2 (Option.none : Option Jvm.ClassFile.FieldType) ∈ lw_tbl := in_t2 (List.mem_of_getElem? (i := 198) rfl)
theorem wm2_199 : Cond.methodLink "HedgeMessages$Hedge" 74 yX8_copyFrom ∈ lw_tbl := in_t2 (List.mem_of_getElem? (i := 199) rfl)
theorem wm2_200 : Cond.instanceMethod yX8_copyFrom ∈ lw_tbl := in_t2 (List.mem_of_getElem? (i := 200) rfl)
theorem wm2_201 : Cond.selects "HedgeMessages$Row" yX8_copyFrom yX8_copyFrom ∈ lw_tbl := in_t2 (List.mem_of_getElem? (i := 201) rfl)
theorem wm2_202 : Cond.code yX8_copyFrom prog_10_method_5_code 2 (Option.none : Option Jvm.ClassFile.FieldType) ∈ lw_tbl := in_t2 (List.mem_of_getElem? (i := 202) rfl)
theorem wm2_203 : Cond.methodLink "HedgeMessages$Row" 13 yX8_copyPart ∈ lw_tbl := in_t2 (List.mem_of_getElem? (i := 203) rfl)
theorem wm2_204 : Cond.methodLink "HedgeMessages$Hedge" 78 yX4_copyFrom ∈ lw_tbl := in_t2 (List.mem_of_getElem? (i := 204) rfl)
theorem wm2_205 : Cond.instanceMethod yX4_copyFrom ∈ lw_tbl := in_t2 (List.mem_of_getElem? (i := 205) rfl)
theorem wm2_206 : Cond.selects "HedgeMessages$Gardener" yX4_copyFrom yX4_copyFrom ∈ lw_tbl := in_t2 (List.mem_of_getElem? (i := 206) rfl)
theorem wm2_207 : Cond.code yX4_copyFrom prog_6_method_3_code 2 (Option.none : Option Jvm.ClassFile.FieldType) ∈ lw_tbl := in_t2 (List.mem_of_getElem? (i := 207) rfl)
theorem wm2_208 : Cond.methodLink "HedgeMessages$Gardener" 42 yX8_copyFrom ∈ lw_tbl := in_t2 (List.mem_of_getElem? (i := 208) rfl)
theorem wm2_209 : Cond.methodLink "HedgeMessages$Hedge" 81 yX7_copyFrom ∈ lw_tbl := in_t2 (List.mem_of_getElem? (i := 209) rfl)
theorem wm2_210 : Cond.instanceMethod yX7_copyFrom ∈ lw_tbl := in_t2 (List.mem_of_getElem? (i := 210) rfl)
theorem wm2_211 : Cond.selects "HedgeMessages$PostedMessages" yX7_copyFrom yX7_copyFrom ∈ lw_tbl := in_t2 (List.mem_of_getElem? (i := 211) rfl)
theorem wm2_212 : Cond.code yX7_copyFrom prog_9_method_2_code 2 (Option.none : Option Jvm.ClassFile.FieldType) ∈ lw_tbl := in_t2 (List.mem_of_getElem? (i := 212) rfl)
theorem wm2_213 : Cond.methodLink "HedgeMessages$PostedMessages" 26 yX8_copyFrom ∈ lw_tbl := in_t2 (List.mem_of_getElem? (i := 213) rfl)
theorem wm2_214 : Cond.methodLink "HedgeMessagesLaw" 308 yX10_restore ∈ lw_tbl := in_t2 (List.mem_of_getElem? (i := 214) rfl)
theorem wm2_215 : Cond.instanceMethod yX10_restore ∈ lw_tbl := in_t2 (List.mem_of_getElem? (i := 215) rfl)
theorem wm2_216 : Cond.selects "HedgeMessages" yX10_restore yX10_restore ∈ lw_tbl := in_t2 (List.mem_of_getElem? (i := 216) rfl)
theorem wm2_217 : Cond.code yX10_restore prog_1_method_62_code 1 (Option.some Jvm.ClassFile.FieldType.int) ∈ lw_tbl := in_t2 (List.mem_of_getElem? (i := 217) rfl)
theorem wm2_218 : Cond.classLink "HedgeMessages" 78 "java/lang/IllegalStateException" ∈ lw_tbl := in_t2 (List.mem_of_getElem? (i := 218) rfl)
theorem wm2_219 : Cond.instantiable "java/lang/IllegalStateException" 6 ∈ lw_tbl := in_t2 (List.mem_of_getElem? (i := 219) rfl)
theorem wm2_220 : Cond.castable "java/lang/IllegalStateException" "java/lang/IllegalStateException" ∈ lw_tbl := in_t2 (List.mem_of_getElem? (i := 220) rfl)
theorem wm2_227 : Cond.selects "java/lang/IllegalStateException" ({ cls := "java/lang/Throwable", name := "fillInStackTrace", desc := "(I)Ljava/lang/Throwable;" } : Jvm.MethodName) ({ cls := "java/lang/Throwable", name := "fillInStackTrace", desc := "(I)Ljava/lang/Throwable;" } : Jvm.MethodName) ∈ lw_tbl := in_t2 (List.mem_of_getElem? (i := 227) rfl)
theorem wm2_228 : Cond.selects "java/lang/IllegalStateException" ({ cls := "java/lang/Throwable", name := "fillInStackTrace", desc := "()Ljava/lang/Throwable;" } : Jvm.MethodName) ({ cls := "java/lang/Throwable", name := "fillInStackTrace", desc := "()Ljava/lang/Throwable;" } : Jvm.MethodName) ∈ lw_tbl := in_t2 (List.mem_of_getElem? (i := 228) rfl)
theorem wm2_229 : Cond.lays "java/lang/IllegalStateException" "java/lang/Throwable" "cause" "Ljava/lang/Throwable;" ∈ lw_tbl := in_t2 (List.mem_of_getElem? (i := 229) rfl)
theorem wm2_230 : Cond.lays "java/lang/Throwable" "java/lang/Throwable" "cause" "Ljava/lang/Throwable;" ∈ lw_tbl := in_t2 (List.mem_of_getElem? (i := 230) rfl)
theorem wm2_231 : Cond.lays "java/lang/IllegalStateException" "java/lang/Throwable" "stackTrace" "[Ljava/lang/StackTraceElement;" ∈ lw_tbl := in_t2 (List.mem_of_getElem? (i := 231) rfl)
theorem wm2_232 : Cond.lays "java/lang/Throwable" "java/lang/Throwable" "stackTrace" "[Ljava/lang/StackTraceElement;" ∈ lw_tbl := in_t2 (List.mem_of_getElem? (i := 232) rfl)
theorem wm2_233 : Cond.lays "java/lang/IllegalStateException" "java/lang/Throwable" "suppressedExceptions" "Ljava/util/List;" ∈ lw_tbl := in_t2 (List.mem_of_getElem? (i := 233) rfl)
theorem wm2_234 : Cond.lays "java/lang/Throwable" "java/lang/Throwable" "suppressedExceptions" "Ljava/util/List;" ∈ lw_tbl := in_t2 (List.mem_of_getElem? (i := 234) rfl)
theorem wm2_235 : Cond.lays "java/lang/IllegalStateException" "java/lang/Throwable" "detailMessage" "Ljava/lang/String;" ∈ lw_tbl := in_t2 (List.mem_of_getElem? (i := 235) rfl)
theorem wm2_236 : Cond.lays "java/lang/Throwable" "java/lang/Throwable" "detailMessage" "Ljava/lang/String;" ∈ lw_tbl := in_t2 (List.mem_of_getElem? (i := 236) rfl)
theorem wm2_237 : Cond.lays "java/lang/IllegalStateException" "java/lang/Throwable" "backtrace" "Ljava/lang/Object;" ∈ lw_tbl := in_t2 (List.mem_of_getElem? (i := 237) rfl)
theorem wm2_238 : Cond.lays "java/lang/Throwable" "java/lang/Throwable" "backtrace" "Ljava/lang/Object;" ∈ lw_tbl := in_t2 (List.mem_of_getElem? (i := 238) rfl)
theorem wm2_239 : Cond.fieldLink "java/lang/Throwable" 198 "java/lang/Throwable" "backtrace" "Ljava/lang/Object;" ∈ lw_tbl := in_t2 (List.mem_of_getElem? (i := 239) rfl)
theorem wm3_1 : Cond.instanceMethod ({ cls := "java/lang/Throwable", name := "<init>", desc := "()V" } : Jvm.MethodName) ∈ lw_tbl := in_t3 (List.mem_of_getElem? (i := 1) rfl)
theorem wm3_2 : Cond.code ({ cls := "java/lang/Throwable", name := "<init>", desc := "()V" } : Jvm.MethodName) prog_28_method_1_code 1 (Option.none : Option Jvm.ClassFile.FieldType) ∈ lw_tbl := in_t3 (List.mem_of_getElem? (i := 2) rfl)
theorem wm3_3 : Cond.methodLink "java/lang/Throwable" 1 ({ cls := "java/lang/Object", name := "<init>", desc := "()V" } : Jvm.MethodName) ∈ lw_tbl := in_t3 (List.mem_of_getElem? (i := 3) rfl)
theorem wm3_4 : Cond.fieldLink "java/lang/Throwable" 13 "java/lang/Throwable" "UNASSIGNED_STACK" "[Ljava/lang/StackTraceElement;" ∈ lw_tbl := in_t3 (List.mem_of_getElem? (i := 4) rfl)
theorem wm3_6 : Cond.fieldLink "java/lang/Throwable" 20 "java/lang/Throwable" "SUPPRESSED_SENTINEL" "Ljava/util/List;" ∈ lw_tbl := in_t3 (List.mem_of_getElem? (i := 6) rfl)
theorem wm3_8 : Cond.methodLink "java/lang/Throwable" 27 ({ cls := "java/lang/Throwable", name := "fillInStackTrace", desc := "()Ljava/lang/Throwable;" } : Jvm.MethodName) ∈ lw_tbl := in_t3 (List.mem_of_getElem? (i := 8) rfl)
theorem wm3_9 : Cond.instanceMethod ({ cls := "java/lang/Throwable", name := "fillInStackTrace", desc := "()Ljava/lang/Throwable;" } : Jvm.MethodName) ∈ lw_tbl := in_t3 (List.mem_of_getElem? (i := 9) rfl)
theorem wm3_11 : Cond.selects "java/lang/IllegalArgumentException" ({ cls := "java/lang/Throwable", name := "fillInStackTrace", desc := "()Ljava/lang/Throwable;" } : Jvm.MethodName) ({ cls := "java/lang/Throwable", name := "fillInStackTrace", desc := "()Ljava/lang/Throwable;" } : Jvm.MethodName) ∈ lw_tbl := in_t3 (List.mem_of_getElem? (i := 11) rfl)
theorem wm3_12 : Cond.selects "java/lang/IndexOutOfBoundsException" ({ cls := "java/lang/Throwable", name := "fillInStackTrace", desc := "()Ljava/lang/Throwable;" } : Jvm.MethodName) ({ cls := "java/lang/Throwable", name := "fillInStackTrace", desc := "()Ljava/lang/Throwable;" } : Jvm.MethodName) ∈ lw_tbl := in_t3 (List.mem_of_getElem? (i := 12) rfl)
theorem wm3_14 : Cond.methodLink "java/lang/Throwable" 202 ({ cls := "java/lang/Throwable", name := "fillInStackTrace", desc := "(I)Ljava/lang/Throwable;" } : Jvm.MethodName) ∈ lw_tbl := in_t3 (List.mem_of_getElem? (i := 14) rfl)
theorem wm3_16 : Cond.instanceMethod ({ cls := "java/lang/Throwable", name := "fillInStackTrace", desc := "(I)Ljava/lang/Throwable;" } : Jvm.MethodName) ∈ lw_tbl := in_t3 (List.mem_of_getElem? (i := 16) rfl)
theorem wm3_17 : Cond.instantiable "java/lang/Throwable" 6 ∈ lw_tbl := in_t3 (List.mem_of_getElem? (i := 17) rfl)
theorem wm3_18 : Cond.native ({ cls := "java/lang/Throwable", name := "fillInStackTrace", desc := "(I)Ljava/lang/Throwable;" } : Jvm.MethodName) ∈ lw_tbl := in_t3 (List.mem_of_getElem? (i := 18) rfl)
theorem wm3_20 : Cond.methodLink "HedgeMessages" 82 ({ cls := "java/lang/IllegalStateException", name := "<init>", desc := "(Ljava/lang/String;)V" } : Jvm.MethodName) ∈ lw_tbl := in_t3 (List.mem_of_getElem? (i := 20) rfl)
theorem wm3_21 : Cond.instanceMethod ({ cls := "java/lang/IllegalStateException", name := "<init>", desc := "(Ljava/lang/String;)V" } : Jvm.MethodName) ∈ lw_tbl := in_t3 (List.mem_of_getElem? (i := 21) rfl)
theorem wm3_22 : Cond.code ({ cls := "java/lang/IllegalStateException", name := "<init>", desc := "(Ljava/lang/String;)V" } : Jvm.MethodName) prog_18_method_2_code 2 (Option.none : Option Jvm.ClassFile.FieldType) ∈ lw_tbl := in_t3 (List.mem_of_getElem? (i := 22) rfl)
theorem wm3_23 : Cond.methodLink "java/lang/IllegalStateException" 7 ({ cls := "java/lang/RuntimeException", name := "<init>", desc := "(Ljava/lang/String;)V" } : Jvm.MethodName) ∈ lw_tbl := in_t3 (List.mem_of_getElem? (i := 23) rfl)
theorem wm3_24 : Cond.instanceMethod ({ cls := "java/lang/RuntimeException", name := "<init>", desc := "(Ljava/lang/String;)V" } : Jvm.MethodName) ∈ lw_tbl := in_t3 (List.mem_of_getElem? (i := 24) rfl)
theorem wm3_25 : Cond.code ({ cls := "java/lang/RuntimeException", name := "<init>", desc := "(Ljava/lang/String;)V" } : Jvm.MethodName) prog_22_method_2_code 2 (Option.none : Option Jvm.ClassFile.FieldType) ∈ lw_tbl := in_t3 (List.mem_of_getElem? (i := 25) rfl)
theorem wm3_26 : Cond.methodLink "java/lang/RuntimeException" 7 ({ cls := "java/lang/Exception", name := "<init>", desc := "(Ljava/lang/String;)V" } : Jvm.MethodName) ∈ lw_tbl := in_t3 (List.mem_of_getElem? (i := 26) rfl)
theorem wm3_27 : Cond.instanceMethod ({ cls := "java/lang/Exception", name := "<init>", desc := "(Ljava/lang/String;)V" } : Jvm.MethodName) ∈ lw_tbl := in_t3 (List.mem_of_getElem? (i := 27) rfl)
theorem wm3_28 : Cond.code ({ cls := "java/lang/Exception", name := "<init>", desc := "(Ljava/lang/String;)V" } : Jvm.MethodName) prog_16_method_2_code 2 (Option.none : Option Jvm.ClassFile.FieldType) ∈ lw_tbl := in_t3 (List.mem_of_getElem? (i := 28) rfl)
theorem wm3_29 : Cond.methodLink "java/lang/Exception" 7 ({ cls := "java/lang/Throwable", name := "<init>", desc := "(Ljava/lang/String;)V" } : Jvm.MethodName) ∈ lw_tbl := in_t3 (List.mem_of_getElem? (i := 29) rfl)
theorem wm3_30 : Cond.instanceMethod ({ cls := "java/lang/Throwable", name := "<init>", desc := "(Ljava/lang/String;)V" } : Jvm.MethodName) ∈ lw_tbl := in_t3 (List.mem_of_getElem? (i := 30) rfl)
theorem wm3_31 : Cond.code ({ cls := "java/lang/Throwable", name := "<init>", desc := "(Ljava/lang/String;)V" } : Jvm.MethodName) prog_28_method_2_code 2 (Option.none : Option Jvm.ClassFile.FieldType) ∈ lw_tbl := in_t3 (List.mem_of_getElem? (i := 31) rfl)
theorem wm3_33 : Cond.fieldLink "java/lang/Throwable" 31 "java/lang/Throwable" "detailMessage" "Ljava/lang/String;" ∈ lw_tbl := in_t3 (List.mem_of_getElem? (i := 33) rfl)
theorem wm3_34 : Cond.fieldLink "java/lang/Throwable" 7 "java/lang/Throwable" "cause" "Ljava/lang/Throwable;" ∈ lw_tbl := in_t3 (List.mem_of_getElem? (i := 34) rfl)
theorem wm3_35 : Cond.fieldLink "java/lang/Throwable" 17 "java/lang/Throwable" "stackTrace" "[Ljava/lang/StackTraceElement;" ∈ lw_tbl := in_t3 (List.mem_of_getElem? (i := 35) rfl)
theorem wm3_36 : Cond.fieldLink "java/lang/Throwable" 24 "java/lang/Throwable" "suppressedExceptions" "Ljava/util/List;" ∈ lw_tbl := in_t3 (List.mem_of_getElem? (i := 36) rfl)
theorem wm3_41 : Cond.lays "java/lang/IllegalStateException" "java/lang/Throwable" "depth" "I" ∈ lw_tbl := in_t3 (List.mem_of_getElem? (i := 41) rfl)
theorem wm3_45 : Cond.methodLink "HedgeMessages" 105 yX6_forget ∈ lw_tbl := in_t3 (List.mem_of_getElem? (i := 45) rfl)
theorem wm3_46 : Cond.instanceMethod yX6_forget ∈ lw_tbl := in_t3 (List.mem_of_getElem? (i := 46) rfl)
theorem wm3_47 : Cond.selects "HedgeMessages$History" yX6_forget yX6_forget ∈ lw_tbl := in_t3 (List.mem_of_getElem? (i := 47) rfl)
theorem wm3_48 : Cond.code yX6_forget prog_8_method_2_code 1 (Option.none : Option Jvm.ClassFile.FieldType) ∈ lw_tbl := in_t3 (List.mem_of_getElem? (i := 48) rfl)
theorem wm3_49 : Cond.methodLink "HedgeMessagesLaw" 266 yL_cell ∈ lw_tbl := in_t3 (List.mem_of_getElem? (i := 49) rfl)
theorem wm3_50 : Cond.static yL_cell ∈ lw_tbl := in_t3 (List.mem_of_getElem? (i := 50) rfl)
theorem wm3_51 : Cond.code yL_cell method_2_code 2 (Option.some Jvm.ClassFile.FieldType.int) ∈ lw_tbl := in_t3 (List.mem_of_getElem? (i := 51) rfl)
theorem wm3_52 : Cond.constant "HedgeMessagesLaw" 7 (100000 : Int32) ∈ lw_tbl := in_t3 (List.mem_of_getElem? (i := 52) rfl)
theorem wm3_53 : Cond.methodLink "HedgeMessagesLaw" 8 yJ9_abs_0f7a4 ∈ lw_tbl := in_t3 (List.mem_of_getElem? (i := 53) rfl)
theorem wm3_54 : Cond.static yJ9_abs_0f7a4 ∈ lw_tbl := in_t3 (List.mem_of_getElem? (i := 54) rfl)
theorem wm3_55 : Cond.code yJ9_abs_0f7a4 prog_21_method_59_code 1 (Option.some Jvm.ClassFile.FieldType.int) ∈ lw_tbl := in_t3 (List.mem_of_getElem? (i := 55) rfl)
theorem wm3_56 : Cond.methodLink "HedgeMessagesLaw" 290 yL_load ∈ lw_tbl := in_t3 (List.mem_of_getElem? (i := 56) rfl)
theorem wm3_57 : Cond.static yL_load ∈ lw_tbl := in_t3 (List.mem_of_getElem? (i := 57) rfl)
theorem wm3_58 : Cond.code yL_load method_6_code 2 (Option.some Jvm.ClassFile.FieldType.int) ∈ lw_tbl := in_t3 (List.mem_of_getElem? (i := 58) rfl)
theorem wm3_59 : Cond.methodLink "HedgeMessagesLaw" 41 yL_comes ∈ lw_tbl := in_t3 (List.mem_of_getElem? (i := 59) rfl)
theorem wm3_60 : Cond.static yL_comes ∈ lw_tbl := in_t3 (List.mem_of_getElem? (i := 60) rfl)
theorem wm3_61 : Cond.code yL_comes method_5_code 5 (Option.none : Option Jvm.ClassFile.FieldType) ∈ lw_tbl := in_t3 (List.mem_of_getElem? (i := 61) rfl)
theorem wm3_62 : Cond.methodLink "HedgeMessagesLaw" 25 yJ0_length_8abf5 ∈ lw_tbl := in_t3 (List.mem_of_getElem? (i := 62) rfl)
theorem wm3_63 : Cond.methodLink "HedgeMessagesLaw" 30 yJ0_charAt_5068e ∈ lw_tbl := in_t3 (List.mem_of_getElem? (i := 63) rfl)
theorem wm3_64 : Cond.methodLink "HedgeMessagesLaw" 34 yX10_append ∈ lw_tbl := in_t3 (List.mem_of_getElem? (i := 64) rfl)
theorem wm3_65 : Cond.instanceMethod yX10_append ∈ lw_tbl := in_t3 (List.mem_of_getElem? (i := 65) rfl)
theorem wm3_66 : Cond.selects "HedgeMessages" yX10_append yX10_append ∈ lw_tbl := in_t3 (List.mem_of_getElem? (i := 66) rfl)
theorem wm3_67 : Cond.code yX10_append prog_1_method_2_code 6 (Option.some Jvm.ClassFile.FieldType.int) ∈ lw_tbl := in_t3 (List.mem_of_getElem? (i := 67) rfl)
theorem wm3_69 : Cond.methodLink "HedgeMessages" 85 yX9_appendBytes ∈ lw_tbl := in_t3 (List.mem_of_getElem? (i := 69) rfl)
theorem wm3_70 : Cond.instanceMethod yX9_appendBytes ∈ lw_tbl := in_t3 (List.mem_of_getElem? (i := 70) rfl)
theorem wm3_71 : Cond.selects "HedgeMessages$Text" yX9_appendBytes yX9_appendBytes ∈ lw_tbl := in_t3 (List.mem_of_getElem? (i := 71) rfl)
theorem wm3_72 : Cond.code yX9_appendBytes prog_11_method_2_code 2 (Option.none : Option Jvm.ClassFile.FieldType) ∈ lw_tbl := in_t3 (List.mem_of_getElem? (i := 72) rfl)
theorem wm3_73 : Cond.methodLink "HedgeMessages$Text" 27 yX8_set ∈ lw_tbl := in_t3 (List.mem_of_getElem? (i := 73) rfl)
theorem wm3_74 : Cond.methodLink "HedgeMessagesLaw" 38 yX10_truncate ∈ lw_tbl := in_t3 (List.mem_of_getElem? (i := 74) rfl)
theorem wm3_75 : Cond.instanceMethod yX10_truncate ∈ lw_tbl := in_t3 (List.mem_of_getElem? (i := 75) rfl)
theorem wm3_76 : Cond.selects "HedgeMessages" yX10_truncate yX10_truncate ∈ lw_tbl := in_t3 (List.mem_of_getElem? (i := 76) rfl)
theorem wm3_77 : Cond.code yX10_truncate prog_1_method_3_code 2 (Option.some Jvm.ClassFile.FieldType.int) ∈ lw_tbl := in_t3 (List.mem_of_getElem? (i := 77) rfl)
theorem wm3_78 : Cond.classLink "HedgeMessages" 88 "java/lang/IllegalArgumentException" ∈ lw_tbl := in_t3 (List.mem_of_getElem? (i := 78) rfl)
theorem wm3_79 : Cond.instantiable "java/lang/IllegalArgumentException" 6 ∈ lw_tbl := in_t3 (List.mem_of_getElem? (i := 79) rfl)
theorem wm3_80 : Cond.castable "java/lang/IllegalArgumentException" "java/lang/IllegalArgumentException" ∈ lw_tbl := in_t3 (List.mem_of_getElem? (i := 80) rfl)
theorem wm3_81 : Cond.selects "java/lang/IllegalArgumentException" ({ cls := "java/lang/Throwable", name := "fillInStackTrace", desc := "(I)Ljava/lang/Throwable;" } : Jvm.MethodName) ({ cls := "java/lang/Throwable", name := "fillInStackTrace", desc := "(I)Ljava/lang/Throwable;" } : Jvm.MethodName) ∈ lw_tbl := in_t3 (List.mem_of_getElem? (i := 81) rfl)
theorem wm3_82 : Cond.lays "java/lang/IllegalArgumentException" "java/lang/Throwable" "cause" "Ljava/lang/Throwable;" ∈ lw_tbl := in_t3 (List.mem_of_getElem? (i := 82) rfl)
theorem wm3_83 : Cond.lays "java/lang/IllegalArgumentException" "java/lang/Throwable" "stackTrace" "[Ljava/lang/StackTraceElement;" ∈ lw_tbl := in_t3 (List.mem_of_getElem? (i := 83) rfl)
theorem wm3_84 : Cond.lays "java/lang/IllegalArgumentException" "java/lang/Throwable" "suppressedExceptions" "Ljava/util/List;" ∈ lw_tbl := in_t3 (List.mem_of_getElem? (i := 84) rfl)
theorem wm3_85 : Cond.lays "java/lang/IllegalArgumentException" "java/lang/Throwable" "detailMessage" "Ljava/lang/String;" ∈ lw_tbl := in_t3 (List.mem_of_getElem? (i := 85) rfl)
theorem wm3_86 : Cond.lays "java/lang/IllegalArgumentException" "java/lang/Throwable" "backtrace" "Ljava/lang/Object;" ∈ lw_tbl := in_t3 (List.mem_of_getElem? (i := 86) rfl)
theorem wm3_88 : Cond.methodLink "HedgeMessages" 92 ({ cls := "java/lang/IllegalArgumentException", name := "<init>", desc := "(Ljava/lang/String;)V" } : Jvm.MethodName) ∈ lw_tbl := in_t3 (List.mem_of_getElem? (i := 88) rfl)
theorem wm3_89 : Cond.instanceMethod ({ cls := "java/lang/IllegalArgumentException", name := "<init>", desc := "(Ljava/lang/String;)V" } : Jvm.MethodName) ∈ lw_tbl := in_t3 (List.mem_of_getElem? (i := 89) rfl)
theorem wm3_90 : Cond.code ({ cls := "java/lang/IllegalArgumentException", name := "<init>", desc := "(Ljava/lang/String;)V" } : Jvm.MethodName) prog_17_method_2_code 2 (Option.none : Option Jvm.ClassFile.FieldType) ∈ lw_tbl := in_t3 (List.mem_of_getElem? (i := 90) rfl)
theorem wm3_91 : Cond.methodLink "java/lang/IllegalArgumentException" 7 ({ cls := "java/lang/RuntimeException", name := "<init>", desc := "(Ljava/lang/String;)V" } : Jvm.MethodName) ∈ lw_tbl := in_t3 (List.mem_of_getElem? (i := 91) rfl)
theorem wm3_92 : Cond.lays "java/lang/IllegalArgumentException" "java/lang/Throwable" "depth" "I" ∈ lw_tbl := in_t3 (List.mem_of_getElem? (i := 92) rfl)
theorem wm3_94 : Cond.methodLink "HedgeMessagesLaw" 47 yL_reads ∈ lw_tbl := in_t3 (List.mem_of_getElem? (i := 94) rfl)
theorem wm3_95 : Cond.static yL_reads ∈ lw_tbl := in_t3 (List.mem_of_getElem? (i := 95) rfl)
theorem wm3_97 : Cond.classLink "HedgeMessagesLaw" 20 "java/lang/IllegalArgumentException" ∈ lw_tbl := in_t3 (List.mem_of_getElem? (i := 97) rfl)
theorem wm3_98 : Cond.methodLink "HedgeMessagesLaw" 14 yX10_load ∈ lw_tbl := in_t3 (List.mem_of_getElem? (i := 98) rfl)
theorem wm3_99 : Cond.instanceMethod yX10_load ∈ lw_tbl := in_t3 (List.mem_of_getElem? (i := 99) rfl)
theorem wm3_100 : Cond.selects "HedgeMessages" yX10_load yX10_load ∈ lw_tbl := in_t3 (List.mem_of_getElem? (i := 100) rfl)
theorem wm3_101 : Cond.code yX10_load prog_1_method_4_code 2 (Option.some Jvm.ClassFile.FieldType.int) ∈ lw_tbl := in_t3 (List.mem_of_getElem? (i := 101) rfl)
theorem wm3_102 : Cond.methodLink "HedgeMessages" 93 yX3_read ∈ lw_tbl := in_t3 (List.mem_of_getElem? (i := 102) rfl)
theorem wm3_103 : Cond.static yX3_read ∈ lw_tbl := in_t3 (List.mem_of_getElem? (i := 103) rfl)
theorem wm3_104 : Cond.code yX3_read prog_5_method_2_code 3 (Option.some Jvm.ClassFile.FieldType.boolean) ∈ lw_tbl := in_t3 (List.mem_of_getElem? (i := 104) rfl)
theorem wm3_105 : Cond.methodLink "HedgeMessages$Configuration" 9 yX9_startReading ∈ lw_tbl := in_t3 (List.mem_of_getElem? (i := 105) rfl)
theorem wm3_106 : Cond.instanceMethod yX9_startReading ∈ lw_tbl := in_t3 (List.mem_of_getElem? (i := 106) rfl)
theorem wm3_107 : Cond.selects "HedgeMessages$Text" yX9_startReading yX9_startReading ∈ lw_tbl := in_t3 (List.mem_of_getElem? (i := 107) rfl)
theorem wm3_108 : Cond.code yX9_startReading prog_11_method_4_code 1 (Option.none : Option Jvm.ClassFile.FieldType) ∈ lw_tbl := in_t3 (List.mem_of_getElem? (i := 108) rfl)
theorem wm3_109 : Cond.methodLink "HedgeMessages$Configuration" 14 yX3_readHedge ∈ lw_tbl := in_t3 (List.mem_of_getElem? (i := 109) rfl)
theorem wm3_110 : Cond.static yX3_readHedge ∈ lw_tbl := in_t3 (List.mem_of_getElem? (i := 110) rfl)
theorem wm3_111 : Cond.code yX3_readHedge prog_5_method_3_code 8 (Option.some Jvm.ClassFile.FieldType.boolean) ∈ lw_tbl := in_t3 (List.mem_of_getElem? (i := 111) rfl)
theorem wm3_112 : Cond.methodLink "HedgeMessages$Configuration" 20 yX9_readToken ∈ lw_tbl := in_t3 (List.mem_of_getElem? (i := 112) rfl)
theorem wm3_113 : Cond.instanceMethod yX9_readToken ∈ lw_tbl := in_t3 (List.mem_of_getElem? (i := 113) rfl)
theorem wm3_114 : Cond.selects "HedgeMessages$Text" yX9_readToken yX9_readToken ∈ lw_tbl := in_t3 (List.mem_of_getElem? (i := 114) rfl)
theorem wm3_115 : Cond.code yX9_readToken prog_11_method_6_code 2 (Option.none : Option Jvm.ClassFile.FieldType) ∈ lw_tbl := in_t3 (List.mem_of_getElem? (i := 115) rfl)
theorem wm3_116 : Cond.methodLink "HedgeMessages$Text" 31 yX8_get ∈ lw_tbl := in_t3 (List.mem_of_getElem? (i := 116) rfl)
theorem wm3_117 : Cond.instanceMethod yX8_get ∈ lw_tbl := in_t3 (List.mem_of_getElem? (i := 117) rfl)
theorem wm3_118 : Cond.selects "HedgeMessages$Row" yX8_get yX8_get ∈ lw_tbl := in_t3 (List.mem_of_getElem? (i := 118) rfl)
theorem wm3_119 : Cond.code yX8_get prog_10_method_2_code 2 (Option.some Jvm.ClassFile.FieldType.int) ∈ lw_tbl := in_t3 (List.mem_of_getElem? (i := 119) rfl)
theorem wm3_120 : Cond.methodLinkNest "HedgeMessages$Text" 35 yX10_isLetter "HedgeMessages" ∈ lw_tbl := in_t3 (List.mem_of_getElem? (i := 120) rfl)
theorem wm3_121 : Cond.static yX10_isLetter ∈ lw_tbl := in_t3 (List.mem_of_getElem? (i := 121) rfl)
theorem wm3_122 : Cond.code yX10_isLetter prog_1_method_68_code 1 (Option.some Jvm.ClassFile.FieldType.boolean) ∈ lw_tbl := in_t3 (List.mem_of_getElem? (i := 122) rfl)
theorem wm3_123 : Cond.methodLinkNest "HedgeMessages$Text" 51 yX10_isDigit "HedgeMessages" ∈ lw_tbl := in_t3 (List.mem_of_getElem? (i := 123) rfl)
theorem wm3_124 : Cond.static yX10_isDigit ∈ lw_tbl := in_t3 (List.mem_of_getElem? (i := 124) rfl)
theorem wm3_125 : Cond.code yX10_isDigit prog_1_method_69_code 1 (Option.some Jvm.ClassFile.FieldType.boolean) ∈ lw_tbl := in_t3 (List.mem_of_getElem? (i := 125) rfl)
theorem wm3_127 : Cond.methodLink "HedgeMessages$Configuration" 32 yX9_isWord ∈ lw_tbl := in_t3 (List.mem_of_getElem? (i := 127) rfl)
theorem wm3_128 : Cond.instanceMethod yX9_isWord ∈ lw_tbl := in_t3 (List.mem_of_getElem? (i := 128) rfl)
theorem wm3_129 : Cond.selects "HedgeMessages$Text" yX9_isWord yX9_isWord ∈ lw_tbl := in_t3 (List.mem_of_getElem? (i := 129) rfl)
theorem wm3_130 : Cond.code yX9_isWord prog_11_method_8_code 3 (Option.some Jvm.ClassFile.FieldType.boolean) ∈ lw_tbl := in_t3 (List.mem_of_getElem? (i := 130) rfl)
theorem wm3_131 : Cond.methodLink "HedgeMessages$Text" 57 yJ0_length_8abf5 ∈ lw_tbl := in_t3 (List.mem_of_getElem? (i := 131) rfl)
theorem wm3_132 : Cond.methodLink "HedgeMessages$Text" 62 yJ0_charAt_5068e ∈ lw_tbl := in_t3 (List.mem_of_getElem? (i := 132) rfl)
theorem wm3_133 : Cond.methodLink "HedgeMessages$Configuration" 36 yX9_refuse ∈ lw_tbl := in_t3 (List.mem_of_getElem? (i := 133) rfl)
theorem wm3_134 : Cond.instanceMethod yX9_refuse ∈ lw_tbl := in_t3 (List.mem_of_getElem? (i := 134) rfl)
theorem wm3_135 : Cond.selects "HedgeMessages$Text" yX9_refuse yX9_refuse ∈ lw_tbl := in_t3 (List.mem_of_getElem? (i := 135) rfl)
theorem wm3_136 : Cond.code yX9_refuse prog_11_method_5_code 2 (Option.some Jvm.ClassFile.FieldType.boolean) ∈ lw_tbl := in_t3 (List.mem_of_getElem? (i := 136) rfl)
theorem wm3_137 : Cond.methodLink "HedgeMessages$Configuration" 40 yX9_readNumber ∈ lw_tbl := in_t3 (List.mem_of_getElem? (i := 137) rfl)
theorem wm3_138 : Cond.instanceMethod yX9_readNumber ∈ lw_tbl := in_t3 (List.mem_of_getElem? (i := 138) rfl)
theorem wm3_139 : Cond.selects "HedgeMessages$Text" yX9_readNumber yX9_readNumber ∈ lw_tbl := in_t3 (List.mem_of_getElem? (i := 139) rfl)
theorem wm3_140 : Cond.code yX9_readNumber prog_11_method_9_code 4 (Option.some Jvm.ClassFile.FieldType.boolean) ∈ lw_tbl := in_t3 (List.mem_of_getElem? (i := 140) rfl)
theorem wm3_141 : Cond.methodLink "HedgeMessages$Text" 66 yX9_readToken ∈ lw_tbl := in_t3 (List.mem_of_getElem? (i := 141) rfl)
theorem wm3_142 : Cond.methodLink "HedgeMessages$Text" 69 yX9_refuse ∈ lw_tbl := in_t3 (List.mem_of_getElem? (i := 142) rfl)
theorem wm3_143 : Cond.methodLink "HedgeMessages$Configuration" 48 yX5_layOut ∈ lw_tbl := in_t3 (List.mem_of_getElem? (i := 143) rfl)
theorem wm3_144 : Cond.methodLink "HedgeMessages$Configuration" 54 yX9_readSemicolon ∈ lw_tbl := in_t3 (List.mem_of_getElem? (i := 144) rfl)
theorem wm3_145 : Cond.instanceMethod yX9_readSemicolon ∈ lw_tbl := in_t3 (List.mem_of_getElem? (i := 145) rfl)
theorem wm3_146 : Cond.selects "HedgeMessages$Text" yX9_readSemicolon yX9_readSemicolon ∈ lw_tbl := in_t3 (List.mem_of_getElem? (i := 146) rfl)
theorem wm3_147 : Cond.code yX9_readSemicolon prog_11_method_12_code 1 (Option.some Jvm.ClassFile.FieldType.boolean) ∈ lw_tbl := in_t3 (List.mem_of_getElem? (i := 147) rfl)
theorem wm3_148 : Cond.methodLink "HedgeMessages$Configuration" 23 yX9_atEnd ∈ lw_tbl := in_t3 (List.mem_of_getElem? (i := 148) rfl)
theorem wm3_149 : Cond.instanceMethod yX9_atEnd ∈ lw_tbl := in_t3 (List.mem_of_getElem? (i := 149) rfl)
theorem wm3_150 : Cond.selects "HedgeMessages$Text" yX9_atEnd yX9_atEnd ∈ lw_tbl := in_t3 (List.mem_of_getElem? (i := 150) rfl)
theorem wm3_151 : Cond.code yX9_atEnd prog_11_method_7_code 1 (Option.some Jvm.ClassFile.FieldType.boolean) ∈ lw_tbl := in_t3 (List.mem_of_getElem? (i := 151) rfl)
theorem wm3_152 : Cond.methodLink "HedgeMessages$Configuration" 27 yX3_readStatement ∈ lw_tbl := in_t3 (List.mem_of_getElem? (i := 152) rfl)
theorem wm3_153 : Cond.static yX3_readStatement ∈ lw_tbl := in_t3 (List.mem_of_getElem? (i := 153) rfl)
theorem wm3_154 : Cond.code yX3_readStatement prog_5_method_4_code 2 (Option.some Jvm.ClassFile.FieldType.boolean) ∈ lw_tbl := in_t3 (List.mem_of_getElem? (i := 154) rfl)
theorem wm3_156 : Cond.methodLink "HedgeMessages$Configuration" 59 yX3_readTwig ∈ lw_tbl := in_t3 (List.mem_of_getElem? (i := 156) rfl)
theorem wm3_157 : Cond.static yX3_readTwig ∈ lw_tbl := in_t3 (List.mem_of_getElem? (i := 157) rfl)
theorem wm3_158 : Cond.code yX3_readTwig prog_5_method_5_code 5 (Option.some Jvm.ClassFile.FieldType.boolean) ∈ lw_tbl := in_t3 (List.mem_of_getElem? (i := 158) rfl)
theorem wm3_159 : Cond.methodLink "HedgeMessages$Configuration" 75 yX5_hasTwig ∈ lw_tbl := in_t3 (List.mem_of_getElem? (i := 159) rfl)
theorem wm3_160 : Cond.instanceMethod yX5_hasTwig ∈ lw_tbl := in_t3 (List.mem_of_getElem? (i := 160) rfl)
theorem wm3_161 : Cond.selects "HedgeMessages$Hedge" yX5_hasTwig yX5_hasTwig ∈ lw_tbl := in_t3 (List.mem_of_getElem? (i := 161) rfl)
theorem wm3_162 : Cond.code yX5_hasTwig prog_7_method_9_code 2 (Option.some Jvm.ClassFile.FieldType.boolean) ∈ lw_tbl := in_t3 (List.mem_of_getElem? (i := 162) rfl)
theorem wm3_163 : Cond.methodLink "HedgeMessages$Hedge" 129 yX8_get ∈ lw_tbl := in_t3 (List.mem_of_getElem? (i := 163) rfl)
theorem wm3_164 : Cond.methodLink "HedgeMessages$Configuration" 78 yX9_readLetter ∈ lw_tbl := in_t3 (List.mem_of_getElem? (i := 164) rfl)
theorem wm3_165 : Cond.instanceMethod yX9_readLetter ∈ lw_tbl := in_t3 (List.mem_of_getElem? (i := 165) rfl)
theorem wm3_166 : Cond.selects "HedgeMessages$Text" yX9_readLetter yX9_readLetter ∈ lw_tbl := in_t3 (List.mem_of_getElem? (i := 166) rfl)
theorem wm3_167 : Cond.code yX9_readLetter prog_11_method_11_code 1 (Option.some Jvm.ClassFile.FieldType.boolean) ∈ lw_tbl := in_t3 (List.mem_of_getElem? (i := 167) rfl)
theorem wm3_168 : Cond.methodLink "HedgeMessages$Configuration" 81 yX5_placeTwig ∈ lw_tbl := in_t3 (List.mem_of_getElem? (i := 168) rfl)
theorem wm3_170 : Cond.methodLink "HedgeMessages$Configuration" 64 yX3_readNest ∈ lw_tbl := in_t3 (List.mem_of_getElem? (i := 170) rfl)
theorem wm3_171 : Cond.static yX3_readNest ∈ lw_tbl := in_t3 (List.mem_of_getElem? (i := 171) rfl)
theorem wm3_172 : Cond.code yX3_readNest prog_5_method_6_code 3 (Option.some Jvm.ClassFile.FieldType.boolean) ∈ lw_tbl := in_t3 (List.mem_of_getElem? (i := 172) rfl)
theorem wm3_173 : Cond.methodLink "HedgeMessages$Configuration" 89 yX8_get ∈ lw_tbl := in_t3 (List.mem_of_getElem? (i := 173) rfl)
theorem wm3_174 : Cond.methodLink "HedgeMessages$Configuration" 95 yX5_countNests ∈ lw_tbl := in_t3 (List.mem_of_getElem? (i := 174) rfl)
theorem wm3_175 : Cond.instanceMethod yX5_countNests ∈ lw_tbl := in_t3 (List.mem_of_getElem? (i := 175) rfl)
theorem wm3_176 : Cond.selects "HedgeMessages$Hedge" yX5_countNests yX5_countNests ∈ lw_tbl := in_t3 (List.mem_of_getElem? (i := 176) rfl)
theorem wm3_177 : Cond.code yX5_countNests prog_7_method_17_code 3 (Option.some Jvm.ClassFile.FieldType.int) ∈ lw_tbl := in_t3 (List.mem_of_getElem? (i := 177) rfl)
theorem wm3_178 : Cond.methodLink "HedgeMessages$Configuration" 99 yX5_placeNest ∈ lw_tbl := in_t3 (List.mem_of_getElem? (i := 178) rfl)
theorem wm3_180 : Cond.methodLink "HedgeMessages$Configuration" 69 yX3_readMessage ∈ lw_tbl := in_t3 (List.mem_of_getElem? (i := 180) rfl)
theorem wm3_181 : Cond.static yX3_readMessage ∈ lw_tbl := in_t3 (List.mem_of_getElem? (i := 181) rfl)
theorem wm3_182 : Cond.code yX3_readMessage prog_5_method_7_code 3 (Option.some Jvm.ClassFile.FieldType.boolean) ∈ lw_tbl := in_t3 (List.mem_of_getElem? (i := 182) rfl)
theorem wm3_183 : Cond.methodLink "HedgeMessages$Configuration" 103 yX9_readMessageWord ∈ lw_tbl := in_t3 (List.mem_of_getElem? (i := 183) rfl)
theorem wm3_184 : Cond.instanceMethod yX9_readMessageWord ∈ lw_tbl := in_t3 (List.mem_of_getElem? (i := 184) rfl)
theorem wm3_185 : Cond.selects "HedgeMessages$Text" yX9_readMessageWord yX9_readMessageWord ∈ lw_tbl := in_t3 (List.mem_of_getElem? (i := 185) rfl)
theorem wm3_186 : Cond.code yX9_readMessageWord prog_11_method_10_code 1 (Option.some Jvm.ClassFile.FieldType.boolean) ∈ lw_tbl := in_t3 (List.mem_of_getElem? (i := 186) rfl)
theorem wm3_187 : Cond.methodLink "HedgeMessages$Configuration" 106 yX5_mayQueue ∈ lw_tbl := in_t3 (List.mem_of_getElem? (i := 187) rfl)
theorem wm3_188 : Cond.instanceMethod yX5_mayQueue ∈ lw_tbl := in_t3 (List.mem_of_getElem? (i := 188) rfl)
theorem wm3_189 : Cond.selects "HedgeMessages$Hedge" yX5_mayQueue yX5_mayQueue ∈ lw_tbl := in_t3 (List.mem_of_getElem? (i := 189) rfl)
theorem wm3_190 : Cond.code yX5_mayQueue prog_7_method_37_code 2 (Option.some Jvm.ClassFile.FieldType.boolean) ∈ lw_tbl := in_t3 (List.mem_of_getElem? (i := 190) rfl)
theorem wm3_191 : Cond.methodLink "HedgeMessages$Configuration" 118 yX5_receive ∈ lw_tbl := in_t3 (List.mem_of_getElem? (i := 191) rfl)
theorem wm3_193 : Cond.methodLink "HedgeMessagesLaw" 241 yL_does ∈ lw_tbl := in_t3 (List.mem_of_getElem? (i := 193) rfl)
theorem wm3_194 : Cond.static yL_does ∈ lw_tbl := in_t3 (List.mem_of_getElem? (i := 194) rfl)
theorem wm3_196 : Cond.classLink "HedgeMessagesLaw" 82 "java/lang/IndexOutOfBoundsException" ∈ lw_tbl := in_t3 (List.mem_of_getElem? (i := 196) rfl)
theorem wm3_197 : Cond.classLink "HedgeMessagesLaw" 84 "java/lang/IllegalStateException" ∈ lw_tbl := in_t3 (List.mem_of_getElem? (i := 197) rfl)
theorem wm3_198 : Cond.methodLink "HedgeMessagesLaw" 54 yX10_plant ∈ lw_tbl := in_t3 (List.mem_of_getElem? (i := 198) rfl)
theorem wm3_199 : Cond.instanceMethod yX10_plant ∈ lw_tbl := in_t3 (List.mem_of_getElem? (i := 199) rfl)
theorem wm3_200 : Cond.selects "HedgeMessages" yX10_plant yX10_plant ∈ lw_tbl := in_t3 (List.mem_of_getElem? (i := 200) rfl)
theorem wm3_201 : Cond.code yX10_plant prog_1_method_52_code 3 (Option.some Jvm.ClassFile.FieldType.int) ∈ lw_tbl := in_t3 (List.mem_of_getElem? (i := 201) rfl)
theorem wm3_202 : Cond.methodLink "HedgeMessages" 148 yX10_requireSlot ∈ lw_tbl := in_t3 (List.mem_of_getElem? (i := 202) rfl)
theorem wm3_204 : Cond.instanceMethod yX10_requireSlot ∈ lw_tbl := in_t3 (List.mem_of_getElem? (i := 204) rfl)
theorem wm3_205 : Cond.code yX10_requireSlot prog_1_method_65_code 2 (Option.none : Option Jvm.ClassFile.FieldType) ∈ lw_tbl := in_t3 (List.mem_of_getElem? (i := 205) rfl)
theorem wm3_206 : Cond.methodLink "HedgeMessages" 388 yX5_hasSlot ∈ lw_tbl := in_t3 (List.mem_of_getElem? (i := 206) rfl)
theorem wm3_207 : Cond.instanceMethod yX5_hasSlot ∈ lw_tbl := in_t3 (List.mem_of_getElem? (i := 207) rfl)
theorem wm3_208 : Cond.selects "HedgeMessages$Hedge" yX5_hasSlot yX5_hasSlot ∈ lw_tbl := in_t3 (List.mem_of_getElem? (i := 208) rfl)
theorem wm3_209 : Cond.code yX5_hasSlot prog_7_method_8_code 2 (Option.some Jvm.ClassFile.FieldType.boolean) ∈ lw_tbl := in_t3 (List.mem_of_getElem? (i := 209) rfl)
theorem wm3_210 : Cond.classLink "HedgeMessages" 357 "java/lang/IndexOutOfBoundsException" ∈ lw_tbl := in_t3 (List.mem_of_getElem? (i := 210) rfl)
theorem wm3_211 : Cond.instantiable "java/lang/IndexOutOfBoundsException" 6 ∈ lw_tbl := in_t3 (List.mem_of_getElem? (i := 211) rfl)
theorem wm3_212 : Cond.castable "java/lang/IndexOutOfBoundsException" "java/lang/IndexOutOfBoundsException" ∈ lw_tbl := in_t3 (List.mem_of_getElem? (i := 212) rfl)
theorem wm3_213 : Cond.selects "java/lang/IndexOutOfBoundsException" ({ cls := "java/lang/Throwable", name := "fillInStackTrace", desc := "(I)Ljava/lang/Throwable;" } : Jvm.MethodName) ({ cls := "java/lang/Throwable", name := "fillInStackTrace", desc := "(I)Ljava/lang/Throwable;" } : Jvm.MethodName) ∈ lw_tbl := in_t3 (List.mem_of_getElem? (i := 213) rfl)
theorem wm3_214 : Cond.lays "java/lang/IndexOutOfBoundsException" "java/lang/Throwable" "cause" "Ljava/lang/Throwable;" ∈ lw_tbl := in_t3 (List.mem_of_getElem? (i := 214) rfl)
theorem wm3_215 : Cond.lays "java/lang/IndexOutOfBoundsException" "java/lang/Throwable" "stackTrace" "[Ljava/lang/StackTraceElement;" ∈ lw_tbl := in_t3 (List.mem_of_getElem? (i := 215) rfl)
theorem wm3_216 : Cond.lays "java/lang/IndexOutOfBoundsException" "java/lang/Throwable" "suppressedExceptions" "Ljava/util/List;" ∈ lw_tbl := in_t3 (List.mem_of_getElem? (i := 216) rfl)
theorem wm3_217 : Cond.lays "java/lang/IndexOutOfBoundsException" "java/lang/Throwable" "detailMessage" "Ljava/lang/String;" ∈ lw_tbl := in_t3 (List.mem_of_getElem? (i := 217) rfl)
theorem wm3_218 : Cond.lays "java/lang/IndexOutOfBoundsException" "java/lang/Throwable" "backtrace" "Ljava/lang/Object;" ∈ lw_tbl := in_t3 (List.mem_of_getElem? (i := 218) rfl)
theorem wm3_220 : Cond.methodLink "HedgeMessages" 361 ({ cls := "java/lang/IndexOutOfBoundsException", name := "<init>", desc := "(Ljava/lang/String;)V" } : Jvm.MethodName) ∈ lw_tbl := in_t3 (List.mem_of_getElem? (i := 220) rfl)
theorem wm3_221 : Cond.instanceMethod ({ cls := "java/lang/IndexOutOfBoundsException", name := "<init>", desc := "(Ljava/lang/String;)V" } : Jvm.MethodName) ∈ lw_tbl := in_t3 (List.mem_of_getElem? (i := 221) rfl)
theorem wm3_222 : Cond.code ({ cls := "java/lang/IndexOutOfBoundsException", name := "<init>", desc := "(Ljava/lang/String;)V" } : Jvm.MethodName) prog_19_method_2_code 2 (Option.none : Option Jvm.ClassFile.FieldType) ∈ lw_tbl := in_t3 (List.mem_of_getElem? (i := 222) rfl)
theorem wm3_223 : Cond.methodLink "java/lang/IndexOutOfBoundsException" 7 ({ cls := "java/lang/RuntimeException", name := "<init>", desc := "(Ljava/lang/String;)V" } : Jvm.MethodName) ∈ lw_tbl := in_t3 (List.mem_of_getElem? (i := 223) rfl)
theorem wm3_224 : Cond.lays "java/lang/IndexOutOfBoundsException" "java/lang/Throwable" "depth" "I" ∈ lw_tbl := in_t3 (List.mem_of_getElem? (i := 224) rfl)
theorem wm3_226 : Cond.methodLink "HedgeMessages" 298 yX10_isLetter ∈ lw_tbl := in_t3 (List.mem_of_getElem? (i := 226) rfl)
theorem wm3_228 : Cond.methodLink "HedgeMessages" 303 yX5_mayPlant ∈ lw_tbl := in_t3 (List.mem_of_getElem? (i := 228) rfl)
theorem wm3_229 : Cond.instanceMethod yX5_mayPlant ∈ lw_tbl := in_t3 (List.mem_of_getElem? (i := 229) rfl)
theorem wm3_230 : Cond.selects "HedgeMessages$Hedge" yX5_mayPlant yX5_mayPlant ∈ lw_tbl := in_t3 (List.mem_of_getElem? (i := 230) rfl)
theorem wm3_231 : Cond.code yX5_mayPlant prog_7_method_33_code 2 (Option.some Jvm.ClassFile.FieldType.boolean) ∈ lw_tbl := in_t3 (List.mem_of_getElem? (i := 231) rfl)
theorem wm3_232 : Cond.methodLink "HedgeMessages$Hedge" 191 yX5_reasonNotToPlant ∈ lw_tbl := in_t3 (List.mem_of_getElem? (i := 232) rfl)
theorem wm3_233 : Cond.instanceMethod yX5_reasonNotToPlant ∈ lw_tbl := in_t3 (List.mem_of_getElem? (i := 233) rfl)
theorem wm3_234 : Cond.selects "HedgeMessages$Hedge" yX5_reasonNotToPlant yX5_reasonNotToPlant ∈ lw_tbl := in_t3 (List.mem_of_getElem? (i := 234) rfl)
theorem wm3_235 : Cond.code yX5_reasonNotToPlant prog_7_method_27_code 2 (Option.some Jvm.ClassFile.FieldType.int) ∈ lw_tbl := in_t3 (List.mem_of_getElem? (i := 235) rfl)
theorem wm3_236 : Cond.methodLink "HedgeMessages$Hedge" 133 yX5_hasTwig ∈ lw_tbl := in_t3 (List.mem_of_getElem? (i := 236) rfl)
theorem wm3_237 : Cond.methodLink "HedgeMessages$Hedge" 137 yX5_isBooked ∈ lw_tbl := in_t3 (List.mem_of_getElem? (i := 237) rfl)
theorem wm3_238 : Cond.instanceMethod yX5_isBooked ∈ lw_tbl := in_t3 (List.mem_of_getElem? (i := 238) rfl)
theorem wm3_239 : Cond.selects "HedgeMessages$Hedge" yX5_isBooked yX5_isBooked ∈ lw_tbl := in_t3 (List.mem_of_getElem? (i := 239) rfl)
theorem wm4_0 : Cond.code yX5_isBooked prog_7_method_10_code 2 (Option.some Jvm.ClassFile.FieldType.boolean) ∈ lw_tbl := in_t4 (List.mem_of_getElem? (i := 0) rfl)
theorem wm4_2 : Cond.methodLink "HedgeMessages" 114 yX6_remember ∈ lw_tbl := in_t4 (List.mem_of_getElem? (i := 2) rfl)
theorem wm4_3 : Cond.instanceMethod yX6_remember ∈ lw_tbl := in_t4 (List.mem_of_getElem? (i := 3) rfl)
theorem wm4_4 : Cond.selects "HedgeMessages$History" yX6_remember yX6_remember ∈ lw_tbl := in_t4 (List.mem_of_getElem? (i := 4) rfl)
theorem wm4_5 : Cond.code yX6_remember prog_8_method_3_code 3 (Option.none : Option Jvm.ClassFile.FieldType) ∈ lw_tbl := in_t4 (List.mem_of_getElem? (i := 5) rfl)
theorem wm4_6 : Cond.methodLink "HedgeMessages$History" 25 yX6_stateAt ∈ lw_tbl := in_t4 (List.mem_of_getElem? (i := 6) rfl)
theorem wm4_8 : Cond.instanceMethod yX6_stateAt ∈ lw_tbl := in_t4 (List.mem_of_getElem? (i := 8) rfl)
theorem wm4_9 : Cond.code yX6_stateAt prog_8_method_5_code 2 (Option.some (Jvm.ClassFile.FieldType.object "HedgeMessages$Hedge")) ∈ lw_tbl := in_t4 (List.mem_of_getElem? (i := 9) rfl)
theorem wm4_10 : Cond.methodLink "HedgeMessages$History" 29 yX5_copyFrom ∈ lw_tbl := in_t4 (List.mem_of_getElem? (i := 10) rfl)
theorem wm4_11 : Cond.methodLink "HedgeMessages" 308 yX5_plantByHand ∈ lw_tbl := in_t4 (List.mem_of_getElem? (i := 11) rfl)
theorem wm4_12 : Cond.instanceMethod yX5_plantByHand ∈ lw_tbl := in_t4 (List.mem_of_getElem? (i := 12) rfl)
theorem wm4_13 : Cond.selects "HedgeMessages$Hedge" yX5_plantByHand yX5_plantByHand ∈ lw_tbl := in_t4 (List.mem_of_getElem? (i := 13) rfl)
theorem wm4_14 : Cond.code yX5_plantByHand prog_7_method_39_code 3 (Option.none : Option Jvm.ClassFile.FieldType) ∈ lw_tbl := in_t4 (List.mem_of_getElem? (i := 14) rfl)
theorem wm4_15 : Cond.methodLink "HedgeMessages$Hedge" 182 yX5_active ∈ lw_tbl := in_t4 (List.mem_of_getElem? (i := 15) rfl)
theorem wm4_16 : Cond.instanceMethod yX5_active ∈ lw_tbl := in_t4 (List.mem_of_getElem? (i := 16) rfl)
theorem wm4_17 : Cond.selects "HedgeMessages$Hedge" yX5_active yX5_active ∈ lw_tbl := in_t4 (List.mem_of_getElem? (i := 17) rfl)
theorem wm4_18 : Cond.code yX5_active prog_7_method_13_code 1 (Option.some Jvm.ClassFile.FieldType.int) ∈ lw_tbl := in_t4 (List.mem_of_getElem? (i := 18) rfl)
theorem wm4_19 : Cond.methodLink "HedgeMessages$Hedge" 203 yX5_placeTwig ∈ lw_tbl := in_t4 (List.mem_of_getElem? (i := 19) rfl)
theorem wm4_20 : Cond.methodLink "HedgeMessages" 145 yX5_countTwigs ∈ lw_tbl := in_t4 (List.mem_of_getElem? (i := 20) rfl)
theorem wm4_21 : Cond.instanceMethod yX5_countTwigs ∈ lw_tbl := in_t4 (List.mem_of_getElem? (i := 21) rfl)
theorem wm4_22 : Cond.selects "HedgeMessages$Hedge" yX5_countTwigs yX5_countTwigs ∈ lw_tbl := in_t4 (List.mem_of_getElem? (i := 22) rfl)
theorem wm4_23 : Cond.code yX5_countTwigs prog_7_method_14_code 3 (Option.some Jvm.ClassFile.FieldType.int) ∈ lw_tbl := in_t4 (List.mem_of_getElem? (i := 23) rfl)
theorem wm4_24 : Cond.methodLink "HedgeMessagesLaw" 58 yX10_remove ∈ lw_tbl := in_t4 (List.mem_of_getElem? (i := 24) rfl)
theorem wm4_25 : Cond.instanceMethod yX10_remove ∈ lw_tbl := in_t4 (List.mem_of_getElem? (i := 25) rfl)
theorem wm4_26 : Cond.selects "HedgeMessages" yX10_remove yX10_remove ∈ lw_tbl := in_t4 (List.mem_of_getElem? (i := 26) rfl)
theorem wm4_27 : Cond.code yX10_remove prog_1_method_53_code 3 (Option.some Jvm.ClassFile.FieldType.int) ∈ lw_tbl := in_t4 (List.mem_of_getElem? (i := 27) rfl)
theorem wm4_28 : Cond.methodLink "HedgeMessages" 311 yX5_mayRemove ∈ lw_tbl := in_t4 (List.mem_of_getElem? (i := 28) rfl)
theorem wm4_29 : Cond.instanceMethod yX5_mayRemove ∈ lw_tbl := in_t4 (List.mem_of_getElem? (i := 29) rfl)
theorem wm4_30 : Cond.selects "HedgeMessages$Hedge" yX5_mayRemove yX5_mayRemove ∈ lw_tbl := in_t4 (List.mem_of_getElem? (i := 30) rfl)
theorem wm4_31 : Cond.code yX5_mayRemove prog_7_method_34_code 2 (Option.some Jvm.ClassFile.FieldType.boolean) ∈ lw_tbl := in_t4 (List.mem_of_getElem? (i := 31) rfl)
theorem wm4_32 : Cond.methodLink "HedgeMessages$Hedge" 194 yX5_reasonNotToRemove ∈ lw_tbl := in_t4 (List.mem_of_getElem? (i := 32) rfl)
theorem wm4_33 : Cond.instanceMethod yX5_reasonNotToRemove ∈ lw_tbl := in_t4 (List.mem_of_getElem? (i := 33) rfl)
theorem wm4_34 : Cond.selects "HedgeMessages$Hedge" yX5_reasonNotToRemove yX5_reasonNotToRemove ∈ lw_tbl := in_t4 (List.mem_of_getElem? (i := 34) rfl)
theorem wm4_35 : Cond.code yX5_reasonNotToRemove prog_7_method_28_code 3 (Option.some Jvm.ClassFile.FieldType.int) ∈ lw_tbl := in_t4 (List.mem_of_getElem? (i := 35) rfl)
theorem wm4_36 : Cond.methodLink "HedgeMessages$Hedge" 176 yX5_reasonNotToTouch ∈ lw_tbl := in_t4 (List.mem_of_getElem? (i := 36) rfl)
theorem wm4_38 : Cond.instanceMethod yX5_reasonNotToTouch ∈ lw_tbl := in_t4 (List.mem_of_getElem? (i := 38) rfl)
theorem wm4_39 : Cond.code yX5_reasonNotToTouch prog_7_method_30_code 2 (Option.some Jvm.ClassFile.FieldType.int) ∈ lw_tbl := in_t4 (List.mem_of_getElem? (i := 39) rfl)
theorem wm4_40 : Cond.methodLink "HedgeMessages$Hedge" 179 yX5_isGuarded ∈ lw_tbl := in_t4 (List.mem_of_getElem? (i := 40) rfl)
theorem wm4_41 : Cond.instanceMethod yX5_isGuarded ∈ lw_tbl := in_t4 (List.mem_of_getElem? (i := 41) rfl)
theorem wm4_42 : Cond.selects "HedgeMessages$Hedge" yX5_isGuarded yX5_isGuarded ∈ lw_tbl := in_t4 (List.mem_of_getElem? (i := 42) rfl)
theorem wm4_43 : Cond.code yX5_isGuarded prog_7_method_11_code 2 (Option.some Jvm.ClassFile.FieldType.boolean) ∈ lw_tbl := in_t4 (List.mem_of_getElem? (i := 43) rfl)
theorem wm4_45 : Cond.methodLink "HedgeMessages" 157 yX8_get ∈ lw_tbl := in_t4 (List.mem_of_getElem? (i := 45) rfl)
theorem wm4_46 : Cond.methodLink "HedgeMessages" 316 yX5_removeByHand ∈ lw_tbl := in_t4 (List.mem_of_getElem? (i := 46) rfl)
theorem wm4_47 : Cond.instanceMethod yX5_removeByHand ∈ lw_tbl := in_t4 (List.mem_of_getElem? (i := 47) rfl)
theorem wm4_48 : Cond.selects "HedgeMessages$Hedge" yX5_removeByHand yX5_removeByHand ∈ lw_tbl := in_t4 (List.mem_of_getElem? (i := 48) rfl)
theorem wm4_49 : Cond.code yX5_removeByHand prog_7_method_40_code 2 (Option.none : Option Jvm.ClassFile.FieldType) ∈ lw_tbl := in_t4 (List.mem_of_getElem? (i := 49) rfl)
theorem wm4_50 : Cond.methodLink "HedgeMessagesLaw" 61 yX10_trim ∈ lw_tbl := in_t4 (List.mem_of_getElem? (i := 50) rfl)
theorem wm4_51 : Cond.instanceMethod yX10_trim ∈ lw_tbl := in_t4 (List.mem_of_getElem? (i := 51) rfl)
theorem wm4_52 : Cond.selects "HedgeMessages" yX10_trim yX10_trim ∈ lw_tbl := in_t4 (List.mem_of_getElem? (i := 52) rfl)
theorem wm4_53 : Cond.code yX10_trim prog_1_method_54_code 3 (Option.some Jvm.ClassFile.FieldType.int) ∈ lw_tbl := in_t4 (List.mem_of_getElem? (i := 53) rfl)
theorem wm4_55 : Cond.methodLink "HedgeMessages" 321 yX5_mayTrim ∈ lw_tbl := in_t4 (List.mem_of_getElem? (i := 55) rfl)
theorem wm4_56 : Cond.instanceMethod yX5_mayTrim ∈ lw_tbl := in_t4 (List.mem_of_getElem? (i := 56) rfl)
theorem wm4_57 : Cond.selects "HedgeMessages$Hedge" yX5_mayTrim yX5_mayTrim ∈ lw_tbl := in_t4 (List.mem_of_getElem? (i := 57) rfl)
theorem wm4_58 : Cond.code yX5_mayTrim prog_7_method_35_code 2 (Option.some Jvm.ClassFile.FieldType.boolean) ∈ lw_tbl := in_t4 (List.mem_of_getElem? (i := 58) rfl)
theorem wm4_59 : Cond.methodLink "HedgeMessages$Hedge" 197 yX5_reasonNotToTrim ∈ lw_tbl := in_t4 (List.mem_of_getElem? (i := 59) rfl)
theorem wm4_60 : Cond.instanceMethod yX5_reasonNotToTrim ∈ lw_tbl := in_t4 (List.mem_of_getElem? (i := 60) rfl)
theorem wm4_61 : Cond.selects "HedgeMessages$Hedge" yX5_reasonNotToTrim yX5_reasonNotToTrim ∈ lw_tbl := in_t4 (List.mem_of_getElem? (i := 61) rfl)
theorem wm4_62 : Cond.code yX5_reasonNotToTrim prog_7_method_29_code 3 (Option.some Jvm.ClassFile.FieldType.int) ∈ lw_tbl := in_t4 (List.mem_of_getElem? (i := 62) rfl)
theorem wm4_64 : Cond.methodLink "HedgeMessages" 326 yX5_trimByHand ∈ lw_tbl := in_t4 (List.mem_of_getElem? (i := 64) rfl)
theorem wm4_65 : Cond.instanceMethod yX5_trimByHand ∈ lw_tbl := in_t4 (List.mem_of_getElem? (i := 65) rfl)
theorem wm4_66 : Cond.selects "HedgeMessages$Hedge" yX5_trimByHand yX5_trimByHand ∈ lw_tbl := in_t4 (List.mem_of_getElem? (i := 66) rfl)
theorem wm4_67 : Cond.code yX5_trimByHand prog_7_method_41_code 4 (Option.none : Option Jvm.ClassFile.FieldType) ∈ lw_tbl := in_t4 (List.mem_of_getElem? (i := 67) rfl)
theorem wm4_68 : Cond.methodLink "HedgeMessagesLaw" 64 yX10_addNest ∈ lw_tbl := in_t4 (List.mem_of_getElem? (i := 68) rfl)
theorem wm4_69 : Cond.instanceMethod yX10_addNest ∈ lw_tbl := in_t4 (List.mem_of_getElem? (i := 69) rfl)
theorem wm4_70 : Cond.selects "HedgeMessages" yX10_addNest yX10_addNest ∈ lw_tbl := in_t4 (List.mem_of_getElem? (i := 70) rfl)
theorem wm4_71 : Cond.code yX10_addNest prog_1_method_55_code 3 (Option.some Jvm.ClassFile.FieldType.int) ∈ lw_tbl := in_t4 (List.mem_of_getElem? (i := 71) rfl)
theorem wm4_73 : Cond.methodLink "HedgeMessages" 331 yX5_mayNest ∈ lw_tbl := in_t4 (List.mem_of_getElem? (i := 73) rfl)
theorem wm4_74 : Cond.instanceMethod yX5_mayNest ∈ lw_tbl := in_t4 (List.mem_of_getElem? (i := 74) rfl)
theorem wm4_75 : Cond.selects "HedgeMessages$Hedge" yX5_mayNest yX5_mayNest ∈ lw_tbl := in_t4 (List.mem_of_getElem? (i := 75) rfl)
theorem wm4_76 : Cond.code yX5_mayNest prog_7_method_36_code 2 (Option.some Jvm.ClassFile.FieldType.boolean) ∈ lw_tbl := in_t4 (List.mem_of_getElem? (i := 76) rfl)
theorem wm4_77 : Cond.methodLink "HedgeMessages$Hedge" 167 yX5_countNests ∈ lw_tbl := in_t4 (List.mem_of_getElem? (i := 77) rfl)
theorem wm4_79 : Cond.methodLink "HedgeMessages" 176 yX5_countNests ∈ lw_tbl := in_t4 (List.mem_of_getElem? (i := 79) rfl)
theorem wm4_80 : Cond.methodLink "HedgeMessagesLaw" 67 yX10_queueMessage ∈ lw_tbl := in_t4 (List.mem_of_getElem? (i := 80) rfl)
theorem wm4_81 : Cond.instanceMethod yX10_queueMessage ∈ lw_tbl := in_t4 (List.mem_of_getElem? (i := 81) rfl)
theorem wm4_82 : Cond.selects "HedgeMessages" yX10_queueMessage yX10_queueMessage ∈ lw_tbl := in_t4 (List.mem_of_getElem? (i := 82) rfl)
theorem wm4_83 : Cond.code yX10_queueMessage prog_1_method_56_code 2 (Option.some Jvm.ClassFile.FieldType.int) ∈ lw_tbl := in_t4 (List.mem_of_getElem? (i := 83) rfl)
theorem wm4_84 : Cond.methodLink "HedgeMessages" 179 yX10_requireGardener ∈ lw_tbl := in_t4 (List.mem_of_getElem? (i := 84) rfl)
theorem wm4_85 : Cond.static yX10_requireGardener ∈ lw_tbl := in_t4 (List.mem_of_getElem? (i := 85) rfl)
theorem wm4_86 : Cond.code yX10_requireGardener prog_1_method_66_code 1 (Option.none : Option Jvm.ClassFile.FieldType) ∈ lw_tbl := in_t4 (List.mem_of_getElem? (i := 86) rfl)
theorem wm4_88 : Cond.methodLink "HedgeMessages" 336 yX9_isOneWord ∈ lw_tbl := in_t4 (List.mem_of_getElem? (i := 88) rfl)
theorem wm4_89 : Cond.instanceMethod yX9_isOneWord ∈ lw_tbl := in_t4 (List.mem_of_getElem? (i := 89) rfl)
theorem wm4_90 : Cond.selects "HedgeMessages$Text" yX9_isOneWord yX9_isOneWord ∈ lw_tbl := in_t4 (List.mem_of_getElem? (i := 90) rfl)
theorem wm4_91 : Cond.code yX9_isOneWord prog_11_method_3_code 2 (Option.some Jvm.ClassFile.FieldType.boolean) ∈ lw_tbl := in_t4 (List.mem_of_getElem? (i := 91) rfl)
theorem wm4_93 : Cond.methodLink "HedgeMessages" 341 yX5_mayQueue ∈ lw_tbl := in_t4 (List.mem_of_getElem? (i := 93) rfl)
theorem wm4_95 : Cond.methodLink "HedgeMessages" 349 yX5_receive ∈ lw_tbl := in_t4 (List.mem_of_getElem? (i := 95) rfl)
theorem wm4_96 : Cond.methodLink "HedgeMessages" 182 yX5_gardener ∈ lw_tbl := in_t4 (List.mem_of_getElem? (i := 96) rfl)
theorem wm4_97 : Cond.methodLink "HedgeMessagesLaw" 70 yX10_cancelMessage ∈ lw_tbl := in_t4 (List.mem_of_getElem? (i := 97) rfl)
theorem wm4_98 : Cond.instanceMethod yX10_cancelMessage ∈ lw_tbl := in_t4 (List.mem_of_getElem? (i := 98) rfl)
theorem wm4_99 : Cond.selects "HedgeMessages" yX10_cancelMessage yX10_cancelMessage ∈ lw_tbl := in_t4 (List.mem_of_getElem? (i := 99) rfl)
theorem wm4_100 : Cond.code yX10_cancelMessage prog_1_method_57_code 4 (Option.some Jvm.ClassFile.FieldType.int) ∈ lw_tbl := in_t4 (List.mem_of_getElem? (i := 100) rfl)
theorem wm4_101 : Cond.methodLink "HedgeMessages" 353 yX5_mayCancel ∈ lw_tbl := in_t4 (List.mem_of_getElem? (i := 101) rfl)
theorem wm4_102 : Cond.instanceMethod yX5_mayCancel ∈ lw_tbl := in_t4 (List.mem_of_getElem? (i := 102) rfl)
theorem wm4_103 : Cond.selects "HedgeMessages$Hedge" yX5_mayCancel yX5_mayCancel ∈ lw_tbl := in_t4 (List.mem_of_getElem? (i := 103) rfl)
theorem wm4_104 : Cond.code yX5_mayCancel prog_7_method_38_code 3 (Option.some Jvm.ClassFile.FieldType.boolean) ∈ lw_tbl := in_t4 (List.mem_of_getElem? (i := 104) rfl)
theorem wm4_105 : Cond.methodLink "HedgeMessages$Hedge" 200 yX4_hasPending ∈ lw_tbl := in_t4 (List.mem_of_getElem? (i := 105) rfl)
theorem wm4_106 : Cond.instanceMethod yX4_hasPending ∈ lw_tbl := in_t4 (List.mem_of_getElem? (i := 106) rfl)
theorem wm4_107 : Cond.selects "HedgeMessages$Gardener" yX4_hasPending yX4_hasPending ∈ lw_tbl := in_t4 (List.mem_of_getElem? (i := 107) rfl)
theorem wm4_108 : Cond.code yX4_hasPending prog_6_method_6_code 2 (Option.some Jvm.ClassFile.FieldType.boolean) ∈ lw_tbl := in_t4 (List.mem_of_getElem? (i := 108) rfl)
theorem wm4_110 : Cond.methodLink "HedgeMessages" 214 yX4_lengthOf ∈ lw_tbl := in_t4 (List.mem_of_getElem? (i := 110) rfl)
theorem wm4_111 : Cond.instanceMethod yX4_lengthOf ∈ lw_tbl := in_t4 (List.mem_of_getElem? (i := 111) rfl)
theorem wm4_112 : Cond.selects "HedgeMessages$Gardener" yX4_lengthOf yX4_lengthOf ∈ lw_tbl := in_t4 (List.mem_of_getElem? (i := 112) rfl)
theorem wm4_113 : Cond.code yX4_lengthOf prog_6_method_7_code 2 (Option.some Jvm.ClassFile.FieldType.int) ∈ lw_tbl := in_t4 (List.mem_of_getElem? (i := 113) rfl)
theorem wm4_114 : Cond.methodLink "HedgeMessages$Gardener" 55 yX4_hasPending ∈ lw_tbl := in_t4 (List.mem_of_getElem? (i := 114) rfl)
theorem wm4_115 : Cond.methodLink "HedgeMessages$Gardener" 59 yX8_get ∈ lw_tbl := in_t4 (List.mem_of_getElem? (i := 115) rfl)
theorem wm4_116 : Cond.methodLink "HedgeMessages" 362 yX4_cancel ∈ lw_tbl := in_t4 (List.mem_of_getElem? (i := 116) rfl)
theorem wm4_117 : Cond.instanceMethod yX4_cancel ∈ lw_tbl := in_t4 (List.mem_of_getElem? (i := 117) rfl)
theorem wm4_118 : Cond.selects "HedgeMessages$Gardener" yX4_cancel yX4_cancel ∈ lw_tbl := in_t4 (List.mem_of_getElem? (i := 118) rfl)
theorem wm4_119 : Cond.code yX4_cancel prog_6_method_11_code 2 (Option.none : Option Jvm.ClassFile.FieldType) ∈ lw_tbl := in_t4 (List.mem_of_getElem? (i := 119) rfl)
theorem wm4_120 : Cond.methodLink "HedgeMessages$Gardener" 74 yX4_dequeue ∈ lw_tbl := in_t4 (List.mem_of_getElem? (i := 120) rfl)
theorem wm4_121 : Cond.instanceMethod yX4_dequeue ∈ lw_tbl := in_t4 (List.mem_of_getElem? (i := 121) rfl)
theorem wm4_122 : Cond.selects "HedgeMessages$Gardener" yX4_dequeue yX4_dequeue ∈ lw_tbl := in_t4 (List.mem_of_getElem? (i := 122) rfl)
theorem wm4_123 : Cond.code yX4_dequeue prog_6_method_10_code 3 (Option.none : Option Jvm.ClassFile.FieldType) ∈ lw_tbl := in_t4 (List.mem_of_getElem? (i := 123) rfl)
theorem wm4_124 : Cond.methodLink "HedgeMessagesLaw" 73 yX10_setWorkLimit ∈ lw_tbl := in_t4 (List.mem_of_getElem? (i := 124) rfl)
theorem wm4_125 : Cond.instanceMethod yX10_setWorkLimit ∈ lw_tbl := in_t4 (List.mem_of_getElem? (i := 125) rfl)
theorem wm4_126 : Cond.selects "HedgeMessages" yX10_setWorkLimit yX10_setWorkLimit ∈ lw_tbl := in_t4 (List.mem_of_getElem? (i := 126) rfl)
theorem wm4_127 : Cond.code yX10_setWorkLimit prog_1_method_58_code 3 (Option.some Jvm.ClassFile.FieldType.int) ∈ lw_tbl := in_t4 (List.mem_of_getElem? (i := 127) rfl)
theorem wm4_129 : Cond.methodLink "HedgeMessagesLaw" 76 yX10_endDays ∈ lw_tbl := in_t4 (List.mem_of_getElem? (i := 129) rfl)
theorem wm4_130 : Cond.instanceMethod yX10_endDays ∈ lw_tbl := in_t4 (List.mem_of_getElem? (i := 130) rfl)
theorem wm4_131 : Cond.selects "HedgeMessages" yX10_endDays yX10_endDays ∈ lw_tbl := in_t4 (List.mem_of_getElem? (i := 131) rfl)
theorem wm4_132 : Cond.code yX10_endDays prog_1_method_59_code 4 (Option.some Jvm.ClassFile.FieldType.int) ∈ lw_tbl := in_t4 (List.mem_of_getElem? (i := 132) rfl)
theorem wm4_133 : Cond.methodLink "HedgeMessages" 247 yX10_requireDays ∈ lw_tbl := in_t4 (List.mem_of_getElem? (i := 133) rfl)
theorem wm4_134 : Cond.static yX10_requireDays ∈ lw_tbl := in_t4 (List.mem_of_getElem? (i := 134) rfl)
theorem wm4_135 : Cond.code yX10_requireDays prog_1_method_67_code 2 (Option.none : Option Jvm.ClassFile.FieldType) ∈ lw_tbl := in_t4 (List.mem_of_getElem? (i := 135) rfl)
theorem wm4_137 : Cond.methodLink "HedgeMessages" 244 yX5_endOneDay ∈ lw_tbl := in_t4 (List.mem_of_getElem? (i := 137) rfl)
theorem wm4_138 : Cond.instanceMethod yX5_endOneDay ∈ lw_tbl := in_t4 (List.mem_of_getElem? (i := 138) rfl)
theorem wm4_139 : Cond.selects "HedgeMessages$Hedge" yX5_endOneDay yX5_endOneDay ∈ lw_tbl := in_t4 (List.mem_of_getElem? (i := 139) rfl)
theorem wm4_140 : Cond.code yX5_endOneDay prog_7_method_42_code 1 (Option.none : Option Jvm.ClassFile.FieldType) ∈ lw_tbl := in_t4 (List.mem_of_getElem? (i := 140) rfl)
theorem wm4_141 : Cond.methodLink "HedgeMessages$Hedge" 207 yX5_deliverPosted ∈ lw_tbl := in_t4 (List.mem_of_getElem? (i := 141) rfl)
theorem wm4_143 : Cond.instanceMethod yX5_deliverPosted ∈ lw_tbl := in_t4 (List.mem_of_getElem? (i := 143) rfl)
theorem wm4_144 : Cond.code yX5_deliverPosted prog_7_method_43_code 4 (Option.none : Option Jvm.ClassFile.FieldType) ∈ lw_tbl := in_t4 (List.mem_of_getElem? (i := 144) rfl)
theorem wm4_145 : Cond.methodLink "HedgeMessages$Hedge" 225 yX7_startSifting ∈ lw_tbl := in_t4 (List.mem_of_getElem? (i := 145) rfl)
theorem wm4_146 : Cond.instanceMethod yX7_startSifting ∈ lw_tbl := in_t4 (List.mem_of_getElem? (i := 146) rfl)
theorem wm4_147 : Cond.selects "HedgeMessages$PostedMessages" yX7_startSifting yX7_startSifting ∈ lw_tbl := in_t4 (List.mem_of_getElem? (i := 147) rfl)
theorem wm4_148 : Cond.code yX7_startSifting prog_9_method_5_code 2 (Option.some Jvm.ClassFile.FieldType.int) ∈ lw_tbl := in_t4 (List.mem_of_getElem? (i := 148) rfl)
theorem wm4_149 : Cond.methodLink "HedgeMessages$Hedge" 228 yX5_clearMessage ∈ lw_tbl := in_t4 (List.mem_of_getElem? (i := 149) rfl)
theorem wm4_151 : Cond.instanceMethod yX5_clearMessage ∈ lw_tbl := in_t4 (List.mem_of_getElem? (i := 151) rfl)
theorem wm4_152 : Cond.code yX5_clearMessage prog_7_method_44_code 4 (Option.none : Option Jvm.ClassFile.FieldType) ∈ lw_tbl := in_t4 (List.mem_of_getElem? (i := 152) rfl)
theorem wm4_153 : Cond.methodLink "HedgeMessages$Hedge" 234 yX7_keep ∈ lw_tbl := in_t4 (List.mem_of_getElem? (i := 153) rfl)
theorem wm4_154 : Cond.instanceMethod yX7_keep ∈ lw_tbl := in_t4 (List.mem_of_getElem? (i := 154) rfl)
theorem wm4_155 : Cond.selects "HedgeMessages$PostedMessages" yX7_keep yX7_keep ∈ lw_tbl := in_t4 (List.mem_of_getElem? (i := 155) rfl)
theorem wm4_156 : Cond.code yX7_keep prog_9_method_6_code 2 (Option.none : Option Jvm.ClassFile.FieldType) ∈ lw_tbl := in_t4 (List.mem_of_getElem? (i := 156) rfl)
theorem wm4_157 : Cond.methodLink "HedgeMessages$PostedMessages" 34 yX8_get ∈ lw_tbl := in_t4 (List.mem_of_getElem? (i := 157) rfl)
theorem wm4_158 : Cond.methodLink "HedgeMessages$PostedMessages" 42 yX7_post ∈ lw_tbl := in_t4 (List.mem_of_getElem? (i := 158) rfl)
theorem wm4_159 : Cond.instanceMethod yX7_post ∈ lw_tbl := in_t4 (List.mem_of_getElem? (i := 159) rfl)
theorem wm4_160 : Cond.selects "HedgeMessages$PostedMessages" yX7_post yX7_post ∈ lw_tbl := in_t4 (List.mem_of_getElem? (i := 160) rfl)
theorem wm4_161 : Cond.code yX7_post prog_9_method_4_code 4 (Option.none : Option Jvm.ClassFile.FieldType) ∈ lw_tbl := in_t4 (List.mem_of_getElem? (i := 161) rfl)
theorem wm4_162 : Cond.methodLink "HedgeMessages$PostedMessages" 38 yX8_set ∈ lw_tbl := in_t4 (List.mem_of_getElem? (i := 162) rfl)
theorem wm4_163 : Cond.methodLink "HedgeMessages$Hedge" 210 yX5_writeLetters ∈ lw_tbl := in_t4 (List.mem_of_getElem? (i := 163) rfl)
theorem wm4_165 : Cond.instanceMethod yX5_writeLetters ∈ lw_tbl := in_t4 (List.mem_of_getElem? (i := 165) rfl)
theorem wm4_166 : Cond.code yX5_writeLetters prog_7_method_45_code 4 (Option.none : Option Jvm.ClassFile.FieldType) ∈ lw_tbl := in_t4 (List.mem_of_getElem? (i := 166) rfl)
theorem wm4_167 : Cond.methodLink "HedgeMessages$Hedge" 143 yX4_isWriting ∈ lw_tbl := in_t4 (List.mem_of_getElem? (i := 167) rfl)
theorem wm4_168 : Cond.instanceMethod yX4_isWriting ∈ lw_tbl := in_t4 (List.mem_of_getElem? (i := 168) rfl)
theorem wm4_169 : Cond.selects "HedgeMessages$Gardener" yX4_isWriting yX4_isWriting ∈ lw_tbl := in_t4 (List.mem_of_getElem? (i := 169) rfl)
theorem wm4_170 : Cond.code yX4_isWriting prog_6_method_4_code 1 (Option.some Jvm.ClassFile.FieldType.boolean) ∈ lw_tbl := in_t4 (List.mem_of_getElem? (i := 170) rfl)
theorem wm4_171 : Cond.methodLink "HedgeMessages$Hedge" 237 yX5_startNext ∈ lw_tbl := in_t4 (List.mem_of_getElem? (i := 171) rfl)
theorem wm4_173 : Cond.instanceMethod yX5_startNext ∈ lw_tbl := in_t4 (List.mem_of_getElem? (i := 173) rfl)
theorem wm4_174 : Cond.code yX5_startNext prog_7_method_46_code 4 (Option.some Jvm.ClassFile.FieldType.boolean) ∈ lw_tbl := in_t4 (List.mem_of_getElem? (i := 174) rfl)
theorem wm4_175 : Cond.methodLink "HedgeMessages$Hedge" 185 yX4_lengthOf ∈ lw_tbl := in_t4 (List.mem_of_getElem? (i := 175) rfl)
theorem wm4_176 : Cond.methodLink "HedgeMessages$Hedge" 188 yX5_findStart ∈ lw_tbl := in_t4 (List.mem_of_getElem? (i := 176) rfl)
theorem wm4_177 : Cond.instanceMethod yX5_findStart ∈ lw_tbl := in_t4 (List.mem_of_getElem? (i := 177) rfl)
theorem wm4_178 : Cond.selects "HedgeMessages$Hedge" yX5_findStart yX5_findStart ∈ lw_tbl := in_t4 (List.mem_of_getElem? (i := 178) rfl)
theorem wm4_179 : Cond.code yX5_findStart prog_7_method_19_code 4 (Option.some Jvm.ClassFile.FieldType.int) ∈ lw_tbl := in_t4 (List.mem_of_getElem? (i := 179) rfl)
theorem wm4_180 : Cond.methodLink "HedgeMessages$Hedge" 251 yX8_copyPart ∈ lw_tbl := in_t4 (List.mem_of_getElem? (i := 180) rfl)
theorem wm4_181 : Cond.methodLink "HedgeMessages$Hedge" 255 yX4_dequeue ∈ lw_tbl := in_t4 (List.mem_of_getElem? (i := 181) rfl)
theorem wm4_182 : Cond.methodLink "HedgeMessages$Hedge" 243 yX7_post ∈ lw_tbl := in_t4 (List.mem_of_getElem? (i := 182) rfl)
theorem wm4_183 : Cond.methodLink "HedgeMessages$Hedge" 247 yX4_stopWriting ∈ lw_tbl := in_t4 (List.mem_of_getElem? (i := 183) rfl)
theorem wm4_184 : Cond.methodLink "HedgeMessages$Hedge" 213 yX5_grow ∈ lw_tbl := in_t4 (List.mem_of_getElem? (i := 184) rfl)
theorem wm4_186 : Cond.instanceMethod yX5_grow ∈ lw_tbl := in_t4 (List.mem_of_getElem? (i := 186) rfl)
theorem wm4_187 : Cond.code yX5_grow prog_7_method_47_code 4 (Option.none : Option Jvm.ClassFile.FieldType) ∈ lw_tbl := in_t4 (List.mem_of_getElem? (i := 187) rfl)
theorem wm4_188 : Cond.methodLink "HedgeMessages$Hedge" 216 yX5_prune ∈ lw_tbl := in_t4 (List.mem_of_getElem? (i := 188) rfl)
theorem wm4_190 : Cond.instanceMethod yX5_prune ∈ lw_tbl := in_t4 (List.mem_of_getElem? (i := 190) rfl)
theorem wm4_191 : Cond.code yX5_prune prog_7_method_48_code 2 (Option.none : Option Jvm.ClassFile.FieldType) ∈ lw_tbl := in_t4 (List.mem_of_getElem? (i := 191) rfl)
theorem wm4_192 : Cond.methodLink "HedgeMessages$Hedge" 173 yX5_reasonNotToPrune ∈ lw_tbl := in_t4 (List.mem_of_getElem? (i := 192) rfl)
theorem wm4_193 : Cond.instanceMethod yX5_reasonNotToPrune ∈ lw_tbl := in_t4 (List.mem_of_getElem? (i := 193) rfl)
theorem wm4_194 : Cond.selects "HedgeMessages$Hedge" yX5_reasonNotToPrune yX5_reasonNotToPrune ∈ lw_tbl := in_t4 (List.mem_of_getElem? (i := 194) rfl)
theorem wm4_195 : Cond.code yX5_reasonNotToPrune prog_7_method_32_code 2 (Option.some Jvm.ClassFile.FieldType.int) ∈ lw_tbl := in_t4 (List.mem_of_getElem? (i := 195) rfl)
theorem wm4_196 : Cond.methodLink "HedgeMessages$Hedge" 219 yX5_failInProgress ∈ lw_tbl := in_t4 (List.mem_of_getElem? (i := 196) rfl)
theorem wm4_198 : Cond.instanceMethod yX5_failInProgress ∈ lw_tbl := in_t4 (List.mem_of_getElem? (i := 198) rfl)
theorem wm4_199 : Cond.code yX5_failInProgress prog_7_method_49_code 3 (Option.none : Option Jvm.ClassFile.FieldType) ∈ lw_tbl := in_t4 (List.mem_of_getElem? (i := 199) rfl)
theorem wm4_200 : Cond.methodLink "HedgeMessages$Hedge" 258 yX5_lostTwig ∈ lw_tbl := in_t4 (List.mem_of_getElem? (i := 200) rfl)
theorem wm4_202 : Cond.instanceMethod yX5_lostTwig ∈ lw_tbl := in_t4 (List.mem_of_getElem? (i := 202) rfl)
theorem wm4_203 : Cond.code yX5_lostTwig prog_7_method_51_code 4 (Option.some Jvm.ClassFile.FieldType.boolean) ∈ lw_tbl := in_t4 (List.mem_of_getElem? (i := 203) rfl)
theorem wm4_204 : Cond.methodLink "HedgeMessages$Hedge" 262 yX5_fail ∈ lw_tbl := in_t4 (List.mem_of_getElem? (i := 204) rfl)
theorem wm4_206 : Cond.instanceMethod yX5_fail ∈ lw_tbl := in_t4 (List.mem_of_getElem? (i := 206) rfl)
theorem wm4_207 : Cond.code yX5_fail prog_7_method_52_code 5 (Option.none : Option Jvm.ClassFile.FieldType) ∈ lw_tbl := in_t4 (List.mem_of_getElem? (i := 207) rfl)
theorem wm4_208 : Cond.methodLink "HedgeMessages$Hedge" 222 yX5_failPosted ∈ lw_tbl := in_t4 (List.mem_of_getElem? (i := 208) rfl)
theorem wm4_210 : Cond.instanceMethod yX5_failPosted ∈ lw_tbl := in_t4 (List.mem_of_getElem? (i := 210) rfl)
theorem wm4_211 : Cond.code yX5_failPosted prog_7_method_50_code 5 (Option.none : Option Jvm.ClassFile.FieldType) ∈ lw_tbl := in_t4 (List.mem_of_getElem? (i := 211) rfl)
theorem wm4_212 : Cond.methodLink "HedgeMessagesLaw" 79 yX10_undo ∈ lw_tbl := in_t4 (List.mem_of_getElem? (i := 212) rfl)
theorem wm4_213 : Cond.instanceMethod yX10_undo ∈ lw_tbl := in_t4 (List.mem_of_getElem? (i := 213) rfl)
theorem wm4_214 : Cond.selects "HedgeMessages" yX10_undo yX10_undo ∈ lw_tbl := in_t4 (List.mem_of_getElem? (i := 214) rfl)
theorem wm4_215 : Cond.code yX10_undo prog_1_method_60_code 1 (Option.some Jvm.ClassFile.FieldType.int) ∈ lw_tbl := in_t4 (List.mem_of_getElem? (i := 215) rfl)
theorem wm4_217 : Cond.methodLink "HedgeMessages" 370 yX6_takeBack ∈ lw_tbl := in_t4 (List.mem_of_getElem? (i := 217) rfl)
theorem wm4_218 : Cond.instanceMethod yX6_takeBack ∈ lw_tbl := in_t4 (List.mem_of_getElem? (i := 218) rfl)
theorem wm4_219 : Cond.selects "HedgeMessages$History" yX6_takeBack yX6_takeBack ∈ lw_tbl := in_t4 (List.mem_of_getElem? (i := 219) rfl)
theorem wm4_220 : Cond.code yX6_takeBack prog_8_method_4_code 3 (Option.none : Option Jvm.ClassFile.FieldType) ∈ lw_tbl := in_t4 (List.mem_of_getElem? (i := 220) rfl)
theorem wm4_221 : Cond.methodLink "HedgeMessagesLaw" 297 yL_sum ∈ lw_tbl := in_t4 (List.mem_of_getElem? (i := 221) rfl)
theorem wm4_222 : Cond.static yL_sum ∈ lw_tbl := in_t4 (List.mem_of_getElem? (i := 222) rfl)
theorem wm4_223 : Cond.code yL_sum method_9_code 6 (Option.some Jvm.ClassFile.FieldType.long) ∈ lw_tbl := in_t4 (List.mem_of_getElem? (i := 223) rfl)
theorem wm4_224 : Cond.constantLong "HedgeMessagesLaw" 86 (31 : Int64) ∈ lw_tbl := in_t4 (List.mem_of_getElem? (i := 224) rfl)
theorem wm4_225 : Cond.methodLink "HedgeMessagesLaw" 91 yX10_actionsLeft ∈ lw_tbl := in_t4 (List.mem_of_getElem? (i := 225) rfl)
theorem wm4_226 : Cond.instanceMethod yX10_actionsLeft ∈ lw_tbl := in_t4 (List.mem_of_getElem? (i := 226) rfl)
theorem wm4_227 : Cond.selects "HedgeMessages" yX10_actionsLeft yX10_actionsLeft ∈ lw_tbl := in_t4 (List.mem_of_getElem? (i := 227) rfl)
theorem wm4_228 : Cond.code yX10_actionsLeft prog_1_method_12_code 1 (Option.some Jvm.ClassFile.FieldType.int) ∈ lw_tbl := in_t4 (List.mem_of_getElem? (i := 228) rfl)
theorem wm4_229 : Cond.methodLink "HedgeMessagesLaw" 94 yX10_workLimit ∈ lw_tbl := in_t4 (List.mem_of_getElem? (i := 229) rfl)
theorem wm4_230 : Cond.instanceMethod yX10_workLimit ∈ lw_tbl := in_t4 (List.mem_of_getElem? (i := 230) rfl)
theorem wm4_231 : Cond.selects "HedgeMessages" yX10_workLimit yX10_workLimit ∈ lw_tbl := in_t4 (List.mem_of_getElem? (i := 231) rfl)
theorem wm4_232 : Cond.code yX10_workLimit prog_1_method_11_code 1 (Option.some Jvm.ClassFile.FieldType.int) ∈ lw_tbl := in_t4 (List.mem_of_getElem? (i := 232) rfl)
theorem wm4_233 : Cond.constantLong "HedgeMessagesLaw" 97 (7 : Int64) ∈ lw_tbl := in_t4 (List.mem_of_getElem? (i := 233) rfl)
theorem wm4_234 : Cond.methodLink "HedgeMessagesLaw" 99 yX10_twigsPlanted ∈ lw_tbl := in_t4 (List.mem_of_getElem? (i := 234) rfl)
theorem wm4_235 : Cond.instanceMethod yX10_twigsPlanted ∈ lw_tbl := in_t4 (List.mem_of_getElem? (i := 235) rfl)
theorem wm4_236 : Cond.selects "HedgeMessages" yX10_twigsPlanted yX10_twigsPlanted ∈ lw_tbl := in_t4 (List.mem_of_getElem? (i := 236) rfl)
theorem wm4_237 : Cond.code yX10_twigsPlanted prog_1_method_44_code 1 (Option.some Jvm.ClassFile.FieldType.int) ∈ lw_tbl := in_t4 (List.mem_of_getElem? (i := 237) rfl)
theorem wm4_238 : Cond.constantLong "HedgeMessagesLaw" 102 (11 : Int64) ∈ lw_tbl := in_t4 (List.mem_of_getElem? (i := 238) rfl)
theorem wm4_239 : Cond.methodLink "HedgeMessagesLaw" 104 yX10_twigsPruned ∈ lw_tbl := in_t4 (List.mem_of_getElem? (i := 239) rfl)
theorem wm5_0 : Cond.instanceMethod yX10_twigsPruned ∈ lw_tbl := in_t5 (List.mem_of_getElem? (i := 0) rfl)
theorem wm5_1 : Cond.selects "HedgeMessages" yX10_twigsPruned yX10_twigsPruned ∈ lw_tbl := in_t5 (List.mem_of_getElem? (i := 1) rfl)
theorem wm5_2 : Cond.code yX10_twigsPruned prog_1_method_45_code 1 (Option.some Jvm.ClassFile.FieldType.int) ∈ lw_tbl := in_t5 (List.mem_of_getElem? (i := 2) rfl)
theorem wm5_3 : Cond.constantLong "HedgeMessagesLaw" 107 (13 : Int64) ∈ lw_tbl := in_t5 (List.mem_of_getElem? (i := 3) rfl)
theorem wm5_4 : Cond.methodLink "HedgeMessagesLaw" 109 yX10_twigsRemoved ∈ lw_tbl := in_t5 (List.mem_of_getElem? (i := 4) rfl)
theorem wm5_5 : Cond.instanceMethod yX10_twigsRemoved ∈ lw_tbl := in_t5 (List.mem_of_getElem? (i := 5) rfl)
theorem wm5_6 : Cond.selects "HedgeMessages" yX10_twigsRemoved yX10_twigsRemoved ∈ lw_tbl := in_t5 (List.mem_of_getElem? (i := 6) rfl)
theorem wm5_7 : Cond.code yX10_twigsRemoved prog_1_method_46_code 1 (Option.some Jvm.ClassFile.FieldType.int) ∈ lw_tbl := in_t5 (List.mem_of_getElem? (i := 7) rfl)
theorem wm5_8 : Cond.methodLink "HedgeMessagesLaw" 112 yX10_slotCount ∈ lw_tbl := in_t5 (List.mem_of_getElem? (i := 8) rfl)
theorem wm5_9 : Cond.instanceMethod yX10_slotCount ∈ lw_tbl := in_t5 (List.mem_of_getElem? (i := 9) rfl)
theorem wm5_10 : Cond.selects "HedgeMessages" yX10_slotCount yX10_slotCount ∈ lw_tbl := in_t5 (List.mem_of_getElem? (i := 10) rfl)
theorem wm5_11 : Cond.code yX10_slotCount prog_1_method_8_code 1 (Option.some Jvm.ClassFile.FieldType.int) ∈ lw_tbl := in_t5 (List.mem_of_getElem? (i := 11) rfl)
theorem wm5_12 : Cond.methodLink "HedgeMessagesLaw" 115 yX10_letterAt ∈ lw_tbl := in_t5 (List.mem_of_getElem? (i := 12) rfl)
theorem wm5_13 : Cond.instanceMethod yX10_letterAt ∈ lw_tbl := in_t5 (List.mem_of_getElem? (i := 13) rfl)
theorem wm5_14 : Cond.selects "HedgeMessages" yX10_letterAt yX10_letterAt ∈ lw_tbl := in_t5 (List.mem_of_getElem? (i := 14) rfl)
theorem wm5_15 : Cond.code yX10_letterAt prog_1_method_14_code 2 (Option.some Jvm.ClassFile.FieldType.int) ∈ lw_tbl := in_t5 (List.mem_of_getElem? (i := 15) rfl)
theorem wm5_16 : Cond.methodLink "HedgeMessages" 151 yX5_hasTwig ∈ lw_tbl := in_t5 (List.mem_of_getElem? (i := 16) rfl)
theorem wm5_17 : Cond.constantLong "HedgeMessagesLaw" 118 (3 : Int64) ∈ lw_tbl := in_t5 (List.mem_of_getElem? (i := 17) rfl)
theorem wm5_18 : Cond.methodLink "HedgeMessagesLaw" 120 yX10_ownerAt ∈ lw_tbl := in_t5 (List.mem_of_getElem? (i := 18) rfl)
theorem wm5_19 : Cond.instanceMethod yX10_ownerAt ∈ lw_tbl := in_t5 (List.mem_of_getElem? (i := 19) rfl)
theorem wm5_20 : Cond.selects "HedgeMessages" yX10_ownerAt yX10_ownerAt ∈ lw_tbl := in_t5 (List.mem_of_getElem? (i := 20) rfl)
theorem wm5_21 : Cond.code yX10_ownerAt prog_1_method_15_code 2 (Option.some Jvm.ClassFile.FieldType.int) ∈ lw_tbl := in_t5 (List.mem_of_getElem? (i := 21) rfl)
theorem wm5_22 : Cond.constantLong "HedgeMessagesLaw" 123 (5 : Int64) ∈ lw_tbl := in_t5 (List.mem_of_getElem? (i := 22) rfl)
theorem wm5_23 : Cond.methodLink "HedgeMessagesLaw" 125 yX10_lengthAt ∈ lw_tbl := in_t5 (List.mem_of_getElem? (i := 23) rfl)
theorem wm5_24 : Cond.instanceMethod yX10_lengthAt ∈ lw_tbl := in_t5 (List.mem_of_getElem? (i := 24) rfl)
theorem wm5_25 : Cond.selects "HedgeMessages" yX10_lengthAt yX10_lengthAt ∈ lw_tbl := in_t5 (List.mem_of_getElem? (i := 25) rfl)
theorem wm5_26 : Cond.code yX10_lengthAt prog_1_method_16_code 2 (Option.some Jvm.ClassFile.FieldType.int) ∈ lw_tbl := in_t5 (List.mem_of_getElem? (i := 26) rfl)
theorem wm5_27 : Cond.methodLink "HedgeMessagesLaw" 128 yX10_nestDays ∈ lw_tbl := in_t5 (List.mem_of_getElem? (i := 27) rfl)
theorem wm5_28 : Cond.instanceMethod yX10_nestDays ∈ lw_tbl := in_t5 (List.mem_of_getElem? (i := 28) rfl)
theorem wm5_29 : Cond.selects "HedgeMessages" yX10_nestDays yX10_nestDays ∈ lw_tbl := in_t5 (List.mem_of_getElem? (i := 29) rfl)
theorem wm5_30 : Cond.code yX10_nestDays prog_1_method_18_code 2 (Option.some Jvm.ClassFile.FieldType.int) ∈ lw_tbl := in_t5 (List.mem_of_getElem? (i := 30) rfl)
theorem wm5_31 : Cond.methodLink "HedgeMessagesLaw" 131 yX10_isReserved ∈ lw_tbl := in_t5 (List.mem_of_getElem? (i := 31) rfl)
theorem wm5_32 : Cond.instanceMethod yX10_isReserved ∈ lw_tbl := in_t5 (List.mem_of_getElem? (i := 32) rfl)
theorem wm5_33 : Cond.selects "HedgeMessages" yX10_isReserved yX10_isReserved ∈ lw_tbl := in_t5 (List.mem_of_getElem? (i := 33) rfl)
theorem wm5_34 : Cond.code yX10_isReserved prog_1_method_17_code 2 (Option.some Jvm.ClassFile.FieldType.boolean) ∈ lw_tbl := in_t5 (List.mem_of_getElem? (i := 34) rfl)
theorem wm5_35 : Cond.methodLink "HedgeMessages" 167 yX5_isBooked ∈ lw_tbl := in_t5 (List.mem_of_getElem? (i := 35) rfl)
theorem wm5_36 : Cond.methodLink "HedgeMessagesLaw" 135 yX10_pendingCount ∈ lw_tbl := in_t5 (List.mem_of_getElem? (i := 36) rfl)
theorem wm5_37 : Cond.instanceMethod yX10_pendingCount ∈ lw_tbl := in_t5 (List.mem_of_getElem? (i := 37) rfl)
theorem wm5_38 : Cond.selects "HedgeMessages" yX10_pendingCount yX10_pendingCount ∈ lw_tbl := in_t5 (List.mem_of_getElem? (i := 38) rfl)
theorem wm5_39 : Cond.code yX10_pendingCount prog_1_method_21_code 2 (Option.some Jvm.ClassFile.FieldType.int) ∈ lw_tbl := in_t5 (List.mem_of_getElem? (i := 39) rfl)
theorem wm5_40 : Cond.methodLink "HedgeMessagesLaw" 138 yX10_lettersWritten ∈ lw_tbl := in_t5 (List.mem_of_getElem? (i := 40) rfl)
theorem wm5_41 : Cond.instanceMethod yX10_lettersWritten ∈ lw_tbl := in_t5 (List.mem_of_getElem? (i := 41) rfl)
theorem wm5_42 : Cond.selects "HedgeMessages" yX10_lettersWritten yX10_lettersWritten ∈ lw_tbl := in_t5 (List.mem_of_getElem? (i := 42) rfl)
theorem wm5_43 : Cond.code yX10_lettersWritten prog_1_method_23_code 2 (Option.some Jvm.ClassFile.FieldType.int) ∈ lw_tbl := in_t5 (List.mem_of_getElem? (i := 43) rfl)
theorem wm5_44 : Cond.methodLink "HedgeMessagesLaw" 141 yX10_startSlot ∈ lw_tbl := in_t5 (List.mem_of_getElem? (i := 44) rfl)
theorem wm5_45 : Cond.instanceMethod yX10_startSlot ∈ lw_tbl := in_t5 (List.mem_of_getElem? (i := 45) rfl)
theorem wm5_46 : Cond.selects "HedgeMessages" yX10_startSlot yX10_startSlot ∈ lw_tbl := in_t5 (List.mem_of_getElem? (i := 46) rfl)
theorem wm5_47 : Cond.code yX10_startSlot prog_1_method_24_code 3 (Option.some Jvm.ClassFile.FieldType.int) ∈ lw_tbl := in_t5 (List.mem_of_getElem? (i := 47) rfl)
theorem wm5_48 : Cond.methodLink "HedgeMessages" 198 yX4_isWriting ∈ lw_tbl := in_t5 (List.mem_of_getElem? (i := 48) rfl)
theorem wm5_49 : Cond.methodLink "HedgeMessagesLaw" 144 yX10_postedCount ∈ lw_tbl := in_t5 (List.mem_of_getElem? (i := 49) rfl)
theorem wm5_50 : Cond.instanceMethod yX10_postedCount ∈ lw_tbl := in_t5 (List.mem_of_getElem? (i := 50) rfl)
theorem wm5_51 : Cond.selects "HedgeMessages" yX10_postedCount yX10_postedCount ∈ lw_tbl := in_t5 (List.mem_of_getElem? (i := 51) rfl)
theorem wm5_52 : Cond.code yX10_postedCount prog_1_method_25_code 2 (Option.some Jvm.ClassFile.FieldType.int) ∈ lw_tbl := in_t5 (List.mem_of_getElem? (i := 52) rfl)
theorem wm5_53 : Cond.methodLink "HedgeMessages" 209 yX7_countOf ∈ lw_tbl := in_t5 (List.mem_of_getElem? (i := 53) rfl)
theorem wm5_54 : Cond.instanceMethod yX7_countOf ∈ lw_tbl := in_t5 (List.mem_of_getElem? (i := 54) rfl)
theorem wm5_55 : Cond.selects "HedgeMessages$PostedMessages" yX7_countOf yX7_countOf ∈ lw_tbl := in_t5 (List.mem_of_getElem? (i := 55) rfl)
theorem wm5_56 : Cond.code yX7_countOf prog_9_method_3_code 4 (Option.some Jvm.ClassFile.FieldType.int) ∈ lw_tbl := in_t5 (List.mem_of_getElem? (i := 56) rfl)
theorem wm5_57 : Cond.methodLink "HedgeMessagesLaw" 147 yX10_messagesQueued ∈ lw_tbl := in_t5 (List.mem_of_getElem? (i := 57) rfl)
theorem wm5_58 : Cond.instanceMethod yX10_messagesQueued ∈ lw_tbl := in_t5 (List.mem_of_getElem? (i := 58) rfl)
theorem wm5_59 : Cond.selects "HedgeMessages" yX10_messagesQueued yX10_messagesQueued ∈ lw_tbl := in_t5 (List.mem_of_getElem? (i := 59) rfl)
theorem wm5_60 : Cond.code yX10_messagesQueued prog_1_method_40_code 2 (Option.some Jvm.ClassFile.FieldType.int) ∈ lw_tbl := in_t5 (List.mem_of_getElem? (i := 60) rfl)
theorem wm5_61 : Cond.methodLink "HedgeMessagesLaw" 150 yX10_messagesDelivered ∈ lw_tbl := in_t5 (List.mem_of_getElem? (i := 61) rfl)
theorem wm5_62 : Cond.instanceMethod yX10_messagesDelivered ∈ lw_tbl := in_t5 (List.mem_of_getElem? (i := 62) rfl)
theorem wm5_63 : Cond.selects "HedgeMessages" yX10_messagesDelivered yX10_messagesDelivered ∈ lw_tbl := in_t5 (List.mem_of_getElem? (i := 63) rfl)
theorem wm5_64 : Cond.code yX10_messagesDelivered prog_1_method_41_code 2 (Option.some Jvm.ClassFile.FieldType.int) ∈ lw_tbl := in_t5 (List.mem_of_getElem? (i := 64) rfl)
theorem wm5_65 : Cond.methodLink "HedgeMessagesLaw" 153 yX10_messagesFailed ∈ lw_tbl := in_t5 (List.mem_of_getElem? (i := 65) rfl)
theorem wm5_66 : Cond.instanceMethod yX10_messagesFailed ∈ lw_tbl := in_t5 (List.mem_of_getElem? (i := 66) rfl)
theorem wm5_67 : Cond.selects "HedgeMessages" yX10_messagesFailed yX10_messagesFailed ∈ lw_tbl := in_t5 (List.mem_of_getElem? (i := 67) rfl)
theorem wm5_68 : Cond.code yX10_messagesFailed prog_1_method_42_code 2 (Option.some Jvm.ClassFile.FieldType.int) ∈ lw_tbl := in_t5 (List.mem_of_getElem? (i := 68) rfl)
theorem wm5_69 : Cond.methodLink "HedgeMessagesLaw" 156 yX10_messagesDropped ∈ lw_tbl := in_t5 (List.mem_of_getElem? (i := 69) rfl)
theorem wm5_70 : Cond.instanceMethod yX10_messagesDropped ∈ lw_tbl := in_t5 (List.mem_of_getElem? (i := 70) rfl)
theorem wm5_71 : Cond.selects "HedgeMessages" yX10_messagesDropped yX10_messagesDropped ∈ lw_tbl := in_t5 (List.mem_of_getElem? (i := 71) rfl)
theorem wm5_72 : Cond.code yX10_messagesDropped prog_1_method_43_code 2 (Option.some Jvm.ClassFile.FieldType.int) ∈ lw_tbl := in_t5 (List.mem_of_getElem? (i := 72) rfl)
theorem wm5_73 : Cond.methodLink "HedgeMessagesLaw" 159 yX10_pendingLetter ∈ lw_tbl := in_t5 (List.mem_of_getElem? (i := 73) rfl)
theorem wm5_74 : Cond.instanceMethod yX10_pendingLetter ∈ lw_tbl := in_t5 (List.mem_of_getElem? (i := 74) rfl)
theorem wm5_75 : Cond.selects "HedgeMessages" yX10_pendingLetter yX10_pendingLetter ∈ lw_tbl := in_t5 (List.mem_of_getElem? (i := 75) rfl)
theorem wm5_76 : Cond.code yX10_pendingLetter prog_1_method_22_code 4 (Option.some Jvm.ClassFile.FieldType.int) ∈ lw_tbl := in_t5 (List.mem_of_getElem? (i := 76) rfl)
theorem wm5_77 : Cond.methodLink "HedgeMessages" 191 yX4_letterOf ∈ lw_tbl := in_t5 (List.mem_of_getElem? (i := 77) rfl)
theorem wm5_78 : Cond.instanceMethod yX4_letterOf ∈ lw_tbl := in_t5 (List.mem_of_getElem? (i := 78) rfl)
theorem wm5_79 : Cond.selects "HedgeMessages$Gardener" yX4_letterOf yX4_letterOf ∈ lw_tbl := in_t5 (List.mem_of_getElem? (i := 79) rfl)
theorem wm5_80 : Cond.code yX4_letterOf prog_6_method_8_code 3 (Option.some Jvm.ClassFile.FieldType.int) ∈ lw_tbl := in_t5 (List.mem_of_getElem? (i := 80) rfl)
theorem wm5_81 : Cond.methodLink "HedgeMessages$Gardener" 63 yX4_lengthOf ∈ lw_tbl := in_t5 (List.mem_of_getElem? (i := 81) rfl)
theorem wm5_82 : Cond.methodLink "HedgeMessagesLaw" 293 yL_stands ∈ lw_tbl := in_t5 (List.mem_of_getElem? (i := 82) rfl)
theorem wm5_83 : Cond.static yL_stands ∈ lw_tbl := in_t5 (List.mem_of_getElem? (i := 83) rfl)
theorem wm5_84 : Cond.code yL_stands method_14_code 5 (Option.some Jvm.ClassFile.FieldType.boolean) ∈ lw_tbl := in_t5 (List.mem_of_getElem? (i := 84) rfl)
theorem wm5_85 : Cond.methodLink "HedgeMessagesLaw" 200 yL_isSlot ∈ lw_tbl := in_t5 (List.mem_of_getElem? (i := 85) rfl)
theorem wm5_86 : Cond.static yL_isSlot ∈ lw_tbl := in_t5 (List.mem_of_getElem? (i := 86) rfl)
theorem wm5_87 : Cond.code yL_isSlot method_11_code 10 (Option.some Jvm.ClassFile.FieldType.boolean) ∈ lw_tbl := in_t5 (List.mem_of_getElem? (i := 87) rfl)
theorem wm5_88 : Cond.methodLink "HedgeMessagesLaw" 169 yX10_activeGardener ∈ lw_tbl := in_t5 (List.mem_of_getElem? (i := 88) rfl)
theorem wm5_89 : Cond.instanceMethod yX10_activeGardener ∈ lw_tbl := in_t5 (List.mem_of_getElem? (i := 89) rfl)
theorem wm5_90 : Cond.selects "HedgeMessages" yX10_activeGardener yX10_activeGardener ∈ lw_tbl := in_t5 (List.mem_of_getElem? (i := 90) rfl)
theorem wm5_91 : Cond.code yX10_activeGardener prog_1_method_10_code 1 (Option.some Jvm.ClassFile.FieldType.int) ∈ lw_tbl := in_t5 (List.mem_of_getElem? (i := 91) rfl)
theorem wm5_92 : Cond.methodLink "HedgeMessages" 135 yX5_active ∈ lw_tbl := in_t5 (List.mem_of_getElem? (i := 92) rfl)
theorem wm5_93 : Cond.methodLink "HedgeMessagesLaw" 172 yL_isProtected ∈ lw_tbl := in_t5 (List.mem_of_getElem? (i := 93) rfl)
theorem wm5_94 : Cond.static yL_isProtected ∈ lw_tbl := in_t5 (List.mem_of_getElem? (i := 94) rfl)
theorem wm5_95 : Cond.code yL_isProtected method_10_code 3 (Option.some Jvm.ClassFile.FieldType.boolean) ∈ lw_tbl := in_t5 (List.mem_of_getElem? (i := 95) rfl)
theorem wm5_96 : Cond.methodLink "HedgeMessagesLaw" 163 yJ9_max_7cf53 ∈ lw_tbl := in_t5 (List.mem_of_getElem? (i := 96) rfl)
theorem wm5_97 : Cond.static yJ9_max_7cf53 ∈ lw_tbl := in_t5 (List.mem_of_getElem? (i := 97) rfl)
theorem wm5_98 : Cond.code yJ9_max_7cf53 prog_21_method_65_code 2 (Option.some Jvm.ClassFile.FieldType.int) ∈ lw_tbl := in_t5 (List.mem_of_getElem? (i := 98) rfl)
theorem wm5_99 : Cond.methodLink "HedgeMessagesLaw" 166 yJ9_min_7cf53 ∈ lw_tbl := in_t5 (List.mem_of_getElem? (i := 99) rfl)
theorem wm5_100 : Cond.static yJ9_min_7cf53 ∈ lw_tbl := in_t5 (List.mem_of_getElem? (i := 100) rfl)
theorem wm5_101 : Cond.code yJ9_min_7cf53 prog_21_method_69_code 2 (Option.some Jvm.ClassFile.FieldType.int) ∈ lw_tbl := in_t5 (List.mem_of_getElem? (i := 101) rfl)
theorem wm5_102 : Cond.methodLink "HedgeMessagesLaw" 176 yX10_isProtected ∈ lw_tbl := in_t5 (List.mem_of_getElem? (i := 102) rfl)
theorem wm5_103 : Cond.instanceMethod yX10_isProtected ∈ lw_tbl := in_t5 (List.mem_of_getElem? (i := 103) rfl)
theorem wm5_104 : Cond.selects "HedgeMessages" yX10_isProtected yX10_isProtected ∈ lw_tbl := in_t5 (List.mem_of_getElem? (i := 104) rfl)
theorem wm5_105 : Cond.code yX10_isProtected prog_1_method_19_code 2 (Option.some Jvm.ClassFile.FieldType.boolean) ∈ lw_tbl := in_t5 (List.mem_of_getElem? (i := 105) rfl)
theorem wm5_106 : Cond.methodLink "HedgeMessages" 173 yX5_isGuarded ∈ lw_tbl := in_t5 (List.mem_of_getElem? (i := 106) rfl)
theorem wm5_107 : Cond.methodLink "HedgeMessagesLaw" 178 yX10_removeReason ∈ lw_tbl := in_t5 (List.mem_of_getElem? (i := 107) rfl)
theorem wm5_108 : Cond.instanceMethod yX10_removeReason ∈ lw_tbl := in_t5 (List.mem_of_getElem? (i := 108) rfl)
theorem wm5_109 : Cond.selects "HedgeMessages" yX10_removeReason yX10_removeReason ∈ lw_tbl := in_t5 (List.mem_of_getElem? (i := 109) rfl)
theorem wm5_110 : Cond.code yX10_removeReason prog_1_method_30_code 2 (Option.some Jvm.ClassFile.FieldType.int) ∈ lw_tbl := in_t5 (List.mem_of_getElem? (i := 110) rfl)
theorem wm5_111 : Cond.methodLink "HedgeMessages" 229 yX5_reasonNotToRemove ∈ lw_tbl := in_t5 (List.mem_of_getElem? (i := 111) rfl)
theorem wm5_112 : Cond.methodLink "HedgeMessagesLaw" 181 yX10_plantReason ∈ lw_tbl := in_t5 (List.mem_of_getElem? (i := 112) rfl)
theorem wm5_113 : Cond.instanceMethod yX10_plantReason ∈ lw_tbl := in_t5 (List.mem_of_getElem? (i := 113) rfl)
theorem wm5_114 : Cond.selects "HedgeMessages" yX10_plantReason yX10_plantReason ∈ lw_tbl := in_t5 (List.mem_of_getElem? (i := 114) rfl)
theorem wm5_115 : Cond.code yX10_plantReason prog_1_method_29_code 2 (Option.some Jvm.ClassFile.FieldType.int) ∈ lw_tbl := in_t5 (List.mem_of_getElem? (i := 115) rfl)
theorem wm5_116 : Cond.methodLink "HedgeMessages" 226 yX5_reasonNotToPlant ∈ lw_tbl := in_t5 (List.mem_of_getElem? (i := 116) rfl)
theorem wm5_117 : Cond.methodLink "HedgeMessagesLaw" 184 yX10_trimReason ∈ lw_tbl := in_t5 (List.mem_of_getElem? (i := 117) rfl)
theorem wm5_118 : Cond.instanceMethod yX10_trimReason ∈ lw_tbl := in_t5 (List.mem_of_getElem? (i := 118) rfl)
theorem wm5_119 : Cond.selects "HedgeMessages" yX10_trimReason yX10_trimReason ∈ lw_tbl := in_t5 (List.mem_of_getElem? (i := 119) rfl)
theorem wm5_120 : Cond.code yX10_trimReason prog_1_method_31_code 2 (Option.some Jvm.ClassFile.FieldType.int) ∈ lw_tbl := in_t5 (List.mem_of_getElem? (i := 120) rfl)
theorem wm5_121 : Cond.methodLink "HedgeMessages" 232 yX5_reasonNotToTrim ∈ lw_tbl := in_t5 (List.mem_of_getElem? (i := 121) rfl)
theorem wm5_122 : Cond.methodLink "HedgeMessagesLaw" 187 yX10_keepReason ∈ lw_tbl := in_t5 (List.mem_of_getElem? (i := 122) rfl)
theorem wm5_123 : Cond.instanceMethod yX10_keepReason ∈ lw_tbl := in_t5 (List.mem_of_getElem? (i := 123) rfl)
theorem wm5_124 : Cond.selects "HedgeMessages" yX10_keepReason yX10_keepReason ∈ lw_tbl := in_t5 (List.mem_of_getElem? (i := 124) rfl)
theorem wm5_125 : Cond.code yX10_keepReason prog_1_method_33_code 2 (Option.some Jvm.ClassFile.FieldType.int) ∈ lw_tbl := in_t5 (List.mem_of_getElem? (i := 125) rfl)
theorem wm5_126 : Cond.methodLink "HedgeMessages" 238 yX5_reasonNotToPrune ∈ lw_tbl := in_t5 (List.mem_of_getElem? (i := 126) rfl)
theorem wm5_127 : Cond.methodLink "HedgeMessagesLaw" 190 yL_keep ∈ lw_tbl := in_t5 (List.mem_of_getElem? (i := 127) rfl)
theorem wm5_128 : Cond.static yL_keep ∈ lw_tbl := in_t5 (List.mem_of_getElem? (i := 128) rfl)
theorem wm5_129 : Cond.code yL_keep method_12_code 3 (Option.some Jvm.ClassFile.FieldType.int) ∈ lw_tbl := in_t5 (List.mem_of_getElem? (i := 129) rfl)
theorem wm5_130 : Cond.methodLink "HedgeMessagesLaw" 203 yL_isGardener ∈ lw_tbl := in_t5 (List.mem_of_getElem? (i := 130) rfl)
theorem wm5_131 : Cond.static yL_isGardener ∈ lw_tbl := in_t5 (List.mem_of_getElem? (i := 131) rfl)
theorem wm5_132 : Cond.code yL_isGardener method_13_code 9 (Option.some Jvm.ClassFile.FieldType.boolean) ∈ lw_tbl := in_t5 (List.mem_of_getElem? (i := 132) rfl)
theorem wm5_133 : Cond.methodLink "HedgeMessagesLaw" 194 yX10_nextStartSlot ∈ lw_tbl := in_t5 (List.mem_of_getElem? (i := 133) rfl)
theorem wm5_134 : Cond.instanceMethod yX10_nextStartSlot ∈ lw_tbl := in_t5 (List.mem_of_getElem? (i := 134) rfl)
theorem wm5_135 : Cond.selects "HedgeMessages" yX10_nextStartSlot yX10_nextStartSlot ∈ lw_tbl := in_t5 (List.mem_of_getElem? (i := 135) rfl)
theorem wm5_136 : Cond.code yX10_nextStartSlot prog_1_method_26_code 2 (Option.some Jvm.ClassFile.FieldType.int) ∈ lw_tbl := in_t5 (List.mem_of_getElem? (i := 136) rfl)
theorem wm5_137 : Cond.methodLink "HedgeMessages" 217 yX5_findStart ∈ lw_tbl := in_t5 (List.mem_of_getElem? (i := 137) rfl)
theorem wm5_138 : Cond.methodLink "HedgeMessagesLaw" 197 yX10_writeReason ∈ lw_tbl := in_t5 (List.mem_of_getElem? (i := 138) rfl)
theorem wm5_139 : Cond.instanceMethod yX10_writeReason ∈ lw_tbl := in_t5 (List.mem_of_getElem? (i := 139) rfl)
theorem wm5_140 : Cond.selects "HedgeMessages" yX10_writeReason yX10_writeReason ∈ lw_tbl := in_t5 (List.mem_of_getElem? (i := 140) rfl)
theorem wm5_141 : Cond.code yX10_writeReason prog_1_method_32_code 2 (Option.some Jvm.ClassFile.FieldType.int) ∈ lw_tbl := in_t5 (List.mem_of_getElem? (i := 141) rfl)
theorem wm5_142 : Cond.methodLink "HedgeMessages" 235 yX5_reasonNotToWrite ∈ lw_tbl := in_t5 (List.mem_of_getElem? (i := 142) rfl)
theorem wm5_143 : Cond.instanceMethod yX5_reasonNotToWrite ∈ lw_tbl := in_t5 (List.mem_of_getElem? (i := 143) rfl)
theorem wm5_144 : Cond.selects "HedgeMessages$Hedge" yX5_reasonNotToWrite yX5_reasonNotToWrite ∈ lw_tbl := in_t5 (List.mem_of_getElem? (i := 144) rfl)
theorem wm5_145 : Cond.code yX5_reasonNotToWrite prog_7_method_31_code 3 (Option.some Jvm.ClassFile.FieldType.int) ∈ lw_tbl := in_t5 (List.mem_of_getElem? (i := 145) rfl)
theorem wm5_146 : Cond.methodLink "HedgeMessagesLaw" 206 yX10_twigCount ∈ lw_tbl := in_t5 (List.mem_of_getElem? (i := 146) rfl)
theorem wm5_147 : Cond.instanceMethod yX10_twigCount ∈ lw_tbl := in_t5 (List.mem_of_getElem? (i := 147) rfl)
theorem wm5_148 : Cond.selects "HedgeMessages" yX10_twigCount yX10_twigCount ∈ lw_tbl := in_t5 (List.mem_of_getElem? (i := 148) rfl)
theorem wm5_149 : Cond.code yX10_twigCount prog_1_method_13_code 1 (Option.some Jvm.ClassFile.FieldType.int) ∈ lw_tbl := in_t5 (List.mem_of_getElem? (i := 149) rfl)
theorem wm5_150 : Cond.methodLink "HedgeMessagesLaw" 209 yX10_nestCount ∈ lw_tbl := in_t5 (List.mem_of_getElem? (i := 150) rfl)
theorem wm5_151 : Cond.instanceMethod yX10_nestCount ∈ lw_tbl := in_t5 (List.mem_of_getElem? (i := 151) rfl)
theorem wm5_152 : Cond.selects "HedgeMessages" yX10_nestCount yX10_nestCount ∈ lw_tbl := in_t5 (List.mem_of_getElem? (i := 152) rfl)
theorem wm5_153 : Cond.code yX10_nestCount prog_1_method_20_code 1 (Option.some Jvm.ClassFile.FieldType.int) ∈ lw_tbl := in_t5 (List.mem_of_getElem? (i := 153) rfl)
theorem wm5_154 : Cond.methodLink "HedgeMessagesLaw" 212 yX10_meanLength ∈ lw_tbl := in_t5 (List.mem_of_getElem? (i := 154) rfl)
theorem wm5_155 : Cond.instanceMethod yX10_meanLength ∈ lw_tbl := in_t5 (List.mem_of_getElem? (i := 155) rfl)
theorem wm5_156 : Cond.selects "HedgeMessages" yX10_meanLength yX10_meanLength ∈ lw_tbl := in_t5 (List.mem_of_getElem? (i := 156) rfl)
theorem wm5_157 : Cond.code yX10_meanLength prog_1_method_50_code 2 (Option.some Jvm.ClassFile.FieldType.float) ∈ lw_tbl := in_t5 (List.mem_of_getElem? (i := 157) rfl)
theorem wm5_158 : Cond.methodLink "HedgeMessages" 295 yX5_sumOfLengths ∈ lw_tbl := in_t5 (List.mem_of_getElem? (i := 158) rfl)
theorem wm5_159 : Cond.instanceMethod yX5_sumOfLengths ∈ lw_tbl := in_t5 (List.mem_of_getElem? (i := 159) rfl)
theorem wm5_160 : Cond.selects "HedgeMessages$Hedge" yX5_sumOfLengths yX5_sumOfLengths ∈ lw_tbl := in_t5 (List.mem_of_getElem? (i := 160) rfl)
theorem wm5_161 : Cond.code yX5_sumOfLengths prog_7_method_16_code 3 (Option.some Jvm.ClassFile.FieldType.int) ∈ lw_tbl := in_t5 (List.mem_of_getElem? (i := 161) rfl)
theorem wm5_162 : Cond.methodLink "HedgeMessagesLaw" 216 yX10_occupancy ∈ lw_tbl := in_t5 (List.mem_of_getElem? (i := 162) rfl)
theorem wm5_163 : Cond.instanceMethod yX10_occupancy ∈ lw_tbl := in_t5 (List.mem_of_getElem? (i := 163) rfl)
theorem wm5_164 : Cond.selects "HedgeMessages" yX10_occupancy yX10_occupancy ∈ lw_tbl := in_t5 (List.mem_of_getElem? (i := 164) rfl)
theorem wm5_165 : Cond.code yX10_occupancy prog_1_method_51_code 1 (Option.some Jvm.ClassFile.FieldType.double) ∈ lw_tbl := in_t5 (List.mem_of_getElem? (i := 165) rfl)
theorem wm5_166 : Cond.methodLink "HedgeMessagesLaw" 220 yX10_twigImbalance ∈ lw_tbl := in_t5 (List.mem_of_getElem? (i := 166) rfl)
theorem wm5_167 : Cond.instanceMethod yX10_twigImbalance ∈ lw_tbl := in_t5 (List.mem_of_getElem? (i := 167) rfl)
theorem wm5_168 : Cond.selects "HedgeMessages" yX10_twigImbalance yX10_twigImbalance ∈ lw_tbl := in_t5 (List.mem_of_getElem? (i := 168) rfl)
theorem wm5_169 : Cond.code yX10_twigImbalance prog_1_method_47_code 1 (Option.some Jvm.ClassFile.FieldType.int) ∈ lw_tbl := in_t5 (List.mem_of_getElem? (i := 169) rfl)
theorem wm5_170 : Cond.methodLink "HedgeMessagesLaw" 223 yX10_messageImbalance ∈ lw_tbl := in_t5 (List.mem_of_getElem? (i := 170) rfl)
theorem wm5_171 : Cond.instanceMethod yX10_messageImbalance ∈ lw_tbl := in_t5 (List.mem_of_getElem? (i := 171) rfl)
theorem wm5_172 : Cond.selects "HedgeMessages" yX10_messageImbalance yX10_messageImbalance ∈ lw_tbl := in_t5 (List.mem_of_getElem? (i := 172) rfl)
theorem wm5_173 : Cond.code yX10_messageImbalance prog_1_method_48_code 1 (Option.some Jvm.ClassFile.FieldType.int) ∈ lw_tbl := in_t5 (List.mem_of_getElem? (i := 173) rfl)
theorem wm5_174 : Cond.methodLink "HedgeMessages" 285 yX4_queuedMinusSettled ∈ lw_tbl := in_t5 (List.mem_of_getElem? (i := 174) rfl)
theorem wm5_175 : Cond.instanceMethod yX4_queuedMinusSettled ∈ lw_tbl := in_t5 (List.mem_of_getElem? (i := 175) rfl)
theorem wm5_176 : Cond.selects "HedgeMessages$Gardener" yX4_queuedMinusSettled yX4_queuedMinusSettled ∈ lw_tbl := in_t5 (List.mem_of_getElem? (i := 176) rfl)
theorem wm5_177 : Cond.code yX4_queuedMinusSettled prog_6_method_12_code 1 (Option.some Jvm.ClassFile.FieldType.int) ∈ lw_tbl := in_t5 (List.mem_of_getElem? (i := 177) rfl)
theorem wm5_178 : Cond.methodLink "HedgeMessages$Gardener" 77 yX4_isWriting ∈ lw_tbl := in_t5 (List.mem_of_getElem? (i := 178) rfl)
theorem wm5_179 : Cond.methodLink "HedgeMessagesLaw" 226 yX10_wrongLetters ∈ lw_tbl := in_t5 (List.mem_of_getElem? (i := 179) rfl)
theorem wm5_180 : Cond.instanceMethod yX10_wrongLetters ∈ lw_tbl := in_t5 (List.mem_of_getElem? (i := 180) rfl)
theorem wm5_181 : Cond.selects "HedgeMessages" yX10_wrongLetters yX10_wrongLetters ∈ lw_tbl := in_t5 (List.mem_of_getElem? (i := 181) rfl)
theorem wm5_182 : Cond.code yX10_wrongLetters prog_1_method_49_code 1 (Option.some Jvm.ClassFile.FieldType.int) ∈ lw_tbl := in_t5 (List.mem_of_getElem? (i := 182) rfl)
theorem wm5_183 : Cond.methodLink "HedgeMessages" 292 yX5_countWrongLetters ∈ lw_tbl := in_t5 (List.mem_of_getElem? (i := 183) rfl)
theorem wm5_184 : Cond.instanceMethod yX5_countWrongLetters ∈ lw_tbl := in_t5 (List.mem_of_getElem? (i := 184) rfl)
theorem wm5_185 : Cond.selects "HedgeMessages$Hedge" yX5_countWrongLetters yX5_countWrongLetters ∈ lw_tbl := in_t5 (List.mem_of_getElem? (i := 185) rfl)
theorem wm5_186 : Cond.code yX5_countWrongLetters prog_7_method_23_code 3 (Option.some Jvm.ClassFile.FieldType.int) ∈ lw_tbl := in_t5 (List.mem_of_getElem? (i := 186) rfl)
theorem wm5_187 : Cond.methodLink "HedgeMessages$Hedge" 156 yX5_wrongIn ∈ lw_tbl := in_t5 (List.mem_of_getElem? (i := 187) rfl)
theorem wm5_189 : Cond.instanceMethod yX5_wrongIn ∈ lw_tbl := in_t5 (List.mem_of_getElem? (i := 189) rfl)
theorem wm5_190 : Cond.code yX5_wrongIn prog_7_method_24_code 7 (Option.some Jvm.ClassFile.FieldType.int) ∈ lw_tbl := in_t5 (List.mem_of_getElem? (i := 190) rfl)
theorem wm5_191 : Cond.methodLink "HedgeMessagesLaw" 301 yL_acts ∈ lw_tbl := in_t5 (List.mem_of_getElem? (i := 191) rfl)
theorem wm5_192 : Cond.static yL_acts ∈ lw_tbl := in_t5 (List.mem_of_getElem? (i := 192) rfl)
theorem wm5_193 : Cond.code yL_acts method_16_code 12 (Option.some Jvm.ClassFile.FieldType.boolean) ∈ lw_tbl := in_t5 (List.mem_of_getElem? (i := 193) rfl)
theorem wm5_194 : Cond.methodLink "HedgeMessagesLaw" 245 yL_ends ∈ lw_tbl := in_t5 (List.mem_of_getElem? (i := 194) rfl)
theorem wm5_195 : Cond.static yL_ends ∈ lw_tbl := in_t5 (List.mem_of_getElem? (i := 195) rfl)
theorem wm5_196 : Cond.code yL_ends method_15_code 13 (Option.some Jvm.ClassFile.FieldType.boolean) ∈ lw_tbl := in_t5 (List.mem_of_getElem? (i := 196) rfl)
theorem wm5_197 : Cond.methodLink "HedgeMessagesLaw" 229 yX10_daysUntilPruned ∈ lw_tbl := in_t5 (List.mem_of_getElem? (i := 197) rfl)
theorem wm5_198 : Cond.instanceMethod yX10_daysUntilPruned ∈ lw_tbl := in_t5 (List.mem_of_getElem? (i := 198) rfl)
theorem wm5_199 : Cond.selects "HedgeMessages" yX10_daysUntilPruned yX10_daysUntilPruned ∈ lw_tbl := in_t5 (List.mem_of_getElem? (i := 199) rfl)
theorem wm5_200 : Cond.code yX10_daysUntilPruned prog_1_method_35_code 3 (Option.some Jvm.ClassFile.FieldType.int) ∈ lw_tbl := in_t5 (List.mem_of_getElem? (i := 200) rfl)
theorem wm5_201 : Cond.methodLink "HedgeMessagesLaw" 232 yX10_deliveredAfter ∈ lw_tbl := in_t5 (List.mem_of_getElem? (i := 201) rfl)
theorem wm5_202 : Cond.instanceMethod yX10_deliveredAfter ∈ lw_tbl := in_t5 (List.mem_of_getElem? (i := 202) rfl)
theorem wm5_203 : Cond.selects "HedgeMessages" yX10_deliveredAfter yX10_deliveredAfter ∈ lw_tbl := in_t5 (List.mem_of_getElem? (i := 203) rfl)
theorem wm5_204 : Cond.code yX10_deliveredAfter prog_1_method_36_code 3 (Option.some Jvm.ClassFile.FieldType.int) ∈ lw_tbl := in_t5 (List.mem_of_getElem? (i := 204) rfl)
theorem wm5_205 : Cond.methodLink "HedgeMessages" 250 yX10_foresee ∈ lw_tbl := in_t5 (List.mem_of_getElem? (i := 205) rfl)
theorem wm5_207 : Cond.instanceMethod yX10_foresee ∈ lw_tbl := in_t5 (List.mem_of_getElem? (i := 207) rfl)
theorem wm5_208 : Cond.code yX10_foresee prog_1_method_70_code 3 (Option.none : Option Jvm.ClassFile.FieldType) ∈ lw_tbl := in_t5 (List.mem_of_getElem? (i := 208) rfl)
theorem wm5_209 : Cond.methodLink "HedgeMessagesLaw" 235 yX10_pendingAfter ∈ lw_tbl := in_t5 (List.mem_of_getElem? (i := 209) rfl)
theorem wm5_210 : Cond.instanceMethod yX10_pendingAfter ∈ lw_tbl := in_t5 (List.mem_of_getElem? (i := 210) rfl)
theorem wm5_211 : Cond.selects "HedgeMessages" yX10_pendingAfter yX10_pendingAfter ∈ lw_tbl := in_t5 (List.mem_of_getElem? (i := 211) rfl)
theorem wm5_212 : Cond.code yX10_pendingAfter prog_1_method_37_code 3 (Option.some Jvm.ClassFile.FieldType.int) ∈ lw_tbl := in_t5 (List.mem_of_getElem? (i := 212) rfl)
theorem wm5_213 : Cond.methodLink "HedgeMessagesLaw" 238 yX10_daysUntilInspection ∈ lw_tbl := in_t5 (List.mem_of_getElem? (i := 213) rfl)
theorem wm5_214 : Cond.instanceMethod yX10_daysUntilInspection ∈ lw_tbl := in_t5 (List.mem_of_getElem? (i := 214) rfl)
theorem wm5_215 : Cond.selects "HedgeMessages" yX10_daysUntilInspection yX10_daysUntilInspection ∈ lw_tbl := in_t5 (List.mem_of_getElem? (i := 215) rfl)
theorem wm5_216 : Cond.code yX10_daysUntilInspection prog_1_method_34_code 1 (Option.some Jvm.ClassFile.FieldType.int) ∈ lw_tbl := in_t5 (List.mem_of_getElem? (i := 216) rfl)
theorem wm5_217 : Cond.methodLink "HedgeMessages" 241 yX5_daysToInspection ∈ lw_tbl := in_t5 (List.mem_of_getElem? (i := 217) rfl)
theorem wm5_218 : Cond.instanceMethod yX5_daysToInspection ∈ lw_tbl := in_t5 (List.mem_of_getElem? (i := 218) rfl)
theorem wm5_219 : Cond.selects "HedgeMessages$Hedge" yX5_daysToInspection yX5_daysToInspection ∈ lw_tbl := in_t5 (List.mem_of_getElem? (i := 219) rfl)
theorem wm5_220 : Cond.code yX5_daysToInspection prog_7_method_21_code 1 (Option.some Jvm.ClassFile.FieldType.int) ∈ lw_tbl := in_t5 (List.mem_of_getElem? (i := 220) rfl)
theorem wm5_221 : Cond.methodLink "HedgeMessagesLaw" 249 yX10_bestNestSlot ∈ lw_tbl := in_t5 (List.mem_of_getElem? (i := 221) rfl)
theorem wm5_222 : Cond.instanceMethod yX10_bestNestSlot ∈ lw_tbl := in_t5 (List.mem_of_getElem? (i := 222) rfl)
theorem wm5_223 : Cond.selects "HedgeMessages" yX10_bestNestSlot yX10_bestNestSlot ∈ lw_tbl := in_t5 (List.mem_of_getElem? (i := 223) rfl)
theorem wm5_224 : Cond.code yX10_bestNestSlot prog_1_method_38_code 1 (Option.some Jvm.ClassFile.FieldType.int) ∈ lw_tbl := in_t5 (List.mem_of_getElem? (i := 224) rfl)
theorem wm5_225 : Cond.methodLink "HedgeMessages" 256 yX5_bestSlotForNest ∈ lw_tbl := in_t5 (List.mem_of_getElem? (i := 225) rfl)
theorem wm5_226 : Cond.instanceMethod yX5_bestSlotForNest ∈ lw_tbl := in_t5 (List.mem_of_getElem? (i := 226) rfl)
theorem wm5_227 : Cond.selects "HedgeMessages$Hedge" yX5_bestSlotForNest yX5_bestSlotForNest ∈ lw_tbl := in_t5 (List.mem_of_getElem? (i := 227) rfl)
theorem wm5_228 : Cond.code yX5_bestSlotForNest prog_7_method_25_code 5 (Option.some Jvm.ClassFile.FieldType.int) ∈ lw_tbl := in_t5 (List.mem_of_getElem? (i := 228) rfl)
theorem wm5_229 : Cond.methodLink "HedgeMessages$Hedge" 170 yX5_wouldSave ∈ lw_tbl := in_t5 (List.mem_of_getElem? (i := 229) rfl)
theorem wm5_231 : Cond.instanceMethod yX5_wouldSave ∈ lw_tbl := in_t5 (List.mem_of_getElem? (i := 231) rfl)
theorem wm5_232 : Cond.code yX5_wouldSave prog_7_method_26_code 2 (Option.some Jvm.ClassFile.FieldType.int) ∈ lw_tbl := in_t5 (List.mem_of_getElem? (i := 232) rfl)
theorem wm5_233 : Cond.classLink "HedgeMessagesLaw" 252 "java/lang/StringBuilder" ∈ lw_tbl := in_t5 (List.mem_of_getElem? (i := 233) rfl)
theorem wm5_234 : Cond.instantiable "java/lang/StringBuilder" 4 ∈ lw_tbl := in_t5 (List.mem_of_getElem? (i := 234) rfl)
theorem wm5_235 : Cond.methodLink "HedgeMessagesLaw" 254 yJ4_init_da8c8 ∈ lw_tbl := in_t5 (List.mem_of_getElem? (i := 235) rfl)
theorem wm5_236 : Cond.instanceMethod yJ4_init_da8c8 ∈ lw_tbl := in_t5 (List.mem_of_getElem? (i := 236) rfl)
theorem wm5_237 : Cond.code yJ4_init_da8c8 prog_24_method_1_code 1 (Option.none : Option Jvm.ClassFile.FieldType) ∈ lw_tbl := in_t5 (List.mem_of_getElem? (i := 237) rfl)
theorem wm5_238 : Cond.methodLink "java/lang/StringBuilder" 1 yJ5_init_d00df ∈ lw_tbl := in_t5 (List.mem_of_getElem? (i := 238) rfl)
theorem wm5_239 : Cond.instanceMethod yJ5_init_d00df ∈ lw_tbl := in_t5 (List.mem_of_getElem? (i := 239) rfl)
theorem wm6_0 : Cond.code yJ5_init_d00df prog_14_method_2_code 2 (Option.none : Option Jvm.ClassFile.FieldType) ∈ lw_tbl := in_t6 (List.mem_of_getElem? (i := 0) rfl)
theorem wm6_1 : Cond.methodLink "java/lang/AbstractStringBuilder" 3 ({ cls := "java/lang/Object", name := "<init>", desc := "()V" } : Jvm.MethodName) ∈ lw_tbl := in_t6 (List.mem_of_getElem? (i := 1) rfl)
theorem wm6_2 : Cond.fieldLink "java/lang/AbstractStringBuilder" 18 "java/lang/String" "COMPACT_STRINGS" "Z" ∈ lw_tbl := in_t6 (List.mem_of_getElem? (i := 2) rfl)
theorem wm6_3 : Cond.methodLink "java/lang/AbstractStringBuilder" 26 yJ2_newBytesFor_77867 ∈ lw_tbl := in_t6 (List.mem_of_getElem? (i := 3) rfl)
theorem wm6_4 : Cond.static yJ2_newBytesFor_77867 ∈ lw_tbl := in_t6 (List.mem_of_getElem? (i := 4) rfl)
theorem wm6_5 : Cond.code yJ2_newBytesFor_77867 prog_26_method_2_code 1 (Option.some (Jvm.ClassFile.FieldType.array Jvm.ClassFile.FieldType.byte)) ∈ lw_tbl := in_t6 (List.mem_of_getElem? (i := 5) rfl)
theorem wm6_6 : Cond.methodLink "java/lang/StringUTF16" 11 yJ2_newBytesLength_0f7a4 ∈ lw_tbl := in_t6 (List.mem_of_getElem? (i := 6) rfl)
theorem wm6_7 : Cond.static yJ2_newBytesLength_0f7a4 ∈ lw_tbl := in_t6 (List.mem_of_getElem? (i := 7) rfl)
theorem wm6_8 : Cond.code yJ2_newBytesLength_0f7a4 prog_26_method_3_code 1 (Option.some Jvm.ClassFile.FieldType.int) ∈ lw_tbl := in_t6 (List.mem_of_getElem? (i := 8) rfl)
theorem wm6_9 : Cond.constant "java/lang/StringUTF16" 20 (1073741823 : Int32) ∈ lw_tbl := in_t6 (List.mem_of_getElem? (i := 9) rfl)
theorem wm6_10 : Cond.fieldLink "java/lang/AbstractStringBuilder" 15 "java/lang/AbstractStringBuilder" "value" "[B" ∈ lw_tbl := in_t6 (List.mem_of_getElem? (i := 10) rfl)
theorem wm6_11 : Cond.fieldLink "java/lang/AbstractStringBuilder" 22 "java/lang/AbstractStringBuilder" "coder" "B" ∈ lw_tbl := in_t6 (List.mem_of_getElem? (i := 11) rfl)
theorem wm6_12 : Cond.fieldLink "java/lang/String" 1048 "java/lang/AbstractStringBuilder" "maybeLatin1" "Z" ∈ lw_tbl := in_t6 (List.mem_of_getElem? (i := 12) rfl)
theorem wm6_13 : Cond.fieldLink "java/lang/AbstractStringBuilder" 79 "java/lang/AbstractStringBuilder" "count" "I" ∈ lw_tbl := in_t6 (List.mem_of_getElem? (i := 13) rfl)
theorem wm6_14 : Cond.lays "java/lang/StringBuilder" "java/lang/AbstractStringBuilder" "value" "[B" ∈ lw_tbl := in_t6 (List.mem_of_getElem? (i := 14) rfl)
theorem wm6_16 : Cond.lays "java/lang/StringBuilder" "java/lang/AbstractStringBuilder" "coder" "B" ∈ lw_tbl := in_t6 (List.mem_of_getElem? (i := 16) rfl)
theorem wm6_18 : Cond.lays "java/lang/StringBuilder" "java/lang/AbstractStringBuilder" "maybeLatin1" "Z" ∈ lw_tbl := in_t6 (List.mem_of_getElem? (i := 18) rfl)
theorem wm6_20 : Cond.lays "java/lang/StringBuilder" "java/lang/AbstractStringBuilder" "count" "I" ∈ lw_tbl := in_t6 (List.mem_of_getElem? (i := 20) rfl)
theorem wm6_23 : Cond.methodLink "HedgeMessagesLaw" 255 yJ4_append_cf468 ∈ lw_tbl := in_t6 (List.mem_of_getElem? (i := 23) rfl)
theorem wm6_24 : Cond.instanceMethod yJ4_append_cf468 ∈ lw_tbl := in_t6 (List.mem_of_getElem? (i := 24) rfl)
theorem wm6_25 : Cond.selects "java/lang/StringBuilder" yJ4_append_cf468 yJ4_append_cf468 ∈ lw_tbl := in_t6 (List.mem_of_getElem? (i := 25) rfl)
theorem wm6_26 : Cond.code yJ4_append_cf468 prog_24_method_14_code 2 (Option.some (Jvm.ClassFile.FieldType.object "java/lang/StringBuilder")) ∈ lw_tbl := in_t6 (List.mem_of_getElem? (i := 26) rfl)
theorem wm6_27 : Cond.methodLink "java/lang/StringBuilder" 50 yJ5_append_3fe6f ∈ lw_tbl := in_t6 (List.mem_of_getElem? (i := 27) rfl)
theorem wm6_28 : Cond.instanceMethod yJ5_append_3fe6f ∈ lw_tbl := in_t6 (List.mem_of_getElem? (i := 28) rfl)
theorem wm6_29 : Cond.code yJ5_append_3fe6f prog_14_method_31_code 2 (Option.some (Jvm.ClassFile.FieldType.object "java/lang/AbstractStringBuilder")) ∈ lw_tbl := in_t6 (List.mem_of_getElem? (i := 29) rfl)
theorem wm6_30 : Cond.methodLink "java/lang/AbstractStringBuilder" 100 yJ5_ensureCapacityInternal_d00df ∈ lw_tbl := in_t6 (List.mem_of_getElem? (i := 30) rfl)
theorem wm6_32 : Cond.instanceMethod yJ5_ensureCapacityInternal_d00df ∈ lw_tbl := in_t6 (List.mem_of_getElem? (i := 32) rfl)
theorem wm6_33 : Cond.code yJ5_ensureCapacityInternal_d00df prog_14_method_9_code 3 (Option.none : Option Jvm.ClassFile.FieldType) ∈ lw_tbl := in_t6 (List.mem_of_getElem? (i := 33) rfl)
theorem wm6_34 : Cond.methodLink "java/lang/AbstractStringBuilder" 104 yJ5_newCapacity_0f7a4 ∈ lw_tbl := in_t6 (List.mem_of_getElem? (i := 34) rfl)
theorem wm6_36 : Cond.instanceMethod yJ5_newCapacity_0f7a4 ∈ lw_tbl := in_t6 (List.mem_of_getElem? (i := 36) rfl)
theorem wm6_37 : Cond.code yJ5_newCapacity_0f7a4 prog_14_method_10_code 6 (Option.some Jvm.ClassFile.FieldType.int) ∈ lw_tbl := in_t6 (List.mem_of_getElem? (i := 37) rfl)
theorem wm6_38 : Cond.methodLink "java/lang/AbstractStringBuilder" 114 yJ8_newLength_cabcc ∈ lw_tbl := in_t6 (List.mem_of_getElem? (i := 38) rfl)
theorem wm6_39 : Cond.static yJ8_newLength_cabcc ∈ lw_tbl := in_t6 (List.mem_of_getElem? (i := 39) rfl)
theorem wm6_40 : Cond.code yJ8_newLength_cabcc prog_30_method_27_code 4 (Option.some Jvm.ClassFile.FieldType.int) ∈ lw_tbl := in_t6 (List.mem_of_getElem? (i := 40) rfl)
theorem wm6_41 : Cond.methodLink "jdk/internal/util/ArraysSupport" 194 yJ9_max_7cf53 ∈ lw_tbl := in_t6 (List.mem_of_getElem? (i := 41) rfl)
theorem wm6_42 : Cond.constant "jdk/internal/util/ArraysSupport" 200 (2147483639 : Int32) ∈ lw_tbl := in_t6 (List.mem_of_getElem? (i := 42) rfl)
theorem wm6_43 : Cond.methodLink "jdk/internal/util/ArraysSupport" 201 yJ8_hugeLength_7cf53 ∈ lw_tbl := in_t6 (List.mem_of_getElem? (i := 43) rfl)
theorem wm6_44 : Cond.static yJ8_hugeLength_7cf53 ∈ lw_tbl := in_t6 (List.mem_of_getElem? (i := 44) rfl)
theorem wm6_45 : Cond.code yJ8_hugeLength_7cf53 prog_30_method_28_code 3 (Option.some Jvm.ClassFile.FieldType.int) ∈ lw_tbl := in_t6 (List.mem_of_getElem? (i := 45) rfl)
theorem wm6_46 : Cond.constant "java/lang/AbstractStringBuilder" 39 (2147483647 : Int32) ∈ lw_tbl := in_t6 (List.mem_of_getElem? (i := 46) rfl)
theorem wm6_47 : Cond.methodLink "java/lang/AbstractStringBuilder" 108 yJ7_copyOf_9075b ∈ lw_tbl := in_t6 (List.mem_of_getElem? (i := 47) rfl)
theorem wm6_48 : Cond.static yJ7_copyOf_9075b ∈ lw_tbl := in_t6 (List.mem_of_getElem? (i := 48) rfl)
theorem wm6_49 : Cond.code yJ7_copyOf_9075b prog_29_method_121_code 3 (Option.some (Jvm.ClassFile.FieldType.array Jvm.ClassFile.FieldType.byte)) ∈ lw_tbl := in_t6 (List.mem_of_getElem? (i := 49) rfl)
theorem wm6_50 : Cond.methodLink "java/util/Arrays" 310 ({ cls := "[B", name := "clone", desc := "()Ljava/lang/Object;" } : Jvm.MethodName) ∈ lw_tbl := in_t6 (List.mem_of_getElem? (i := 50) rfl)
theorem wm6_52 : Cond.native ({ cls := "java/lang/Object", name := "clone", desc := "()Ljava/lang/Object;" } : Jvm.MethodName) ∈ lw_tbl := in_t6 (List.mem_of_getElem? (i := 52) rfl)
theorem wm6_53 : Cond.instanceMethod ({ cls := "java/lang/Object", name := "clone", desc := "()Ljava/lang/Object;" } : Jvm.MethodName) ∈ lw_tbl := in_t6 (List.mem_of_getElem? (i := 53) rfl)
theorem wm6_54 : Cond.selects "[B" ({ cls := "[B", name := "clone", desc := "()Ljava/lang/Object;" } : Jvm.MethodName) ({ cls := "java/lang/Object", name := "clone", desc := "()Ljava/lang/Object;" } : Jvm.MethodName) ∈ lw_tbl := in_t6 (List.mem_of_getElem? (i := 54) rfl)
theorem wm6_55 : Cond.castable "[B" "java/lang/Cloneable" ∈ lw_tbl := in_t6 (List.mem_of_getElem? (i := 55) rfl)
theorem wm6_56 : Cond.classLink "java/util/Arrays" 311 "[B" ∈ lw_tbl := in_t6 (List.mem_of_getElem? (i := 56) rfl)
theorem wm6_57 : Cond.methodLink "java/util/Arrays" 304 yJ9_min_7cf53 ∈ lw_tbl := in_t6 (List.mem_of_getElem? (i := 57) rfl)
theorem wm6_58 : Cond.methodLink "java/util/Arrays" 150 ({ cls := "java/lang/System", name := "arraycopy", desc := "(Ljava/lang/Object;ILjava/lang/Object;II)V" } : Jvm.MethodName) ∈ lw_tbl := in_t6 (List.mem_of_getElem? (i := 58) rfl)
theorem wm6_59 : Cond.methodLink "java/lang/AbstractStringBuilder" 83 yJ5_isLatin1_aae02 ∈ lw_tbl := in_t6 (List.mem_of_getElem? (i := 59) rfl)
theorem wm6_60 : Cond.instanceMethod yJ5_isLatin1_aae02 ∈ lw_tbl := in_t6 (List.mem_of_getElem? (i := 60) rfl)
theorem wm6_62 : Cond.selects "java/lang/StringBuilder" yJ5_isLatin1_aae02 yJ5_isLatin1_aae02 ∈ lw_tbl := in_t6 (List.mem_of_getElem? (i := 62) rfl)
theorem wm6_63 : Cond.code yJ5_isLatin1_aae02 prog_14_method_68_code 1 (Option.some Jvm.ClassFile.FieldType.boolean) ∈ lw_tbl := in_t6 (List.mem_of_getElem? (i := 63) rfl)
theorem wm6_64 : Cond.methodLink "java/lang/AbstractStringBuilder" 191 yJ1_canEncode_fc78d ∈ lw_tbl := in_t6 (List.mem_of_getElem? (i := 64) rfl)
theorem wm6_65 : Cond.static yJ1_canEncode_fc78d ∈ lw_tbl := in_t6 (List.mem_of_getElem? (i := 65) rfl)
theorem wm6_66 : Cond.code yJ1_canEncode_fc78d prog_25_method_3_code 1 (Option.some Jvm.ClassFile.FieldType.boolean) ∈ lw_tbl := in_t6 (List.mem_of_getElem? (i := 66) rfl)
theorem wm6_67 : Cond.methodLink "java/lang/AbstractStringBuilder" 195 yJ5_inflate_da8c8 ∈ lw_tbl := in_t6 (List.mem_of_getElem? (i := 67) rfl)
theorem wm6_69 : Cond.instanceMethod yJ5_inflate_da8c8 ∈ lw_tbl := in_t6 (List.mem_of_getElem? (i := 69) rfl)
theorem wm6_70 : Cond.code yJ5_inflate_da8c8 prog_14_method_11_code 2 (Option.none : Option Jvm.ClassFile.FieldType) ∈ lw_tbl := in_t6 (List.mem_of_getElem? (i := 70) rfl)
theorem wm6_71 : Cond.methodLink "java/lang/AbstractStringBuilder" 125 yJ1_inflate_0e8fd ∈ lw_tbl := in_t6 (List.mem_of_getElem? (i := 71) rfl)
theorem wm6_72 : Cond.static yJ1_inflate_0e8fd ∈ lw_tbl := in_t6 (List.mem_of_getElem? (i := 72) rfl)
theorem wm6_73 : Cond.code yJ1_inflate_0e8fd prog_25_method_50_code 5 (Option.none : Option Jvm.ClassFile.FieldType) ∈ lw_tbl := in_t6 (List.mem_of_getElem? (i := 73) rfl)
theorem wm6_74 : Cond.methodLink "java/lang/StringLatin1" 240 yJ2_inflate_0e8fd ∈ lw_tbl := in_t6 (List.mem_of_getElem? (i := 74) rfl)
theorem wm6_75 : Cond.static yJ2_inflate_0e8fd ∈ lw_tbl := in_t6 (List.mem_of_getElem? (i := 75) rfl)
theorem wm6_76 : Cond.code yJ2_inflate_0e8fd prog_26_method_86_code 6 (Option.none : Option Jvm.ClassFile.FieldType) ∈ lw_tbl := in_t6 (List.mem_of_getElem? (i := 76) rfl)
theorem wm6_77 : Cond.methodLink "java/lang/StringUTF16" 173 yJ2_checkBoundsOffCount_d044e ∈ lw_tbl := in_t6 (List.mem_of_getElem? (i := 77) rfl)
theorem wm6_78 : Cond.static yJ2_checkBoundsOffCount_d044e ∈ lw_tbl := in_t6 (List.mem_of_getElem? (i := 78) rfl)
theorem wm6_79 : Cond.code yJ2_checkBoundsOffCount_d044e prog_26_method_94_code 3 (Option.none : Option Jvm.ClassFile.FieldType) ∈ lw_tbl := in_t6 (List.mem_of_getElem? (i := 79) rfl)
theorem wm6_80 : Cond.methodLink "java/lang/StringUTF16" 419 yJ0_checkBoundsOffCount_cabcc ∈ lw_tbl := in_t6 (List.mem_of_getElem? (i := 80) rfl)
theorem wm6_81 : Cond.static yJ0_checkBoundsOffCount_cabcc ∈ lw_tbl := in_t6 (List.mem_of_getElem? (i := 81) rfl)
theorem wm6_82 : Cond.code yJ0_checkBoundsOffCount_cabcc prog_23_method_157_code 3 (Option.some Jvm.ClassFile.FieldType.int) ∈ lw_tbl := in_t6 (List.mem_of_getElem? (i := 82) rfl)
theorem wm6_83 : Cond.methodLink "java/lang/String" 1065 yJ3_checkFromIndexSize_8c36e ∈ lw_tbl := in_t6 (List.mem_of_getElem? (i := 83) rfl)
theorem wm6_84 : Cond.static yJ3_checkFromIndexSize_8c36e ∈ lw_tbl := in_t6 (List.mem_of_getElem? (i := 84) rfl)
theorem wm6_85 : Cond.code yJ3_checkFromIndexSize_8c36e prog_31_method_13_code 4 (Option.some Jvm.ClassFile.FieldType.int) ∈ lw_tbl := in_t6 (List.mem_of_getElem? (i := 85) rfl)
theorem wm6_86 : Cond.methodLink "java/lang/StringUTF16" 111 yJ2_putChar_b72d1 ∈ lw_tbl := in_t6 (List.mem_of_getElem? (i := 86) rfl)
theorem wm6_87 : Cond.static yJ2_putChar_b72d1 ∈ lw_tbl := in_t6 (List.mem_of_getElem? (i := 87) rfl)
theorem wm6_88 : Cond.code yJ2_putChar_b72d1 prog_26_method_4_code 3 (Option.none : Option Jvm.ClassFile.FieldType) ∈ lw_tbl := in_t6 (List.mem_of_getElem? (i := 88) rfl)
theorem wm6_89 : Cond.methodLink "java/lang/AbstractStringBuilder" 197 yJ2_putCharSB_b72d1 ∈ lw_tbl := in_t6 (List.mem_of_getElem? (i := 89) rfl)
theorem wm6_90 : Cond.static yJ2_putCharSB_b72d1 ∈ lw_tbl := in_t6 (List.mem_of_getElem? (i := 90) rfl)
theorem wm6_91 : Cond.code yJ2_putCharSB_b72d1 prog_26_method_71_code 3 (Option.none : Option Jvm.ClassFile.FieldType) ∈ lw_tbl := in_t6 (List.mem_of_getElem? (i := 91) rfl)
theorem wm6_92 : Cond.methodLink "HedgeMessagesLaw" 258 yJ4_toString_0e30d ∈ lw_tbl := in_t6 (List.mem_of_getElem? (i := 92) rfl)
theorem wm6_93 : Cond.instanceMethod yJ4_toString_0e30d ∈ lw_tbl := in_t6 (List.mem_of_getElem? (i := 93) rfl)
theorem wm6_94 : Cond.selects "java/lang/StringBuilder" yJ4_toString_0e30d yJ4_toString_0e30d ∈ lw_tbl := in_t6 (List.mem_of_getElem? (i := 94) rfl)
theorem wm6_95 : Cond.code yJ4_toString_0e30d prog_24_method_42_code 1 (Option.some (Jvm.ClassFile.FieldType.object "java/lang/String")) ∈ lw_tbl := in_t6 (List.mem_of_getElem? (i := 95) rfl)
theorem wm6_96 : Cond.classLink "java/lang/StringBuilder" 18 "java/lang/String" ∈ lw_tbl := in_t6 (List.mem_of_getElem? (i := 96) rfl)
theorem wm6_97 : Cond.instantiable "java/lang/String" 4 ∈ lw_tbl := in_t6 (List.mem_of_getElem? (i := 97) rfl)
theorem wm6_98 : Cond.methodLink "java/lang/StringBuilder" 137 yJ0_init_81219 ∈ lw_tbl := in_t6 (List.mem_of_getElem? (i := 98) rfl)
theorem wm6_99 : Cond.instanceMethod yJ0_init_81219 ∈ lw_tbl := in_t6 (List.mem_of_getElem? (i := 99) rfl)
theorem wm6_100 : Cond.code yJ0_init_81219 prog_23_method_53_code 2 (Option.none : Option Jvm.ClassFile.FieldType) ∈ lw_tbl := in_t6 (List.mem_of_getElem? (i := 100) rfl)
theorem wm6_101 : Cond.methodLink "java/lang/String" 489 yJ0_init_db425 ∈ lw_tbl := in_t6 (List.mem_of_getElem? (i := 101) rfl)
theorem wm6_102 : Cond.instanceMethod yJ0_init_db425 ∈ lw_tbl := in_t6 (List.mem_of_getElem? (i := 102) rfl)
theorem wm6_103 : Cond.code yJ0_init_db425 prog_23_method_150_code 5 (Option.none : Option Jvm.ClassFile.FieldType) ∈ lw_tbl := in_t6 (List.mem_of_getElem? (i := 103) rfl)
theorem wm6_104 : Cond.methodLink "java/lang/String" 1 ({ cls := "java/lang/Object", name := "<init>", desc := "()V" } : Jvm.MethodName) ∈ lw_tbl := in_t6 (List.mem_of_getElem? (i := 104) rfl)
theorem wm6_105 : Cond.methodLink "java/lang/String" 552 yJ5_getValue_6d5f1 ∈ lw_tbl := in_t6 (List.mem_of_getElem? (i := 105) rfl)
theorem wm6_106 : Cond.instanceMethod yJ5_getValue_6d5f1 ∈ lw_tbl := in_t6 (List.mem_of_getElem? (i := 106) rfl)
theorem wm6_108 : Cond.selects "java/lang/StringBuilder" yJ5_getValue_6d5f1 yJ5_getValue_6d5f1 ∈ lw_tbl := in_t6 (List.mem_of_getElem? (i := 108) rfl)
theorem wm6_109 : Cond.code yJ5_getValue_6d5f1 prog_14_method_64_code 1 (Option.some (Jvm.ClassFile.FieldType.array Jvm.ClassFile.FieldType.byte)) ∈ lw_tbl := in_t6 (List.mem_of_getElem? (i := 109) rfl)
theorem wm6_110 : Cond.methodLink "java/lang/String" 549 yJ5_length_8abf5 ∈ lw_tbl := in_t6 (List.mem_of_getElem? (i := 110) rfl)
theorem wm6_111 : Cond.instanceMethod yJ5_length_8abf5 ∈ lw_tbl := in_t6 (List.mem_of_getElem? (i := 111) rfl)
theorem wm6_113 : Cond.selects "java/lang/StringBuilder" yJ5_length_8abf5 yJ4_length_8abf5 ∈ lw_tbl := in_t6 (List.mem_of_getElem? (i := 113) rfl)
theorem wm6_114 : Cond.instanceMethod yJ4_length_8abf5 ∈ lw_tbl := in_t6 (List.mem_of_getElem? (i := 114) rfl)
theorem wm6_115 : Cond.code yJ4_length_8abf5 prog_24_method_93_code 1 (Option.some Jvm.ClassFile.FieldType.int) ∈ lw_tbl := in_t6 (List.mem_of_getElem? (i := 115) rfl)
theorem wm6_116 : Cond.methodLink "java/lang/StringBuilder" 343 yJ5_length_8abf5 ∈ lw_tbl := in_t6 (List.mem_of_getElem? (i := 116) rfl)
theorem wm6_117 : Cond.code yJ5_length_8abf5 prog_14_method_6_code 1 (Option.some Jvm.ClassFile.FieldType.int) ∈ lw_tbl := in_t6 (List.mem_of_getElem? (i := 117) rfl)
theorem wm6_118 : Cond.methodLink "java/lang/String" 1047 yJ5_isLatin1_aae02 ∈ lw_tbl := in_t6 (List.mem_of_getElem? (i := 118) rfl)
theorem wm6_119 : Cond.methodLink "java/lang/String" 54 yJ7_copyOfRange_39247 ∈ lw_tbl := in_t6 (List.mem_of_getElem? (i := 119) rfl)
theorem wm6_120 : Cond.static yJ7_copyOfRange_39247 ∈ lw_tbl := in_t6 (List.mem_of_getElem? (i := 120) rfl)
theorem wm6_121 : Cond.code yJ7_copyOfRange_39247 prog_29_method_132_code 3 (Option.some (Jvm.ClassFile.FieldType.array Jvm.ClassFile.FieldType.byte)) ∈ lw_tbl := in_t6 (List.mem_of_getElem? (i := 121) rfl)
theorem wm6_122 : Cond.methodLink "java/util/Arrays" 339 yJ7_copyOfRangeByte_39247 ∈ lw_tbl := in_t6 (List.mem_of_getElem? (i := 122) rfl)
theorem wm6_123 : Cond.static yJ7_copyOfRangeByte_39247 ∈ lw_tbl := in_t6 (List.mem_of_getElem? (i := 123) rfl)
theorem wm6_124 : Cond.code yJ7_copyOfRangeByte_39247 prog_29_method_133_code 5 (Option.some (Jvm.ClassFile.FieldType.array Jvm.ClassFile.FieldType.byte)) ∈ lw_tbl := in_t6 (List.mem_of_getElem? (i := 124) rfl)
theorem wm6_125 : Cond.methodLink "java/util/Arrays" 343 yJ7_checkLength_df160 ∈ lw_tbl := in_t6 (List.mem_of_getElem? (i := 125) rfl)
theorem wm6_126 : Cond.static yJ7_checkLength_df160 ∈ lw_tbl := in_t6 (List.mem_of_getElem? (i := 126) rfl)
theorem wm6_127 : Cond.code yJ7_checkLength_df160 prog_29_method_131_code 2 (Option.none : Option Jvm.ClassFile.FieldType) ∈ lw_tbl := in_t6 (List.mem_of_getElem? (i := 127) rfl)
theorem wm6_128 : Cond.classLink "java/util/Arrays" 43 "java/lang/IllegalArgumentException" ∈ lw_tbl := in_t6 (List.mem_of_getElem? (i := 128) rfl)
theorem wm6_129 : Cond.classLink "java/util/Arrays" 45 "java/lang/StringBuilder" ∈ lw_tbl := in_t6 (List.mem_of_getElem? (i := 129) rfl)
theorem wm6_130 : Cond.methodLink "java/util/Arrays" 47 yJ4_init_da8c8 ∈ lw_tbl := in_t6 (List.mem_of_getElem? (i := 130) rfl)
theorem wm6_131 : Cond.methodLink "java/util/Arrays" 54 yJ4_append_bf812 ∈ lw_tbl := in_t6 (List.mem_of_getElem? (i := 131) rfl)
theorem wm6_132 : Cond.instanceMethod yJ4_append_bf812 ∈ lw_tbl := in_t6 (List.mem_of_getElem? (i := 132) rfl)
theorem wm6_133 : Cond.selects "java/lang/StringBuilder" yJ4_append_bf812 yJ4_append_bf812 ∈ lw_tbl := in_t6 (List.mem_of_getElem? (i := 133) rfl)
theorem wm6_134 : Cond.code yJ4_append_bf812 prog_24_method_15_code 2 (Option.some (Jvm.ClassFile.FieldType.object "java/lang/StringBuilder")) ∈ lw_tbl := in_t6 (List.mem_of_getElem? (i := 134) rfl)
theorem wm6_135 : Cond.methodLink "java/lang/StringBuilder" 53 yJ5_append_c97b9 ∈ lw_tbl := in_t6 (List.mem_of_getElem? (i := 135) rfl)
theorem wm6_136 : Cond.instanceMethod yJ5_append_c97b9 ∈ lw_tbl := in_t6 (List.mem_of_getElem? (i := 136) rfl)
theorem wm6_137 : Cond.code yJ5_append_c97b9 prog_14_method_32_code 4 (Option.some (Jvm.ClassFile.FieldType.object "java/lang/AbstractStringBuilder")) ∈ lw_tbl := in_t6 (List.mem_of_getElem? (i := 137) rfl)
theorem wm6_138 : Cond.methodLink "java/lang/AbstractStringBuilder" 245 yJ6_stringSize_0f7a4 ∈ lw_tbl := in_t6 (List.mem_of_getElem? (i := 138) rfl)
theorem wm6_139 : Cond.static yJ6_stringSize_0f7a4 ∈ lw_tbl := in_t6 (List.mem_of_getElem? (i := 139) rfl)
theorem wm6_140 : Cond.code yJ6_stringSize_0f7a4 prog_20_method_13_code 4 (Option.some Jvm.ClassFile.FieldType.int) ∈ lw_tbl := in_t6 (List.mem_of_getElem? (i := 140) rfl)
theorem wm6_141 : Cond.methodLink "java/lang/AbstractStringBuilder" 248 yJ6_getChars_ba4f3 ∈ lw_tbl := in_t6 (List.mem_of_getElem? (i := 141) rfl)
theorem wm6_142 : Cond.static yJ6_getChars_ba4f3 ∈ lw_tbl := in_t6 (List.mem_of_getElem? (i := 142) rfl)
theorem wm6_143 : Cond.code yJ6_getChars_ba4f3 prog_20_method_12_code 7 (Option.some Jvm.ClassFile.FieldType.int) ∈ lw_tbl := in_t6 (List.mem_of_getElem? (i := 143) rfl)
theorem wm6_144 : Cond.fieldLink "java/lang/Integer" 83 "java/lang/Integer" "DigitOnes" "[B" ∈ lw_tbl := in_t6 (List.mem_of_getElem? (i := 144) rfl)
theorem wm6_146 : Cond.fieldLink "java/lang/Integer" 87 "java/lang/Integer" "DigitTens" "[B" ∈ lw_tbl := in_t6 (List.mem_of_getElem? (i := 146) rfl)
theorem wm6_148 : Cond.methodLink "java/lang/AbstractStringBuilder" 251 yJ2_getChars_46870 ∈ lw_tbl := in_t6 (List.mem_of_getElem? (i := 148) rfl)
theorem wm6_149 : Cond.static yJ2_getChars_46870 ∈ lw_tbl := in_t6 (List.mem_of_getElem? (i := 149) rfl)
theorem wm6_150 : Cond.code yJ2_getChars_46870 prog_26_method_77_code 5 (Option.some Jvm.ClassFile.FieldType.int) ∈ lw_tbl := in_t6 (List.mem_of_getElem? (i := 150) rfl)
theorem wm6_151 : Cond.methodLink "java/lang/StringUTF16" 96 yJ2_checkBoundsBeginEnd_d044e ∈ lw_tbl := in_t6 (List.mem_of_getElem? (i := 151) rfl)
theorem wm6_152 : Cond.static yJ2_checkBoundsBeginEnd_d044e ∈ lw_tbl := in_t6 (List.mem_of_getElem? (i := 152) rfl)
theorem wm6_153 : Cond.code yJ2_checkBoundsBeginEnd_d044e prog_26_method_93_code 3 (Option.none : Option Jvm.ClassFile.FieldType) ∈ lw_tbl := in_t6 (List.mem_of_getElem? (i := 153) rfl)
theorem wm6_154 : Cond.methodLink "java/lang/StringUTF16" 241 yJ0_checkBoundsBeginEnd_23922 ∈ lw_tbl := in_t6 (List.mem_of_getElem? (i := 154) rfl)
theorem wm6_155 : Cond.static yJ0_checkBoundsBeginEnd_23922 ∈ lw_tbl := in_t6 (List.mem_of_getElem? (i := 155) rfl)
theorem wm6_156 : Cond.code yJ0_checkBoundsBeginEnd_23922 prog_23_method_158_code 3 (Option.none : Option Jvm.ClassFile.FieldType) ∈ lw_tbl := in_t6 (List.mem_of_getElem? (i := 156) rfl)
theorem wm6_157 : Cond.methodLink "java/lang/String" 1062 yJ3_checkFromToIndex_8c36e ∈ lw_tbl := in_t6 (List.mem_of_getElem? (i := 157) rfl)
theorem wm6_158 : Cond.static yJ3_checkFromToIndex_8c36e ∈ lw_tbl := in_t6 (List.mem_of_getElem? (i := 158) rfl)
theorem wm6_159 : Cond.code yJ3_checkFromToIndex_8c36e prog_31_method_12_code 4 (Option.some Jvm.ClassFile.FieldType.int) ∈ lw_tbl := in_t6 (List.mem_of_getElem? (i := 159) rfl)
theorem wm6_160 : Cond.methodLink "java/lang/StringUTF16" 393 yJ2_getChars_ba4f3 ∈ lw_tbl := in_t6 (List.mem_of_getElem? (i := 160) rfl)
theorem wm6_161 : Cond.static yJ2_getChars_ba4f3 ∈ lw_tbl := in_t6 (List.mem_of_getElem? (i := 161) rfl)
theorem wm6_162 : Cond.code yJ2_getChars_ba4f3 prog_26_method_89_code 7 (Option.some Jvm.ClassFile.FieldType.int) ∈ lw_tbl := in_t6 (List.mem_of_getElem? (i := 162) rfl)
theorem wm6_163 : Cond.fieldLink "java/lang/StringUTF16" 403 "java/lang/Integer" "DigitOnes" "[B" ∈ lw_tbl := in_t6 (List.mem_of_getElem? (i := 163) rfl)
theorem wm6_164 : Cond.fieldLink "java/lang/StringUTF16" 407 "java/lang/Integer" "DigitTens" "[B" ∈ lw_tbl := in_t6 (List.mem_of_getElem? (i := 164) rfl)
theorem wm6_166 : Cond.methodLink "java/util/Arrays" 50 yJ4_append_15ec4 ∈ lw_tbl := in_t6 (List.mem_of_getElem? (i := 166) rfl)
theorem wm6_167 : Cond.instanceMethod yJ4_append_15ec4 ∈ lw_tbl := in_t6 (List.mem_of_getElem? (i := 167) rfl)
theorem wm6_168 : Cond.selects "java/lang/StringBuilder" yJ4_append_15ec4 yJ4_append_15ec4 ∈ lw_tbl := in_t6 (List.mem_of_getElem? (i := 168) rfl)
theorem wm6_169 : Cond.code yJ4_append_15ec4 prog_24_method_7_code 2 (Option.some (Jvm.ClassFile.FieldType.object "java/lang/StringBuilder")) ∈ lw_tbl := in_t6 (List.mem_of_getElem? (i := 169) rfl)
theorem wm6_170 : Cond.methodLink "java/lang/StringBuilder" 29 yJ5_append_cf1ce ∈ lw_tbl := in_t6 (List.mem_of_getElem? (i := 170) rfl)
theorem wm6_171 : Cond.instanceMethod yJ5_append_cf1ce ∈ lw_tbl := in_t6 (List.mem_of_getElem? (i := 171) rfl)
theorem wm6_172 : Cond.code yJ5_append_cf1ce prog_14_method_22_code 3 (Option.some (Jvm.ClassFile.FieldType.object "java/lang/AbstractStringBuilder")) ∈ lw_tbl := in_t6 (List.mem_of_getElem? (i := 172) rfl)
theorem wm6_173 : Cond.methodLink "java/lang/AbstractStringBuilder" 204 yJ5_appendNull_278bc ∈ lw_tbl := in_t6 (List.mem_of_getElem? (i := 173) rfl)
theorem wm6_175 : Cond.instanceMethod yJ5_appendNull_278bc ∈ lw_tbl := in_t6 (List.mem_of_getElem? (i := 175) rfl)
theorem wm6_176 : Cond.code yJ5_appendNull_278bc prog_14_method_26_code 3 (Option.some (Jvm.ClassFile.FieldType.object "java/lang/AbstractStringBuilder")) ∈ lw_tbl := in_t6 (List.mem_of_getElem? (i := 176) rfl)
theorem wm6_177 : Cond.methodLink "java/lang/AbstractStringBuilder" 226 yJ2_putCharsAt_cd4e5 ∈ lw_tbl := in_t6 (List.mem_of_getElem? (i := 177) rfl)
theorem wm6_178 : Cond.static yJ2_putCharsAt_cd4e5 ∈ lw_tbl := in_t6 (List.mem_of_getElem? (i := 178) rfl)
theorem wm6_179 : Cond.code yJ2_putCharsAt_cd4e5 prog_26_method_81_code 7 (Option.some Jvm.ClassFile.FieldType.int) ∈ lw_tbl := in_t6 (List.mem_of_getElem? (i := 179) rfl)
theorem wm6_180 : Cond.methodLink "java/lang/AbstractStringBuilder" 32 yJ0_length_8abf5 ∈ lw_tbl := in_t6 (List.mem_of_getElem? (i := 180) rfl)
theorem wm6_181 : Cond.methodLink "java/lang/AbstractStringBuilder" 208 yJ5_putStringAt_47b60 ∈ lw_tbl := in_t6 (List.mem_of_getElem? (i := 181) rfl)
theorem wm6_183 : Cond.instanceMethod yJ5_putStringAt_47b60 ∈ lw_tbl := in_t6 (List.mem_of_getElem? (i := 183) rfl)
theorem wm6_184 : Cond.code yJ5_putStringAt_47b60 prog_14_method_73_code 3 (Option.none : Option Jvm.ClassFile.FieldType) ∈ lw_tbl := in_t6 (List.mem_of_getElem? (i := 184) rfl)
theorem wm6_185 : Cond.methodLink "java/lang/AbstractStringBuilder" 397 yJ5_inflateIfNeededFor_a7421 ∈ lw_tbl := in_t6 (List.mem_of_getElem? (i := 185) rfl)
theorem wm6_187 : Cond.instanceMethod yJ5_inflateIfNeededFor_a7421 ∈ lw_tbl := in_t6 (List.mem_of_getElem? (i := 187) rfl)
theorem wm6_188 : Cond.code yJ5_inflateIfNeededFor_a7421 prog_14_method_71_code 2 (Option.none : Option Jvm.ClassFile.FieldType) ∈ lw_tbl := in_t6 (List.mem_of_getElem? (i := 188) rfl)
theorem wm6_189 : Cond.methodLink "java/lang/AbstractStringBuilder" 40 yJ0_coder_7d493 ∈ lw_tbl := in_t6 (List.mem_of_getElem? (i := 189) rfl)
theorem wm6_190 : Cond.methodLink "java/lang/AbstractStringBuilder" 399 yJ0_getBytes_840e7 ∈ lw_tbl := in_t6 (List.mem_of_getElem? (i := 190) rfl)
theorem wm6_191 : Cond.instanceMethod yJ0_getBytes_840e7 ∈ lw_tbl := in_t6 (List.mem_of_getElem? (i := 191) rfl)
theorem wm6_192 : Cond.selects "java/lang/String" yJ0_getBytes_840e7 yJ0_getBytes_840e7 ∈ lw_tbl := in_t6 (List.mem_of_getElem? (i := 192) rfl)
theorem wm6_193 : Cond.code yJ0_getBytes_840e7 prog_23_method_147_code 4 (Option.none : Option Jvm.ClassFile.FieldType) ∈ lw_tbl := in_t6 (List.mem_of_getElem? (i := 193) rfl)
theorem wm6_194 : Cond.methodLink "java/lang/String" 212 ({ cls := "java/lang/System", name := "arraycopy", desc := "(Ljava/lang/Object;ILjava/lang/Object;II)V" } : Jvm.MethodName) ∈ lw_tbl := in_t6 (List.mem_of_getElem? (i := 194) rfl)
theorem wm6_195 : Cond.methodLink "java/lang/String" 106 yJ1_inflate_0e8fd ∈ lw_tbl := in_t6 (List.mem_of_getElem? (i := 195) rfl)
theorem wm6_196 : Cond.methodLink "java/util/Arrays" 61 yJ4_toString_0e30d ∈ lw_tbl := in_t6 (List.mem_of_getElem? (i := 196) rfl)
theorem wm6_197 : Cond.methodLink "java/util/Arrays" 65 ({ cls := "java/lang/IllegalArgumentException", name := "<init>", desc := "(Ljava/lang/String;)V" } : Jvm.MethodName) ∈ lw_tbl := in_t6 (List.mem_of_getElem? (i := 197) rfl)
theorem wm6_198 : Cond.methodLink "java/lang/String" 1051 yJ2_compress_39247 ∈ lw_tbl := in_t6 (List.mem_of_getElem? (i := 198) rfl)
theorem wm6_199 : Cond.static yJ2_compress_39247 ∈ lw_tbl := in_t6 (List.mem_of_getElem? (i := 199) rfl)
theorem wm6_200 : Cond.code yJ2_compress_39247 prog_26_method_17_code 6 (Option.some (Jvm.ClassFile.FieldType.array Jvm.ClassFile.FieldType.byte)) ∈ lw_tbl := in_t6 (List.mem_of_getElem? (i := 200) rfl)
theorem wm6_201 : Cond.methodLink "java/lang/StringUTF16" 123 yJ2_compress_5af95 ∈ lw_tbl := in_t6 (List.mem_of_getElem? (i := 201) rfl)
theorem wm6_202 : Cond.static yJ2_compress_5af95 ∈ lw_tbl := in_t6 (List.mem_of_getElem? (i := 202) rfl)
theorem wm6_203 : Cond.code yJ2_compress_5af95 prog_26_method_22_code 7 (Option.some Jvm.ClassFile.FieldType.int) ∈ lw_tbl := in_t6 (List.mem_of_getElem? (i := 203) rfl)
theorem wm6_204 : Cond.methodLink "java/lang/StringUTF16" 126 yJ7_copyOfRange_39247 ∈ lw_tbl := in_t6 (List.mem_of_getElem? (i := 204) rfl)
theorem wm6_205 : Cond.methodLink "java/lang/String" 47 yJ2_coderFromArrayLen_85cad ∈ lw_tbl := in_t6 (List.mem_of_getElem? (i := 205) rfl)
theorem wm6_206 : Cond.static yJ2_coderFromArrayLen_85cad ∈ lw_tbl := in_t6 (List.mem_of_getElem? (i := 206) rfl)
theorem wm6_207 : Cond.code yJ2_coderFromArrayLen_85cad prog_26_method_15_code 2 (Option.some Jvm.ClassFile.FieldType.byte) ∈ lw_tbl := in_t6 (List.mem_of_getElem? (i := 207) rfl)
theorem wm6_208 : Cond.fieldLink "java/lang/String" 9 "java/lang/String" "value" "[B" ∈ lw_tbl := in_t6 (List.mem_of_getElem? (i := 208) rfl)
theorem wm6_209 : Cond.fieldLink "java/lang/String" 15 "java/lang/String" "coder" "B" ∈ lw_tbl := in_t6 (List.mem_of_getElem? (i := 209) rfl)
theorem wm6_210 : Cond.laysFinal "java/lang/String" "java/lang/String" "value" "[B" ∈ lw_tbl := in_t6 (List.mem_of_getElem? (i := 210) rfl)
theorem wm6_212 : Cond.laysFinal "java/lang/String" "java/lang/String" "coder" "B" ∈ lw_tbl := in_t6 (List.mem_of_getElem? (i := 212) rfl)
theorem wm6_214 : Cond.lays "java/lang/String" "java/lang/String" "hash" "I" ∈ lw_tbl := in_t6 (List.mem_of_getElem? (i := 214) rfl)
theorem wm6_216 : Cond.lays "java/lang/String" "java/lang/String" "hashIsZero" "Z" ∈ lw_tbl := in_t6 (List.mem_of_getElem? (i := 216) rfl)
theorem wm6_219 : Cond.methodLink "HedgeMessagesLaw" 262 yJ4_charAt_5068e ∈ lw_tbl := in_t6 (List.mem_of_getElem? (i := 219) rfl)
theorem wm6_220 : Cond.instanceMethod yJ4_charAt_5068e ∈ lw_tbl := in_t6 (List.mem_of_getElem? (i := 220) rfl)
theorem wm6_221 : Cond.selects "java/lang/StringBuilder" yJ4_charAt_5068e yJ4_charAt_5068e ∈ lw_tbl := in_t6 (List.mem_of_getElem? (i := 221) rfl)
theorem wm6_222 : Cond.code yJ4_charAt_5068e prog_24_method_88_code 2 (Option.some Jvm.ClassFile.FieldType.char) ∈ lw_tbl := in_t6 (List.mem_of_getElem? (i := 222) rfl)
theorem wm6_223 : Cond.methodLink "java/lang/StringBuilder" 329 yJ5_charAt_5068e ∈ lw_tbl := in_t6 (List.mem_of_getElem? (i := 223) rfl)
theorem wm6_224 : Cond.instanceMethod yJ5_charAt_5068e ∈ lw_tbl := in_t6 (List.mem_of_getElem? (i := 224) rfl)
theorem wm6_225 : Cond.code yJ5_charAt_5068e prog_14_method_14_code 5 (Option.some Jvm.ClassFile.FieldType.char) ∈ lw_tbl := in_t6 (List.mem_of_getElem? (i := 225) rfl)
theorem wm6_226 : Cond.methodLink "java/lang/AbstractStringBuilder" 138 yJ9_min_7cf53 ∈ lw_tbl := in_t6 (List.mem_of_getElem? (i := 226) rfl)
theorem wm6_227 : Cond.methodLink "java/lang/AbstractStringBuilder" 144 yJ0_checkIndex_df160 ∈ lw_tbl := in_t6 (List.mem_of_getElem? (i := 227) rfl)
theorem wm6_228 : Cond.methodLink "java/lang/AbstractStringBuilder" 148 yJ2_getChar_3b067 ∈ lw_tbl := in_t6 (List.mem_of_getElem? (i := 228) rfl)
theorem wm6_229 : Cond.methodLink "HedgeMessagesLaw" 263 yX10_leastWorkLimit ∈ lw_tbl := in_t6 (List.mem_of_getElem? (i := 229) rfl)
theorem wm6_230 : Cond.instanceMethod yX10_leastWorkLimit ∈ lw_tbl := in_t6 (List.mem_of_getElem? (i := 230) rfl)
theorem wm6_231 : Cond.selects "HedgeMessages" yX10_leastWorkLimit yX10_leastWorkLimit ∈ lw_tbl := in_t6 (List.mem_of_getElem? (i := 231) rfl)
theorem wm6_232 : Cond.code yX10_leastWorkLimit prog_1_method_39_code 4 (Option.some Jvm.ClassFile.FieldType.int) ∈ lw_tbl := in_t6 (List.mem_of_getElem? (i := 232) rfl)
theorem wm6_233 : Cond.methodLink "HedgeMessages" 259 yX10_suffices ∈ lw_tbl := in_t6 (List.mem_of_getElem? (i := 233) rfl)
theorem wm6_235 : Cond.instanceMethod yX10_suffices ∈ lw_tbl := in_t6 (List.mem_of_getElem? (i := 235) rfl)
theorem wm6_236 : Cond.code yX10_suffices prog_1_method_71_code 5 (Option.some Jvm.ClassFile.FieldType.boolean) ∈ lw_tbl := in_t6 (List.mem_of_getElem? (i := 236) rfl)
theorem wm6_237 : Cond.methodLink "HedgeMessages" 397 yX5_hasMessages ∈ lw_tbl := in_t6 (List.mem_of_getElem? (i := 237) rfl)
theorem wm6_238 : Cond.instanceMethod yX5_hasMessages ∈ lw_tbl := in_t6 (List.mem_of_getElem? (i := 238) rfl)
theorem wm6_239 : Cond.selects "HedgeMessages$Hedge" yX5_hasMessages yX5_hasMessages ∈ lw_tbl := in_t6 (List.mem_of_getElem? (i := 239) rfl)
theorem wm7_0 : Cond.code yX5_hasMessages prog_7_method_20_code 3 (Option.some Jvm.ClassFile.FieldType.boolean) ∈ lw_tbl := in_t7 (List.mem_of_getElem? (i := 0) rfl)
theorem wm7_1 : Cond.methodLink "HedgeMessages$Hedge" 147 yX7_countOf ∈ lw_tbl := in_t7 (List.mem_of_getElem? (i := 1) rfl)
theorem wm7_2 : Cond.methodLink "HedgeMessagesLaw" 272 yJ4_init_a7421 ∈ lw_tbl := in_t7 (List.mem_of_getElem? (i := 2) rfl)
theorem wm7_3 : Cond.instanceMethod yJ4_init_a7421 ∈ lw_tbl := in_t7 (List.mem_of_getElem? (i := 3) rfl)
theorem wm7_4 : Cond.code yJ4_init_a7421 prog_24_method_3_code 2 (Option.none : Option Jvm.ClassFile.FieldType) ∈ lw_tbl := in_t7 (List.mem_of_getElem? (i := 4) rfl)
theorem wm7_5 : Cond.methodLink "java/lang/StringBuilder" 7 yJ5_init_a7421 ∈ lw_tbl := in_t7 (List.mem_of_getElem? (i := 5) rfl)
theorem wm7_6 : Cond.instanceMethod yJ5_init_a7421 ∈ lw_tbl := in_t7 (List.mem_of_getElem? (i := 6) rfl)
theorem wm7_7 : Cond.code yJ5_init_a7421 prog_14_method_3_code 5 (Option.none : Option Jvm.ClassFile.FieldType) ∈ lw_tbl := in_t7 (List.mem_of_getElem? (i := 7) rfl)
theorem wm7_8 : Cond.constant "java/lang/AbstractStringBuilder" 38 (2147483631 : Int32) ∈ lw_tbl := in_t7 (List.mem_of_getElem? (i := 8) rfl)
theorem wm7_9 : Cond.methodLink "java/lang/AbstractStringBuilder" 43 yJ5_append_cf1ce ∈ lw_tbl := in_t7 (List.mem_of_getElem? (i := 9) rfl)
theorem wm7_10 : Cond.instanceMethod yJ4_append_cf1ce ∈ lw_tbl := in_t7 (List.mem_of_getElem? (i := 10) rfl)
theorem wm7_11 : Cond.code yJ4_append_cf1ce prog_24_method_80_code 2 (Option.some (Jvm.ClassFile.FieldType.object "java/lang/AbstractStringBuilder")) ∈ lw_tbl := in_t7 (List.mem_of_getElem? (i := 11) rfl)
theorem wm7_12 : Cond.methodLink "java/lang/StringBuilder" 23 yJ4_append_15ec4 ∈ lw_tbl := in_t7 (List.mem_of_getElem? (i := 12) rfl)
theorem wm7_13 : Cond.methodLink "HedgeMessagesLaw" 280 yJ4_append_15ec4 ∈ lw_tbl := in_t7 (List.mem_of_getElem? (i := 13) rfl)
theorem wm7_14 : Cond.methodLink "HedgeMessagesLaw" 275 yJ4_append_bf812 ∈ lw_tbl := in_t7 (List.mem_of_getElem? (i := 14) rfl)
theorem wm7_20 : Cond.arrayClass Jvm.ClassFile.FieldType.boolean ∈ lw_tbl := in_t7 (List.mem_of_getElem? (i := 20) rfl)
theorem wm7_32 : Cond.selects "java/lang/StringBuilder" yJ5_append_cf1ce yJ4_append_cf1ce ∈ lw_tbl := in_t7 (List.mem_of_getElem? (i := 32) rfl)
/-! ===== what the tables say of each method ===== -/
theorem myX3_read : gYS yX3_read cX3_read 3 (Option.some Jvm.ClassFile.FieldType.boolean) 2 := ⟨wm3_104, wm1_25, ⟨by decide, by decide, by decide +kernel⟩, wm3_103⟩
theorem myX3_readHedge : gYS yX3_readHedge cX3_readHedge 8 (Option.some Jvm.ClassFile.FieldType.boolean) 2 := ⟨wm3_111, wm1_25, ⟨by decide, by decide, by decide +kernel⟩, wm3_110⟩
theorem myX3_readStatement : gYS yX3_readStatement cX3_readStatement 2 (Option.some Jvm.ClassFile.FieldType.boolean) 2 := ⟨wm3_154, wm1_25, ⟨by decide, by decide, by decide +kernel⟩, wm3_153⟩
theorem myX3_readTwig : gYS yX3_readTwig cX3_readTwig 5 (Option.some Jvm.ClassFile.FieldType.boolean) 2 := ⟨wm3_158, wm1_25, ⟨by decide, by decide, by decide +kernel⟩, wm3_157⟩
theorem myX3_readNest : gYS yX3_readNest cX3_readNest 3 (Option.some Jvm.ClassFile.FieldType.boolean) 2 := ⟨wm3_172, wm1_25, ⟨by decide, by decide, by decide +kernel⟩, wm3_171⟩
theorem myX3_readMessage : gYS yX3_readMessage cX3_readMessage 3 (Option.some Jvm.ClassFile.FieldType.boolean) 2 := ⟨wm3_182, wm1_25, ⟨by decide, by decide, by decide +kernel⟩, wm3_181⟩
theorem myX4_clear : gYV yX4_clear cX4_clear 1 (Option.none : Option Jvm.ClassFile.FieldType) 0 := ⟨wm2_67, wm1_15, ⟨by decide, by decide, by decide +kernel⟩, wm2_65, wm2_66⟩
theorem myX4_copyFrom : gYV yX4_copyFrom cX4_copyFrom 2 (Option.none : Option Jvm.ClassFile.FieldType) 1 := ⟨wm2_207, wm1_15, ⟨by decide, by decide, by decide +kernel⟩, wm2_205, wm2_206⟩
theorem myX4_isWriting : gYV yX4_isWriting cX4_isWriting 1 (Option.some Jvm.ClassFile.FieldType.boolean) 0 := ⟨wm4_170, wm1_15, ⟨by decide, by decide, by decide +kernel⟩, wm4_168, wm4_169⟩
theorem myX4_stopWriting : gYV yX4_stopWriting cX4_stopWriting 1 (Option.none : Option Jvm.ClassFile.FieldType) 0 := ⟨wm2_71, wm1_15, ⟨by decide, by decide, by decide +kernel⟩, wm2_69, wm2_70⟩
theorem myX4_hasPending : gYV yX4_hasPending cX4_hasPending 2 (Option.some Jvm.ClassFile.FieldType.boolean) 1 := ⟨wm4_108, wm1_15, ⟨by decide, by decide, by decide +kernel⟩, wm4_106, wm4_107⟩
theorem myX4_lengthOf : gYV yX4_lengthOf cX4_lengthOf 2 (Option.some Jvm.ClassFile.FieldType.int) 1 := ⟨wm4_113, wm1_15, ⟨by decide, by decide, by decide +kernel⟩, wm4_111, wm4_112⟩
theorem myX4_letterOf : gYV yX4_letterOf cX4_letterOf 3 (Option.some Jvm.ClassFile.FieldType.int) 2 := ⟨wm5_80, wm1_15, ⟨by decide, by decide, by decide +kernel⟩, wm5_78, wm5_79⟩
theorem myX4_enqueue : gYV yX4_enqueue cX4_enqueue 4 (Option.none : Option Jvm.ClassFile.FieldType) 3 := ⟨wm2_148, wm1_15, ⟨by decide, by decide, by decide +kernel⟩, wm2_146, wm2_147⟩
theorem myX4_dequeue : gYV yX4_dequeue cX4_dequeue 3 (Option.none : Option Jvm.ClassFile.FieldType) 1 := ⟨wm4_123, wm1_15, ⟨by decide, by decide, by decide +kernel⟩, wm4_121, wm4_122⟩
theorem myX4_cancel : gYV yX4_cancel cX4_cancel 2 (Option.none : Option Jvm.ClassFile.FieldType) 1 := ⟨wm4_119, wm1_15, ⟨by decide, by decide, by decide +kernel⟩, wm4_117, wm4_118⟩
theorem myX4_queuedMinusSettled : gYV yX4_queuedMinusSettled cX4_queuedMinusSettled 1 (Option.some Jvm.ClassFile.FieldType.int) 0 := ⟨wm5_177, wm1_15, ⟨by decide, by decide, by decide +kernel⟩, wm5_175, wm5_176⟩
theorem myX5_copyFrom : gYV yX5_copyFrom cX5_copyFrom 2 (Option.none : Option Jvm.ClassFile.FieldType) 1 := ⟨wm2_198, wm1_13, ⟨by decide, by decide, by decide +kernel⟩, wm2_196, wm2_197⟩
theorem myX5_layOut : gYV yX5_layOut cX5_layOut 7 (Option.none : Option Jvm.ClassFile.FieldType) 6 := ⟨wm2_59, wm1_13, ⟨by decide, by decide, by decide +kernel⟩, wm2_57, wm2_58⟩
theorem myX5_placeTwig : gYV yX5_placeTwig cX5_placeTwig 5 (Option.none : Option Jvm.ClassFile.FieldType) 4 := ⟨wm2_75, wm1_13, ⟨by decide, by decide, by decide +kernel⟩, wm2_73, wm2_74⟩
theorem myX5_placeNest : gYV yX5_placeNest cX5_placeNest 3 (Option.none : Option Jvm.ClassFile.FieldType) 2 := ⟨wm2_83, wm1_13, ⟨by decide, by decide, by decide +kernel⟩, wm2_81, wm2_82⟩
theorem myX5_receive : gYV yX5_receive cX5_receive 6 (Option.none : Option Jvm.ClassFile.FieldType) 4 := ⟨wm2_140, wm1_13, ⟨by decide, by decide, by decide +kernel⟩, wm2_138, wm2_139⟩
theorem myX5_receiveText : gYV yX5_receiveText cX5_receiveText 5 (Option.none : Option Jvm.ClassFile.FieldType) 2 := ⟨wm2_88, wm1_13, ⟨by decide, by decide, by decide +kernel⟩, wm2_86, wm2_87⟩
theorem myX5_hasSlot : gYV yX5_hasSlot cX5_hasSlot 2 (Option.some Jvm.ClassFile.FieldType.boolean) 1 := ⟨wm3_209, wm1_13, ⟨by decide, by decide, by decide +kernel⟩, wm3_207, wm3_208⟩
theorem myX5_hasTwig : gYV yX5_hasTwig cX5_hasTwig 2 (Option.some Jvm.ClassFile.FieldType.boolean) 1 := ⟨wm3_162, wm1_13, ⟨by decide, by decide, by decide +kernel⟩, wm3_160, wm3_161⟩
theorem myX5_isBooked : gYV yX5_isBooked cX5_isBooked 2 (Option.some Jvm.ClassFile.FieldType.boolean) 1 := ⟨wm4_0, wm1_13, ⟨by decide, by decide, by decide +kernel⟩, wm3_238, wm3_239⟩
theorem myX5_isGuarded : gYV yX5_isGuarded cX5_isGuarded 2 (Option.some Jvm.ClassFile.FieldType.boolean) 1 := ⟨wm4_43, wm1_13, ⟨by decide, by decide, by decide +kernel⟩, wm4_41, wm4_42⟩
theorem myX5_gardener : gYV yX5_gardener cX5_gardener 2 (Option.some (Jvm.ClassFile.FieldType.object "HedgeMessages$Gardener")) 1 := ⟨wm2_144, wm1_13, ⟨by decide, by decide, by decide +kernel⟩, wm2_142, wm2_143⟩
theorem myX5_active : gYV yX5_active cX5_active 1 (Option.some Jvm.ClassFile.FieldType.int) 0 := ⟨wm4_18, wm1_13, ⟨by decide, by decide, by decide +kernel⟩, wm4_16, wm4_17⟩
theorem myX5_countTwigs : gYV yX5_countTwigs cX5_countTwigs 3 (Option.some Jvm.ClassFile.FieldType.int) 0 := ⟨wm4_23, wm1_13, ⟨by decide, by decide, by decide +kernel⟩, wm4_21, wm4_22⟩
theorem myX5_sumOfLengths : gYV yX5_sumOfLengths cX5_sumOfLengths 3 (Option.some Jvm.ClassFile.FieldType.int) 0 := ⟨wm5_161, wm1_13, ⟨by decide, by decide, by decide +kernel⟩, wm5_159, wm5_160⟩
theorem myX5_countNests : gYV yX5_countNests cX5_countNests 3 (Option.some Jvm.ClassFile.FieldType.int) 0 := ⟨wm3_177, wm1_13, ⟨by decide, by decide, by decide +kernel⟩, wm3_175, wm3_176⟩
theorem myX5_findStart : gYV yX5_findStart cX5_findStart 4 (Option.some Jvm.ClassFile.FieldType.int) 1 := ⟨wm4_179, wm1_13, ⟨by decide, by decide, by decide +kernel⟩, wm4_177, wm4_178⟩
theorem myX5_hasMessages : gYV yX5_hasMessages cX5_hasMessages 3 (Option.some Jvm.ClassFile.FieldType.boolean) 1 := ⟨wm7_0, wm1_13, ⟨by decide, by decide, by decide +kernel⟩, wm6_238, wm6_239⟩
theorem myX5_daysToInspection : gYV yX5_daysToInspection cX5_daysToInspection 1 (Option.some Jvm.ClassFile.FieldType.int) 0 := ⟨wm5_220, wm1_13, ⟨by decide, by decide, by decide +kernel⟩, wm5_218, wm5_219⟩
theorem myX5_countWrongLetters : gYV yX5_countWrongLetters cX5_countWrongLetters 3 (Option.some Jvm.ClassFile.FieldType.int) 0 := ⟨wm5_186, wm1_13, ⟨by decide, by decide, by decide +kernel⟩, wm5_184, wm5_185⟩
theorem myX5_wrongIn : gYV yX5_wrongIn cX5_wrongIn 7 (Option.some Jvm.ClassFile.FieldType.int) 3 := ⟨wm5_190, wm1_13, ⟨by decide, by decide, by decide +kernel⟩, wm5_189, in_p1 (q := (yX5_wrongIn, 19)) (List.mem_of_getElem? (i := 14) rfl)⟩
theorem myX5_bestSlotForNest : gYV yX5_bestSlotForNest cX5_bestSlotForNest 5 (Option.some Jvm.ClassFile.FieldType.int) 0 := ⟨wm5_228, wm1_13, ⟨by decide, by decide, by decide +kernel⟩, wm5_226, wm5_227⟩
theorem myX5_wouldSave : gYV yX5_wouldSave cX5_wouldSave 2 (Option.some Jvm.ClassFile.FieldType.int) 1 := ⟨wm5_232, wm1_13, ⟨by decide, by decide, by decide +kernel⟩, wm5_231, in_p2 (q := (yX5_wouldSave, 19)) (List.mem_of_getElem? (i := 0) rfl)⟩
theorem myX5_reasonNotToPlant : gYV yX5_reasonNotToPlant cX5_reasonNotToPlant 2 (Option.some Jvm.ClassFile.FieldType.int) 1 := ⟨wm3_235, wm1_13, ⟨by decide, by decide, by decide +kernel⟩, wm3_233, wm3_234⟩
theorem myX5_reasonNotToRemove : gYV yX5_reasonNotToRemove cX5_reasonNotToRemove 3 (Option.some Jvm.ClassFile.FieldType.int) 1 := ⟨wm4_35, wm1_13, ⟨by decide, by decide, by decide +kernel⟩, wm4_33, wm4_34⟩
theorem myX5_reasonNotToTrim : gYV yX5_reasonNotToTrim cX5_reasonNotToTrim 3 (Option.some Jvm.ClassFile.FieldType.int) 1 := ⟨wm4_62, wm1_13, ⟨by decide, by decide, by decide +kernel⟩, wm4_60, wm4_61⟩
theorem myX5_reasonNotToTouch : gYV yX5_reasonNotToTouch cX5_reasonNotToTouch 2 (Option.some Jvm.ClassFile.FieldType.int) 1 := ⟨wm4_39, wm1_13, ⟨by decide, by decide, by decide +kernel⟩, wm4_38, in_p1 (q := (yX5_reasonNotToTouch, 19)) (List.mem_of_getElem? (i := 3) rfl)⟩
theorem myX5_reasonNotToWrite : gYV yX5_reasonNotToWrite cX5_reasonNotToWrite 3 (Option.some Jvm.ClassFile.FieldType.int) 1 := ⟨wm5_145, wm1_13, ⟨by decide, by decide, by decide +kernel⟩, wm5_143, wm5_144⟩
theorem myX5_reasonNotToPrune : gYV yX5_reasonNotToPrune cX5_reasonNotToPrune 2 (Option.some Jvm.ClassFile.FieldType.int) 1 := ⟨wm4_195, wm1_13, ⟨by decide, by decide, by decide +kernel⟩, wm4_193, wm4_194⟩
theorem myX5_mayPlant : gYV yX5_mayPlant cX5_mayPlant 2 (Option.some Jvm.ClassFile.FieldType.boolean) 1 := ⟨wm3_231, wm1_13, ⟨by decide, by decide, by decide +kernel⟩, wm3_229, wm3_230⟩
theorem myX5_mayRemove : gYV yX5_mayRemove cX5_mayRemove 2 (Option.some Jvm.ClassFile.FieldType.boolean) 1 := ⟨wm4_31, wm1_13, ⟨by decide, by decide, by decide +kernel⟩, wm4_29, wm4_30⟩
theorem myX5_mayTrim : gYV yX5_mayTrim cX5_mayTrim 2 (Option.some Jvm.ClassFile.FieldType.boolean) 1 := ⟨wm4_58, wm1_13, ⟨by decide, by decide, by decide +kernel⟩, wm4_56, wm4_57⟩
theorem myX5_mayNest : gYV yX5_mayNest cX5_mayNest 2 (Option.some Jvm.ClassFile.FieldType.boolean) 1 := ⟨wm4_76, wm1_13, ⟨by decide, by decide, by decide +kernel⟩, wm4_74, wm4_75⟩
theorem myX5_mayQueue : gYV yX5_mayQueue cX5_mayQueue 2 (Option.some Jvm.ClassFile.FieldType.boolean) 1 := ⟨wm3_190, wm1_13, ⟨by decide, by decide, by decide +kernel⟩, wm3_188, wm3_189⟩
theorem myX5_mayCancel : gYV yX5_mayCancel cX5_mayCancel 3 (Option.some Jvm.ClassFile.FieldType.boolean) 2 := ⟨wm4_104, wm1_13, ⟨by decide, by decide, by decide +kernel⟩, wm4_102, wm4_103⟩
theorem myX5_plantByHand : gYV yX5_plantByHand cX5_plantByHand 3 (Option.none : Option Jvm.ClassFile.FieldType) 2 := ⟨wm4_14, wm1_13, ⟨by decide, by decide, by decide +kernel⟩, wm4_12, wm4_13⟩
theorem myX5_removeByHand : gYV yX5_removeByHand cX5_removeByHand 2 (Option.none : Option Jvm.ClassFile.FieldType) 1 := ⟨wm4_49, wm1_13, ⟨by decide, by decide, by decide +kernel⟩, wm4_47, wm4_48⟩
theorem myX5_trimByHand : gYV yX5_trimByHand cX5_trimByHand 4 (Option.none : Option Jvm.ClassFile.FieldType) 2 := ⟨wm4_67, wm1_13, ⟨by decide, by decide, by decide +kernel⟩, wm4_65, wm4_66⟩
theorem myX5_endOneDay : gYV yX5_endOneDay cX5_endOneDay 1 (Option.none : Option Jvm.ClassFile.FieldType) 0 := ⟨wm4_140, wm1_13, ⟨by decide, by decide, by decide +kernel⟩, wm4_138, wm4_139⟩
theorem myX5_deliverPosted : gYV yX5_deliverPosted cX5_deliverPosted 4 (Option.none : Option Jvm.ClassFile.FieldType) 1 := ⟨wm4_144, wm1_13, ⟨by decide, by decide, by decide +kernel⟩, wm4_143, in_p1 (q := (yX5_deliverPosted, 19)) (List.mem_of_getElem? (i := 4) rfl)⟩
theorem myX5_clearMessage : gYV yX5_clearMessage cX5_clearMessage 4 (Option.none : Option Jvm.ClassFile.FieldType) 2 := ⟨wm4_152, wm1_13, ⟨by decide, by decide, by decide +kernel⟩, wm4_151, in_p1 (q := (yX5_clearMessage, 19)) (List.mem_of_getElem? (i := 5) rfl)⟩
theorem myX5_writeLetters : gYV yX5_writeLetters cX5_writeLetters 4 (Option.none : Option Jvm.ClassFile.FieldType) 1 := ⟨wm4_166, wm1_13, ⟨by decide, by decide, by decide +kernel⟩, wm4_165, in_p1 (q := (yX5_writeLetters, 19)) (List.mem_of_getElem? (i := 6) rfl)⟩
theorem myX5_startNext : gYV yX5_startNext cX5_startNext 4 (Option.some Jvm.ClassFile.FieldType.boolean) 1 := ⟨wm4_174, wm1_13, ⟨by decide, by decide, by decide +kernel⟩, wm4_173, in_p1 (q := (yX5_startNext, 19)) (List.mem_of_getElem? (i := 7) rfl)⟩
theorem myX5_grow : gYV yX5_grow cX5_grow 4 (Option.none : Option Jvm.ClassFile.FieldType) 0 := ⟨wm4_187, wm1_13, ⟨by decide, by decide, by decide +kernel⟩, wm4_186, in_p1 (q := (yX5_grow, 19)) (List.mem_of_getElem? (i := 8) rfl)⟩
theorem myX5_prune : gYV yX5_prune cX5_prune 2 (Option.none : Option Jvm.ClassFile.FieldType) 0 := ⟨wm4_191, wm1_13, ⟨by decide, by decide, by decide +kernel⟩, wm4_190, in_p1 (q := (yX5_prune, 19)) (List.mem_of_getElem? (i := 9) rfl)⟩
theorem myX5_failInProgress : gYV yX5_failInProgress cX5_failInProgress 3 (Option.none : Option Jvm.ClassFile.FieldType) 1 := ⟨wm4_199, wm1_13, ⟨by decide, by decide, by decide +kernel⟩, wm4_198, in_p1 (q := (yX5_failInProgress, 19)) (List.mem_of_getElem? (i := 10) rfl)⟩
theorem myX5_failPosted : gYV yX5_failPosted cX5_failPosted 5 (Option.none : Option Jvm.ClassFile.FieldType) 0 := ⟨wm4_211, wm1_13, ⟨by decide, by decide, by decide +kernel⟩, wm4_210, in_p1 (q := (yX5_failPosted, 19)) (List.mem_of_getElem? (i := 13) rfl)⟩
theorem myX5_lostTwig : gYV yX5_lostTwig cX5_lostTwig 4 (Option.some Jvm.ClassFile.FieldType.boolean) 2 := ⟨wm4_203, wm1_13, ⟨by decide, by decide, by decide +kernel⟩, wm4_202, in_p1 (q := (yX5_lostTwig, 19)) (List.mem_of_getElem? (i := 11) rfl)⟩
theorem myX5_fail : gYV yX5_fail cX5_fail 5 (Option.none : Option Jvm.ClassFile.FieldType) 3 := ⟨wm4_207, wm1_13, ⟨by decide, by decide, by decide +kernel⟩, wm4_206, in_p1 (q := (yX5_fail, 19)) (List.mem_of_getElem? (i := 12) rfl)⟩
theorem myX6_forget : gYV yX6_forget cX6_forget 1 (Option.none : Option Jvm.ClassFile.FieldType) 0 := ⟨wm3_48, wm1_17, ⟨by decide, by decide, by decide +kernel⟩, wm3_46, wm3_47⟩
theorem myX6_remember : gYV yX6_remember cX6_remember 3 (Option.none : Option Jvm.ClassFile.FieldType) 1 := ⟨wm4_5, wm1_17, ⟨by decide, by decide, by decide +kernel⟩, wm4_3, wm4_4⟩
theorem myX6_takeBack : gYV yX6_takeBack cX6_takeBack 3 (Option.none : Option Jvm.ClassFile.FieldType) 1 := ⟨wm4_220, wm1_17, ⟨by decide, by decide, by decide +kernel⟩, wm4_218, wm4_219⟩
theorem myX6_stateAt : gYV yX6_stateAt cX6_stateAt 2 (Option.some (Jvm.ClassFile.FieldType.object "HedgeMessages$Hedge")) 1 := ⟨wm4_9, wm1_17, ⟨by decide, by decide, by decide +kernel⟩, wm4_8, in_p1 (q := (yX6_stateAt, 3)) (List.mem_of_getElem? (i := 2) rfl)⟩
theorem myX7_copyFrom : gYV yX7_copyFrom cX7_copyFrom 2 (Option.none : Option Jvm.ClassFile.FieldType) 1 := ⟨wm2_212, wm1_16, ⟨by decide, by decide, by decide +kernel⟩, wm2_210, wm2_211⟩
theorem myX7_countOf : gYV yX7_countOf cX7_countOf 4 (Option.some Jvm.ClassFile.FieldType.int) 1 := ⟨wm5_56, wm1_16, ⟨by decide, by decide, by decide +kernel⟩, wm5_54, wm5_55⟩
theorem myX7_post : gYV yX7_post cX7_post 4 (Option.none : Option Jvm.ClassFile.FieldType) 3 := ⟨wm4_161, wm1_16, ⟨by decide, by decide, by decide +kernel⟩, wm4_159, wm4_160⟩
theorem myX7_startSifting : gYV yX7_startSifting cX7_startSifting 2 (Option.some Jvm.ClassFile.FieldType.int) 0 := ⟨wm4_148, wm1_16, ⟨by decide, by decide, by decide +kernel⟩, wm4_146, wm4_147⟩
theorem myX7_keep : gYV yX7_keep cX7_keep 2 (Option.none : Option Jvm.ClassFile.FieldType) 1 := ⟨wm4_156, wm1_16, ⟨by decide, by decide, by decide +kernel⟩, wm4_154, wm4_155⟩
theorem myX8_get : gYV yX8_get cX8_get 2 (Option.some Jvm.ClassFile.FieldType.int) 1 := ⟨wm3_119, wm1_14, ⟨by decide, by decide, by decide +kernel⟩, wm3_117, wm3_118⟩
theorem myX8_set : gYV yX8_set cX8_set 3 (Option.none : Option Jvm.ClassFile.FieldType) 2 := ⟨wm2_79, wm1_14, ⟨by decide, by decide, by decide +kernel⟩, wm2_77, wm2_78⟩
theorem myX8_clear : gYV yX8_clear cX8_clear 2 (Option.none : Option Jvm.ClassFile.FieldType) 0 := ⟨wm2_63, wm1_14, ⟨by decide, by decide, by decide +kernel⟩, wm2_61, wm2_62⟩
theorem myX8_copyFrom : gYV yX8_copyFrom cX8_copyFrom 2 (Option.none : Option Jvm.ClassFile.FieldType) 1 := ⟨wm2_202, wm1_14, ⟨by decide, by decide, by decide +kernel⟩, wm2_200, wm2_201⟩
theorem myX8_copyPart : gYV yX8_copyPart cX8_copyPart 6 (Option.none : Option Jvm.ClassFile.FieldType) 4 := ⟨wm2_152, wm1_14, ⟨by decide, by decide, by decide +kernel⟩, wm2_150, wm2_151⟩
theorem myX9_appendBytes : gYV yX9_appendBytes cX9_appendBytes 2 (Option.none : Option Jvm.ClassFile.FieldType) 1 := ⟨wm3_72, wm1_18, ⟨by decide, by decide, by decide +kernel⟩, wm3_70, wm3_71⟩
theorem myX9_isOneWord : gYV yX9_isOneWord cX9_isOneWord 2 (Option.some Jvm.ClassFile.FieldType.boolean) 0 := ⟨wm4_91, wm1_18, ⟨by decide, by decide, by decide +kernel⟩, wm4_89, wm4_90⟩
theorem myX9_startReading : gYV yX9_startReading cX9_startReading 1 (Option.none : Option Jvm.ClassFile.FieldType) 0 := ⟨wm3_108, wm1_18, ⟨by decide, by decide, by decide +kernel⟩, wm3_106, wm3_107⟩
theorem myX9_refuse : gYV yX9_refuse cX9_refuse 2 (Option.some Jvm.ClassFile.FieldType.boolean) 1 := ⟨wm3_136, wm1_18, ⟨by decide, by decide, by decide +kernel⟩, wm3_134, wm3_135⟩
theorem myX9_readToken : gYV yX9_readToken cX9_readToken 2 (Option.none : Option Jvm.ClassFile.FieldType) 0 := ⟨wm3_115, wm1_18, ⟨by decide, by decide, by decide +kernel⟩, wm3_113, wm3_114⟩
theorem myX9_atEnd : gYV yX9_atEnd cX9_atEnd 1 (Option.some Jvm.ClassFile.FieldType.boolean) 0 := ⟨wm3_151, wm1_18, ⟨by decide, by decide, by decide +kernel⟩, wm3_149, wm3_150⟩
theorem myX9_isWord : gYV yX9_isWord cX9_isWord 3 (Option.some Jvm.ClassFile.FieldType.boolean) 1 := ⟨wm3_130, wm1_18, ⟨by decide, by decide, by decide +kernel⟩, wm3_128, wm3_129⟩
theorem myX9_readNumber : gYV yX9_readNumber cX9_readNumber 4 (Option.some Jvm.ClassFile.FieldType.boolean) 2 := ⟨wm3_140, wm1_18, ⟨by decide, by decide, by decide +kernel⟩, wm3_138, wm3_139⟩
theorem myX9_readMessageWord : gYV yX9_readMessageWord cX9_readMessageWord 1 (Option.some Jvm.ClassFile.FieldType.boolean) 0 := ⟨wm3_186, wm1_18, ⟨by decide, by decide, by decide +kernel⟩, wm3_184, wm3_185⟩
theorem myX9_readLetter : gYV yX9_readLetter cX9_readLetter 1 (Option.some Jvm.ClassFile.FieldType.boolean) 0 := ⟨wm3_167, wm1_18, ⟨by decide, by decide, by decide +kernel⟩, wm3_165, wm3_166⟩
theorem myX9_readSemicolon : gYV yX9_readSemicolon cX9_readSemicolon 1 (Option.some Jvm.ClassFile.FieldType.boolean) 0 := ⟨wm3_147, wm1_18, ⟨by decide, by decide, by decide +kernel⟩, wm3_145, wm3_146⟩
theorem myX10_append : gYV yX10_append cX10_append 6 (Option.some Jvm.ClassFile.FieldType.int) 5 := ⟨wm3_67, wm1_12, ⟨by decide, by decide, by decide +kernel⟩, wm3_65, wm3_66⟩
theorem myX10_truncate : gYV yX10_truncate cX10_truncate 2 (Option.some Jvm.ClassFile.FieldType.int) 1 := ⟨wm3_77, wm1_12, ⟨by decide, by decide, by decide +kernel⟩, wm3_75, wm3_76⟩
theorem myX10_load : gYV yX10_load cX10_load 2 (Option.some Jvm.ClassFile.FieldType.int) 0 := ⟨wm3_101, wm1_12, ⟨by decide, by decide, by decide +kernel⟩, wm3_99, wm3_100⟩
theorem myX10_slotCount : gYV yX10_slotCount cX10_slotCount 1 (Option.some Jvm.ClassFile.FieldType.int) 0 := ⟨wm5_11, wm1_12, ⟨by decide, by decide, by decide +kernel⟩, wm5_9, wm5_10⟩
theorem myX10_day : gYV yX10_day cX10_day 1 (Option.some Jvm.ClassFile.FieldType.int) 0 := ⟨wm2_190, wm1_12, ⟨by decide, by decide, by decide +kernel⟩, wm2_188, wm2_189⟩
theorem myX10_activeGardener : gYV yX10_activeGardener cX10_activeGardener 1 (Option.some Jvm.ClassFile.FieldType.int) 0 := ⟨wm5_91, wm1_12, ⟨by decide, by decide, by decide +kernel⟩, wm5_89, wm5_90⟩
theorem myX10_workLimit : gYV yX10_workLimit cX10_workLimit 1 (Option.some Jvm.ClassFile.FieldType.int) 0 := ⟨wm4_232, wm1_12, ⟨by decide, by decide, by decide +kernel⟩, wm4_230, wm4_231⟩
theorem myX10_actionsLeft : gYV yX10_actionsLeft cX10_actionsLeft 1 (Option.some Jvm.ClassFile.FieldType.int) 0 := ⟨wm4_228, wm1_12, ⟨by decide, by decide, by decide +kernel⟩, wm4_226, wm4_227⟩
theorem myX10_twigCount : gYV yX10_twigCount cX10_twigCount 1 (Option.some Jvm.ClassFile.FieldType.int) 0 := ⟨wm5_149, wm1_12, ⟨by decide, by decide, by decide +kernel⟩, wm5_147, wm5_148⟩
theorem myX10_letterAt : gYV yX10_letterAt cX10_letterAt 2 (Option.some Jvm.ClassFile.FieldType.int) 1 := ⟨wm5_15, wm1_12, ⟨by decide, by decide, by decide +kernel⟩, wm5_13, wm5_14⟩
theorem myX10_ownerAt : gYV yX10_ownerAt cX10_ownerAt 2 (Option.some Jvm.ClassFile.FieldType.int) 1 := ⟨wm5_21, wm1_12, ⟨by decide, by decide, by decide +kernel⟩, wm5_19, wm5_20⟩
theorem myX10_lengthAt : gYV yX10_lengthAt cX10_lengthAt 2 (Option.some Jvm.ClassFile.FieldType.int) 1 := ⟨wm5_26, wm1_12, ⟨by decide, by decide, by decide +kernel⟩, wm5_24, wm5_25⟩
theorem myX10_isReserved : gYV yX10_isReserved cX10_isReserved 2 (Option.some Jvm.ClassFile.FieldType.boolean) 1 := ⟨wm5_34, wm1_12, ⟨by decide, by decide, by decide +kernel⟩, wm5_32, wm5_33⟩
theorem myX10_nestDays : gYV yX10_nestDays cX10_nestDays 2 (Option.some Jvm.ClassFile.FieldType.int) 1 := ⟨wm5_30, wm1_12, ⟨by decide, by decide, by decide +kernel⟩, wm5_28, wm5_29⟩
theorem myX10_isProtected : gYV yX10_isProtected cX10_isProtected 2 (Option.some Jvm.ClassFile.FieldType.boolean) 1 := ⟨wm5_105, wm1_12, ⟨by decide, by decide, by decide +kernel⟩, wm5_103, wm5_104⟩
theorem myX10_nestCount : gYV yX10_nestCount cX10_nestCount 1 (Option.some Jvm.ClassFile.FieldType.int) 0 := ⟨wm5_153, wm1_12, ⟨by decide, by decide, by decide +kernel⟩, wm5_151, wm5_152⟩
theorem myX10_pendingCount : gYV yX10_pendingCount cX10_pendingCount 2 (Option.some Jvm.ClassFile.FieldType.int) 1 := ⟨wm5_39, wm1_12, ⟨by decide, by decide, by decide +kernel⟩, wm5_37, wm5_38⟩
theorem myX10_pendingLetter : gYV yX10_pendingLetter cX10_pendingLetter 4 (Option.some Jvm.ClassFile.FieldType.int) 3 := ⟨wm5_76, wm1_12, ⟨by decide, by decide, by decide +kernel⟩, wm5_74, wm5_75⟩
theorem myX10_lettersWritten : gYV yX10_lettersWritten cX10_lettersWritten 2 (Option.some Jvm.ClassFile.FieldType.int) 1 := ⟨wm5_43, wm1_12, ⟨by decide, by decide, by decide +kernel⟩, wm5_41, wm5_42⟩
theorem myX10_startSlot : gYV yX10_startSlot cX10_startSlot 3 (Option.some Jvm.ClassFile.FieldType.int) 1 := ⟨wm5_47, wm1_12, ⟨by decide, by decide, by decide +kernel⟩, wm5_45, wm5_46⟩
theorem myX10_postedCount : gYV yX10_postedCount cX10_postedCount 2 (Option.some Jvm.ClassFile.FieldType.int) 1 := ⟨wm5_52, wm1_12, ⟨by decide, by decide, by decide +kernel⟩, wm5_50, wm5_51⟩
theorem myX10_nextStartSlot : gYV yX10_nextStartSlot cX10_nextStartSlot 2 (Option.some Jvm.ClassFile.FieldType.int) 1 := ⟨wm5_136, wm1_12, ⟨by decide, by decide, by decide +kernel⟩, wm5_134, wm5_135⟩
theorem myX10_plantReason : gYV yX10_plantReason cX10_plantReason 2 (Option.some Jvm.ClassFile.FieldType.int) 1 := ⟨wm5_115, wm1_12, ⟨by decide, by decide, by decide +kernel⟩, wm5_113, wm5_114⟩
theorem myX10_removeReason : gYV yX10_removeReason cX10_removeReason 2 (Option.some Jvm.ClassFile.FieldType.int) 1 := ⟨wm5_110, wm1_12, ⟨by decide, by decide, by decide +kernel⟩, wm5_108, wm5_109⟩
theorem myX10_trimReason : gYV yX10_trimReason cX10_trimReason 2 (Option.some Jvm.ClassFile.FieldType.int) 1 := ⟨wm5_120, wm1_12, ⟨by decide, by decide, by decide +kernel⟩, wm5_118, wm5_119⟩
theorem myX10_writeReason : gYV yX10_writeReason cX10_writeReason 2 (Option.some Jvm.ClassFile.FieldType.int) 1 := ⟨wm5_141, wm1_12, ⟨by decide, by decide, by decide +kernel⟩, wm5_139, wm5_140⟩
theorem myX10_keepReason : gYV yX10_keepReason cX10_keepReason 2 (Option.some Jvm.ClassFile.FieldType.int) 1 := ⟨wm5_125, wm1_12, ⟨by decide, by decide, by decide +kernel⟩, wm5_123, wm5_124⟩
theorem myX10_daysUntilInspection : gYV yX10_daysUntilInspection cX10_daysUntilInspection 1 (Option.some Jvm.ClassFile.FieldType.int) 0 := ⟨wm5_216, wm1_12, ⟨by decide, by decide, by decide +kernel⟩, wm5_214, wm5_215⟩
theorem myX10_daysUntilPruned : gYV yX10_daysUntilPruned cX10_daysUntilPruned 3 (Option.some Jvm.ClassFile.FieldType.int) 1 := ⟨wm5_200, wm1_12, ⟨by decide, by decide, by decide +kernel⟩, wm5_198, wm5_199⟩
theorem myX10_deliveredAfter : gYV yX10_deliveredAfter cX10_deliveredAfter 3 (Option.some Jvm.ClassFile.FieldType.int) 2 := ⟨wm5_204, wm1_12, ⟨by decide, by decide, by decide +kernel⟩, wm5_202, wm5_203⟩
theorem myX10_pendingAfter : gYV yX10_pendingAfter cX10_pendingAfter 3 (Option.some Jvm.ClassFile.FieldType.int) 2 := ⟨wm5_212, wm1_12, ⟨by decide, by decide, by decide +kernel⟩, wm5_210, wm5_211⟩
theorem myX10_bestNestSlot : gYV yX10_bestNestSlot cX10_bestNestSlot 1 (Option.some Jvm.ClassFile.FieldType.int) 0 := ⟨wm5_224, wm1_12, ⟨by decide, by decide, by decide +kernel⟩, wm5_222, wm5_223⟩
theorem myX10_leastWorkLimit : gYV yX10_leastWorkLimit cX10_leastWorkLimit 4 (Option.some Jvm.ClassFile.FieldType.int) 2 := ⟨wm6_232, wm1_12, ⟨by decide, by decide, by decide +kernel⟩, wm6_230, wm6_231⟩
theorem myX10_messagesQueued : gYV yX10_messagesQueued cX10_messagesQueued 2 (Option.some Jvm.ClassFile.FieldType.int) 1 := ⟨wm5_60, wm1_12, ⟨by decide, by decide, by decide +kernel⟩, wm5_58, wm5_59⟩
theorem myX10_messagesDelivered : gYV yX10_messagesDelivered cX10_messagesDelivered 2 (Option.some Jvm.ClassFile.FieldType.int) 1 := ⟨wm5_64, wm1_12, ⟨by decide, by decide, by decide +kernel⟩, wm5_62, wm5_63⟩
theorem myX10_messagesFailed : gYV yX10_messagesFailed cX10_messagesFailed 2 (Option.some Jvm.ClassFile.FieldType.int) 1 := ⟨wm5_68, wm1_12, ⟨by decide, by decide, by decide +kernel⟩, wm5_66, wm5_67⟩
theorem myX10_messagesDropped : gYV yX10_messagesDropped cX10_messagesDropped 2 (Option.some Jvm.ClassFile.FieldType.int) 1 := ⟨wm5_72, wm1_12, ⟨by decide, by decide, by decide +kernel⟩, wm5_70, wm5_71⟩
theorem myX10_twigsPlanted : gYV yX10_twigsPlanted cX10_twigsPlanted 1 (Option.some Jvm.ClassFile.FieldType.int) 0 := ⟨wm4_237, wm1_12, ⟨by decide, by decide, by decide +kernel⟩, wm4_235, wm4_236⟩
theorem myX10_twigsPruned : gYV yX10_twigsPruned cX10_twigsPruned 1 (Option.some Jvm.ClassFile.FieldType.int) 0 := ⟨wm5_2, wm1_12, ⟨by decide, by decide, by decide +kernel⟩, wm5_0, wm5_1⟩
theorem myX10_twigsRemoved : gYV yX10_twigsRemoved cX10_twigsRemoved 1 (Option.some Jvm.ClassFile.FieldType.int) 0 := ⟨wm5_7, wm1_12, ⟨by decide, by decide, by decide +kernel⟩, wm5_5, wm5_6⟩
theorem myX10_twigImbalance : gYV yX10_twigImbalance cX10_twigImbalance 1 (Option.some Jvm.ClassFile.FieldType.int) 0 := ⟨wm5_169, wm1_12, ⟨by decide, by decide, by decide +kernel⟩, wm5_167, wm5_168⟩
theorem myX10_messageImbalance : gYV yX10_messageImbalance cX10_messageImbalance 1 (Option.some Jvm.ClassFile.FieldType.int) 0 := ⟨wm5_173, wm1_12, ⟨by decide, by decide, by decide +kernel⟩, wm5_171, wm5_172⟩
theorem myX10_wrongLetters : gYV yX10_wrongLetters cX10_wrongLetters 1 (Option.some Jvm.ClassFile.FieldType.int) 0 := ⟨wm5_182, wm1_12, ⟨by decide, by decide, by decide +kernel⟩, wm5_180, wm5_181⟩
theorem myX10_meanLength : gYV yX10_meanLength cX10_meanLength 2 (Option.some Jvm.ClassFile.FieldType.float) 0 := ⟨wm5_157, wm1_12, ⟨by decide, by decide, by decide +kernel⟩, wm5_155, wm5_156⟩
theorem myX10_occupancy : gYV yX10_occupancy cX10_occupancy 1 (Option.some Jvm.ClassFile.FieldType.double) 0 := ⟨wm5_165, wm1_12, ⟨by decide, by decide, by decide +kernel⟩, wm5_163, wm5_164⟩
theorem myX10_plant : gYV yX10_plant cX10_plant 3 (Option.some Jvm.ClassFile.FieldType.int) 2 := ⟨wm3_201, wm1_12, ⟨by decide, by decide, by decide +kernel⟩, wm3_199, wm3_200⟩
theorem myX10_remove : gYV yX10_remove cX10_remove 3 (Option.some Jvm.ClassFile.FieldType.int) 1 := ⟨wm4_27, wm1_12, ⟨by decide, by decide, by decide +kernel⟩, wm4_25, wm4_26⟩
theorem myX10_trim : gYV yX10_trim cX10_trim 3 (Option.some Jvm.ClassFile.FieldType.int) 2 := ⟨wm4_53, wm1_12, ⟨by decide, by decide, by decide +kernel⟩, wm4_51, wm4_52⟩
theorem myX10_addNest : gYV yX10_addNest cX10_addNest 3 (Option.some Jvm.ClassFile.FieldType.int) 2 := ⟨wm4_71, wm1_12, ⟨by decide, by decide, by decide +kernel⟩, wm4_69, wm4_70⟩
theorem myX10_queueMessage : gYV yX10_queueMessage cX10_queueMessage 2 (Option.some Jvm.ClassFile.FieldType.int) 1 := ⟨wm4_83, wm1_12, ⟨by decide, by decide, by decide +kernel⟩, wm4_81, wm4_82⟩
theorem myX10_cancelMessage : gYV yX10_cancelMessage cX10_cancelMessage 4 (Option.some Jvm.ClassFile.FieldType.int) 2 := ⟨wm4_100, wm1_12, ⟨by decide, by decide, by decide +kernel⟩, wm4_98, wm4_99⟩
theorem myX10_setWorkLimit : gYV yX10_setWorkLimit cX10_setWorkLimit 3 (Option.some Jvm.ClassFile.FieldType.int) 1 := ⟨wm4_127, wm1_12, ⟨by decide, by decide, by decide +kernel⟩, wm4_125, wm4_126⟩
theorem myX10_endDays : gYV yX10_endDays cX10_endDays 4 (Option.some Jvm.ClassFile.FieldType.int) 1 := ⟨wm4_132, wm1_12, ⟨by decide, by decide, by decide +kernel⟩, wm4_130, wm4_131⟩
theorem myX10_undo : gYV yX10_undo cX10_undo 1 (Option.some Jvm.ClassFile.FieldType.int) 0 := ⟨wm4_215, wm1_12, ⟨by decide, by decide, by decide +kernel⟩, wm4_213, wm4_214⟩
theorem myX10_save : gYV yX10_save cX10_save 1 (Option.some Jvm.ClassFile.FieldType.int) 0 := ⟨wm2_194, wm1_12, ⟨by decide, by decide, by decide +kernel⟩, wm2_192, wm2_193⟩
theorem myX10_restore : gYV yX10_restore cX10_restore 1 (Option.some Jvm.ClassFile.FieldType.int) 0 := ⟨wm2_217, wm1_12, ⟨by decide, by decide, by decide +kernel⟩, wm2_215, wm2_216⟩
theorem myX10_requireSlot : gYV yX10_requireSlot cX10_requireSlot 2 (Option.none : Option Jvm.ClassFile.FieldType) 1 := ⟨wm3_205, wm1_12, ⟨by decide, by decide, by decide +kernel⟩, wm3_204, in_p1 (q := (yX10_requireSlot, 9)) (List.mem_of_getElem? (i := 1) rfl)⟩
theorem myX10_requireGardener : gYS yX10_requireGardener cX10_requireGardener 1 (Option.none : Option Jvm.ClassFile.FieldType) 1 := ⟨wm4_86, wm1_12, ⟨by decide, by decide, by decide +kernel⟩, wm4_85⟩
theorem myX10_requireDays : gYS yX10_requireDays cX10_requireDays 2 (Option.none : Option Jvm.ClassFile.FieldType) 2 := ⟨wm4_135, wm1_12, ⟨by decide, by decide, by decide +kernel⟩, wm4_134⟩
theorem myX10_isLetter : gYS yX10_isLetter cX10_isLetter 1 (Option.some Jvm.ClassFile.FieldType.boolean) 1 := ⟨wm3_122, wm1_12, ⟨by decide, by decide, by decide +kernel⟩, wm3_121⟩
theorem myX10_isDigit : gYS yX10_isDigit cX10_isDigit 1 (Option.some Jvm.ClassFile.FieldType.boolean) 1 := ⟨wm3_125, wm1_12, ⟨by decide, by decide, by decide +kernel⟩, wm3_124⟩
theorem myX10_foresee : gYV yX10_foresee cX10_foresee 3 (Option.none : Option Jvm.ClassFile.FieldType) 1 := ⟨wm5_208, wm1_12, ⟨by decide, by decide, by decide +kernel⟩, wm5_207, in_p1 (q := (yX10_foresee, 9)) (List.mem_of_getElem? (i := 15) rfl)⟩
theorem myX10_suffices : gYV yX10_suffices cX10_suffices 5 (Option.some Jvm.ClassFile.FieldType.boolean) 3 := ⟨wm6_236, wm1_12, ⟨by decide, by decide, by decide +kernel⟩, wm6_235, in_p2 (q := (yX10_suffices, 9)) (List.mem_of_getElem? (i := 1) rfl)⟩
theorem myJ6_getChars_ba4f3 : gYS yJ6_getChars_ba4f3 cJ6_getChars_ba4f3 7 (Option.some Jvm.ClassFile.FieldType.int) 3 := ⟨wm6_143, wm1_11, ⟨by decide, by decide, by decide +kernel⟩, wm6_142⟩
theorem myJ6_stringSize_0f7a4 : gYS yJ6_stringSize_0f7a4 cJ6_stringSize_0f7a4 4 (Option.some Jvm.ClassFile.FieldType.int) 1 := ⟨wm6_140, wm1_11, ⟨by decide, by decide, by decide +kernel⟩, wm6_139⟩
theorem myJ9_abs_0f7a4 : gYS yJ9_abs_0f7a4 cJ9_abs_0f7a4 1 (Option.some Jvm.ClassFile.FieldType.int) 1 := ⟨wm3_55, wm1_1, ⟨by decide, by decide, by decide +kernel⟩, wm3_54⟩
theorem myJ9_max_7cf53 : gYS yJ9_max_7cf53 cJ9_max_7cf53 2 (Option.some Jvm.ClassFile.FieldType.int) 2 := ⟨wm5_98, wm1_1, ⟨by decide, by decide, by decide +kernel⟩, wm5_97⟩
theorem myJ9_min_7cf53 : gYS yJ9_min_7cf53 cJ9_min_7cf53 2 (Option.some Jvm.ClassFile.FieldType.int) 2 := ⟨wm5_101, wm1_1, ⟨by decide, by decide, by decide +kernel⟩, wm5_100⟩
theorem myJ0_length_8abf5 : gYV yJ0_length_8abf5 cJ0_length_8abf5 1 (Option.some Jvm.ClassFile.FieldType.int) 0 := ⟨wm2_92, wm1_4, ⟨by decide, by decide, by decide +kernel⟩, wm2_90, wm2_91⟩
theorem myJ0_charAt_5068e : gYV yJ0_charAt_5068e cJ0_charAt_5068e 2 (Option.some Jvm.ClassFile.FieldType.char) 1 := ⟨wm2_102, wm1_4, ⟨by decide, by decide, by decide +kernel⟩, wm2_100, wm2_101⟩
theorem myJ0_getBytes_840e7 : gYV yJ0_getBytes_840e7 cJ0_getBytes_840e7 4 (Option.none : Option Jvm.ClassFile.FieldType) 3 := ⟨wm6_193, wm1_4, ⟨by decide, by decide, by decide +kernel⟩, wm6_191, wm6_192⟩
theorem myJ0_coder_7d493 : gYV yJ0_coder_7d493 cJ0_coder_7d493 1 (Option.some Jvm.ClassFile.FieldType.byte) 0 := ⟨wm2_96, wm1_4, ⟨by decide, by decide, by decide +kernel⟩, wm2_94, wm2_95⟩
theorem myJ0_isLatin1_aae02 : gYV yJ0_isLatin1_aae02 cJ0_isLatin1_aae02 1 (Option.some Jvm.ClassFile.FieldType.boolean) 0 := ⟨wm2_106, wm1_4, ⟨by decide, by decide, by decide +kernel⟩, wm2_104, wm2_105⟩
theorem myJ0_checkIndex_df160 : gYS yJ0_checkIndex_df160 cJ0_checkIndex_df160 2 (Option.none : Option Jvm.ClassFile.FieldType) 2 := ⟨wm2_112, wm1_4, ⟨by decide, by decide, by decide +kernel⟩, wm2_111⟩
theorem myJ0_checkBoundsOffCount_cabcc : gYS yJ0_checkBoundsOffCount_cabcc cJ0_checkBoundsOffCount_cabcc 3 (Option.some Jvm.ClassFile.FieldType.int) 3 := ⟨wm6_82, wm1_4, ⟨by decide, by decide, by decide +kernel⟩, wm6_81⟩
theorem myJ0_checkBoundsBeginEnd_23922 : gYS yJ0_checkBoundsBeginEnd_23922 cJ0_checkBoundsBeginEnd_23922 3 (Option.none : Option Jvm.ClassFile.FieldType) 3 := ⟨wm6_156, wm1_4, ⟨by decide, by decide, by decide +kernel⟩, wm6_155⟩
theorem myJ4_append_15ec4 : gYV yJ4_append_15ec4 cJ4_append_15ec4 2 (Option.some (Jvm.ClassFile.FieldType.object "java/lang/StringBuilder")) 1 := ⟨wm6_169, wm1_3, ⟨by decide, by decide, by decide +kernel⟩, wm6_167, wm6_168⟩
theorem myJ4_append_cf468 : gYV yJ4_append_cf468 cJ4_append_cf468 2 (Option.some (Jvm.ClassFile.FieldType.object "java/lang/StringBuilder")) 1 := ⟨wm6_26, wm1_3, ⟨by decide, by decide, by decide +kernel⟩, wm6_24, wm6_25⟩
theorem myJ4_append_bf812 : gYV yJ4_append_bf812 cJ4_append_bf812 2 (Option.some (Jvm.ClassFile.FieldType.object "java/lang/StringBuilder")) 1 := ⟨wm6_134, wm1_3, ⟨by decide, by decide, by decide +kernel⟩, wm6_132, wm6_133⟩
theorem myJ4_toString_0e30d : gYV yJ4_toString_0e30d cJ4_toString_0e30d 1 (Option.some (Jvm.ClassFile.FieldType.object "java/lang/String")) 0 := ⟨wm6_95, wm1_3, ⟨by decide, by decide, by decide +kernel⟩, wm6_93, wm6_94⟩
theorem myJ4_charAt_5068e : gYV yJ4_charAt_5068e cJ4_charAt_5068e 2 (Option.some Jvm.ClassFile.FieldType.char) 1 := ⟨wm6_222, wm1_3, ⟨by decide, by decide, by decide +kernel⟩, wm6_220, wm6_221⟩
theorem myJ1_charAt_3b067 : gYS yJ1_charAt_3b067 cJ1_charAt_3b067 2 (Option.some Jvm.ClassFile.FieldType.char) 2 := ⟨wm2_109, wm1_10, ⟨by decide, by decide, by decide +kernel⟩, wm2_108⟩
theorem myJ1_canEncode_fc78d : gYS yJ1_canEncode_fc78d cJ1_canEncode_fc78d 1 (Option.some Jvm.ClassFile.FieldType.boolean) 1 := ⟨wm6_66, wm1_10, ⟨by decide, by decide, by decide +kernel⟩, wm6_65⟩
theorem myJ1_inflate_0e8fd : gYS yJ1_inflate_0e8fd cJ1_inflate_0e8fd 5 (Option.none : Option Jvm.ClassFile.FieldType) 5 := ⟨wm6_73, wm1_10, ⟨by decide, by decide, by decide +kernel⟩, wm6_72⟩
theorem myJ2_newBytesFor_77867 : gYS yJ2_newBytesFor_77867 cJ2_newBytesFor_77867 1 (Option.some (Jvm.ClassFile.FieldType.array Jvm.ClassFile.FieldType.byte)) 1 := ⟨wm6_5, wm1_5, ⟨by decide, by decide, by decide +kernel⟩, wm6_4⟩
theorem myJ2_newBytesLength_0f7a4 : gYS yJ2_newBytesLength_0f7a4 cJ2_newBytesLength_0f7a4 1 (Option.some Jvm.ClassFile.FieldType.int) 1 := ⟨wm6_8, wm1_5, ⟨by decide, by decide, by decide +kernel⟩, wm6_7⟩
theorem myJ2_putChar_b72d1 : gYS yJ2_putChar_b72d1 cJ2_putChar_b72d1 3 (Option.none : Option Jvm.ClassFile.FieldType) 3 := ⟨wm6_88, wm1_5, ⟨by decide, by decide, by decide +kernel⟩, wm6_87⟩
theorem myJ2_getChar_3b067 : gYS yJ2_getChar_3b067 cJ2_getChar_3b067 2 (Option.some Jvm.ClassFile.FieldType.char) 2 := ⟨wm2_130, wm1_5, ⟨by decide, by decide, by decide +kernel⟩, wm2_129⟩
theorem myJ2_length_9d52b : gYS yJ2_length_9d52b cJ2_length_9d52b 1 (Option.some Jvm.ClassFile.FieldType.int) 1 := ⟨wm2_126, wm1_5, ⟨by decide, by decide, by decide +kernel⟩, wm2_125⟩
theorem myJ2_coderFromArrayLen_85cad : gYS yJ2_coderFromArrayLen_85cad cJ2_coderFromArrayLen_85cad 2 (Option.some Jvm.ClassFile.FieldType.byte) 2 := ⟨wm6_207, wm1_5, ⟨by decide, by decide, by decide +kernel⟩, wm6_206⟩
theorem myJ2_compress_39247 : gYS yJ2_compress_39247 cJ2_compress_39247 6 (Option.some (Jvm.ClassFile.FieldType.array Jvm.ClassFile.FieldType.byte)) 3 := ⟨wm6_200, wm1_5, ⟨by decide, by decide, by decide +kernel⟩, wm6_199⟩
theorem myJ2_compress_5af95 : gYS yJ2_compress_5af95 cJ2_compress_5af95 7 (Option.some Jvm.ClassFile.FieldType.int) 5 := ⟨wm6_203, wm1_5, ⟨by decide, by decide, by decide +kernel⟩, wm6_202⟩
theorem myJ2_putCharSB_b72d1 : gYS yJ2_putCharSB_b72d1 cJ2_putCharSB_b72d1 3 (Option.none : Option Jvm.ClassFile.FieldType) 3 := ⟨wm6_91, wm1_5, ⟨by decide, by decide, by decide +kernel⟩, wm6_90⟩
theorem myJ2_getChars_46870 : gYS yJ2_getChars_46870 cJ2_getChars_46870 5 (Option.some Jvm.ClassFile.FieldType.int) 4 := ⟨wm6_150, wm1_5, ⟨by decide, by decide, by decide +kernel⟩, wm6_149⟩
theorem myJ2_putCharsAt_cd4e5 : gYS yJ2_putCharsAt_cd4e5 cJ2_putCharsAt_cd4e5 7 (Option.some Jvm.ClassFile.FieldType.int) 6 := ⟨wm6_179, wm1_5, ⟨by decide, by decide, by decide +kernel⟩, wm6_178⟩
theorem myJ2_charAt_3b067 : gYS yJ2_charAt_3b067 cJ2_charAt_3b067 2 (Option.some Jvm.ClassFile.FieldType.char) 2 := ⟨wm2_120, wm1_5, ⟨by decide, by decide, by decide +kernel⟩, wm2_119⟩
theorem myJ2_inflate_0e8fd : gYS yJ2_inflate_0e8fd cJ2_inflate_0e8fd 6 (Option.none : Option Jvm.ClassFile.FieldType) 5 := ⟨wm6_76, wm1_5, ⟨by decide, by decide, by decide +kernel⟩, wm6_75⟩
theorem myJ2_getChars_ba4f3 : gYS yJ2_getChars_ba4f3 cJ2_getChars_ba4f3 7 (Option.some Jvm.ClassFile.FieldType.int) 3 := ⟨wm6_162, wm1_5, ⟨by decide, by decide, by decide +kernel⟩, wm6_161⟩
theorem myJ2_checkIndex_2214a : gYS yJ2_checkIndex_2214a cJ2_checkIndex_2214a 2 (Option.none : Option Jvm.ClassFile.FieldType) 2 := ⟨wm2_123, wm1_5, ⟨by decide, by decide, by decide +kernel⟩, wm2_122⟩
theorem myJ2_checkBoundsBeginEnd_d044e : gYS yJ2_checkBoundsBeginEnd_d044e cJ2_checkBoundsBeginEnd_d044e 3 (Option.none : Option Jvm.ClassFile.FieldType) 3 := ⟨wm6_153, wm1_5, ⟨by decide, by decide, by decide +kernel⟩, wm6_152⟩
theorem myJ2_checkBoundsOffCount_d044e : gYS yJ2_checkBoundsOffCount_d044e cJ2_checkBoundsOffCount_d044e 3 (Option.none : Option Jvm.ClassFile.FieldType) 3 := ⟨wm6_79, wm1_5, ⟨by decide, by decide, by decide +kernel⟩, wm6_78⟩
theorem myJ7_copyOf_9075b : gYS yJ7_copyOf_9075b cJ7_copyOf_9075b 3 (Option.some (Jvm.ClassFile.FieldType.array Jvm.ClassFile.FieldType.byte)) 2 := ⟨wm6_49, wm1_7, ⟨by decide, by decide, by decide +kernel⟩, wm6_48⟩
theorem myJ7_checkLength_df160 : gYS yJ7_checkLength_df160 cJ7_checkLength_df160 2 (Option.none : Option Jvm.ClassFile.FieldType) 2 := ⟨wm6_127, wm1_7, ⟨by decide, by decide, by decide +kernel⟩, wm6_126⟩
theorem myJ7_copyOfRange_39247 : gYS yJ7_copyOfRange_39247 cJ7_copyOfRange_39247 3 (Option.some (Jvm.ClassFile.FieldType.array Jvm.ClassFile.FieldType.byte)) 3 := ⟨wm6_121, wm1_7, ⟨by decide, by decide, by decide +kernel⟩, wm6_120⟩
theorem myJ7_copyOfRangeByte_39247 : gYS yJ7_copyOfRangeByte_39247 cJ7_copyOfRangeByte_39247 5 (Option.some (Jvm.ClassFile.FieldType.array Jvm.ClassFile.FieldType.byte)) 3 := ⟨wm6_124, wm1_7, ⟨by decide, by decide, by decide +kernel⟩, wm6_123⟩
theorem myJ8_newLength_cabcc : gYS yJ8_newLength_cabcc cJ8_newLength_cabcc 4 (Option.some Jvm.ClassFile.FieldType.int) 3 := ⟨wm6_40, wm1_6, ⟨by decide, by decide, by decide +kernel⟩, wm6_39⟩
theorem myJ8_hugeLength_7cf53 : gYS yJ8_hugeLength_7cf53 cJ8_hugeLength_7cf53 3 (Option.some Jvm.ClassFile.FieldType.int) 2 := ⟨wm6_45, wm1_6, ⟨by decide, by decide, by decide +kernel⟩, wm6_44⟩
theorem myJ3_checkIndex_8e157 : gYS yJ3_checkIndex_8e157 cJ3_checkIndex_8e157 3 (Option.some Jvm.ClassFile.FieldType.int) 3 := ⟨wm2_117, wm1_9, ⟨by decide, by decide, by decide +kernel⟩, wm2_116⟩
theorem myJ3_checkFromToIndex_8c36e : gYS yJ3_checkFromToIndex_8c36e cJ3_checkFromToIndex_8c36e 4 (Option.some Jvm.ClassFile.FieldType.int) 4 := ⟨wm6_159, wm1_9, ⟨by decide, by decide, by decide +kernel⟩, wm6_158⟩
theorem myJ3_checkFromIndexSize_8c36e : gYS yJ3_checkFromIndexSize_8c36e cJ3_checkFromIndexSize_8c36e 4 (Option.some Jvm.ClassFile.FieldType.int) 4 := ⟨wm6_85, wm1_9, ⟨by decide, by decide, by decide +kernel⟩, wm6_84⟩
theorem myL_cell : gYS yL_cell cL_cell 2 (Option.some Jvm.ClassFile.FieldType.int) 2 := ⟨wm3_51, wm1_0, ⟨by decide, by decide, by decide +kernel⟩, wm3_50⟩
theorem myL_comes : gYS yL_comes cL_comes 5 (Option.none : Option Jvm.ClassFile.FieldType) 2 := ⟨wm3_61, wm1_0, ⟨by decide, by decide, by decide +kernel⟩, wm3_60⟩
theorem myL_load : gYS yL_load cL_load 2 (Option.some Jvm.ClassFile.FieldType.int) 2 := ⟨wm3_58, wm1_0, ⟨by decide, by decide, by decide +kernel⟩, wm3_57⟩
theorem myL_sum : gYS yL_sum cL_sum 6 (Option.some Jvm.ClassFile.FieldType.long) 1 := ⟨wm4_223, wm1_0, ⟨by decide, by decide, by decide +kernel⟩, wm4_222⟩
theorem myL_isProtected : gYS yL_isProtected cL_isProtected 3 (Option.some Jvm.ClassFile.FieldType.boolean) 2 := ⟨wm5_95, wm1_0, ⟨by decide, by decide, by decide +kernel⟩, wm5_94⟩
theorem myL_isSlot : gYS yL_isSlot cL_isSlot 10 (Option.some Jvm.ClassFile.FieldType.boolean) 2 := ⟨wm5_87, wm1_0, ⟨by decide, by decide, by decide +kernel⟩, wm5_86⟩
theorem myL_keep : gYS yL_keep cL_keep 3 (Option.some Jvm.ClassFile.FieldType.int) 2 := ⟨wm5_129, wm1_0, ⟨by decide, by decide, by decide +kernel⟩, wm5_128⟩
theorem myL_isGardener : gYS yL_isGardener cL_isGardener 9 (Option.some Jvm.ClassFile.FieldType.boolean) 2 := ⟨wm5_132, wm1_0, ⟨by decide, by decide, by decide +kernel⟩, wm5_131⟩
theorem myL_stands : gYS yL_stands cL_stands 5 (Option.some Jvm.ClassFile.FieldType.boolean) 1 := ⟨wm5_84, wm1_0, ⟨by decide, by decide, by decide +kernel⟩, wm5_83⟩
theorem myL_ends : gYS yL_ends cL_ends 13 (Option.some Jvm.ClassFile.FieldType.boolean) 3 := ⟨wm5_196, wm1_0, ⟨by decide, by decide, by decide +kernel⟩, wm5_195⟩
theorem myL_acts : gYS yL_acts cL_acts 12 (Option.some Jvm.ClassFile.FieldType.boolean) 5 := ⟨wm5_193, wm1_0, ⟨by decide, by decide, by decide +kernel⟩, wm5_192⟩
/-! ===== what the tables say of each class ===== -/
theorem inF2 : ∀ c ∈ u_ws RX2 TX2 5, c ∈ lw_tbl ∧ tkw c = true := by
  intro c hc
  obtain ⟨k, hk, rfl⟩ := List.mem_map.mp hc
  rw [List.mem_range] at hk
  match k, hk with
  | 0, _ => exact ⟨wm2_43, rfl⟩
  | 1, _ => exact ⟨wm2_45, rfl⟩
  | 2, _ => exact ⟨wm2_47, rfl⟩
  | 3, _ => exact ⟨wm2_49, rfl⟩
  | 4, _ => exact ⟨wm2_51, rfl⟩
  | k + 5, h => exact absurd h (by omega)
theorem F2 : gF 0 RX2 TX2 5 tyX2 := ⟨rfl, inF2, tyX2_ok, nmX2, trivial⟩
theorem inF4 : ∀ c ∈ u_ws RX4 TX4 10, c ∈ lw_tbl ∧ tkw c = true := by
  intro c hc
  obtain ⟨k, hk, rfl⟩ := List.mem_map.mp hc
  rw [List.mem_range] at hk
  match k, hk with
  | 0, _ => exact ⟨wm1_86, rfl⟩
  | 1, _ => exact ⟨wm1_88, rfl⟩
  | 2, _ => exact ⟨wm1_90, rfl⟩
  | 3, _ => exact ⟨wm1_92, rfl⟩
  | 4, _ => exact ⟨wm1_94, rfl⟩
  | 5, _ => exact ⟨wm1_96, rfl⟩
  | 6, _ => exact ⟨wm1_98, rfl⟩
  | 7, _ => exact ⟨wm1_100, rfl⟩
  | 8, _ => exact ⟨wm1_102, rfl⟩
  | 9, _ => exact ⟨wm1_104, rfl⟩
  | k + 10, h => exact absurd h (by omega)
theorem F4 : gF 1 RX4 TX4 10 tyX4 := ⟨rfl, inF4, tyX4_ok, nmX4, trivial⟩
theorem inF5 : ∀ c ∈ u_ws RX5 TX5 19, c ∈ lw_tbl ∧ tkw c = true := by
  intro c hc
  obtain ⟨k, hk, rfl⟩ := List.mem_map.mp hc
  rw [List.mem_range] at hk
  match k, hk with
  | 0, _ => exact ⟨wm1_168, rfl⟩
  | 1, _ => exact ⟨wm1_170, rfl⟩
  | 2, _ => exact ⟨wm1_172, rfl⟩
  | 3, _ => exact ⟨wm1_174, rfl⟩
  | 4, _ => exact ⟨wm1_176, rfl⟩
  | 5, _ => exact ⟨wm1_178, rfl⟩
  | 6, _ => exact ⟨wm1_180, rfl⟩
  | 7, _ => exact ⟨wm1_182, rfl⟩
  | 8, _ => exact ⟨wm1_184, rfl⟩
  | 9, _ => exact ⟨wm1_186, rfl⟩
  | 10, _ => exact ⟨wm1_188, rfl⟩
  | 11, _ => exact ⟨wm1_190, rfl⟩
  | 12, _ => exact ⟨wm1_192, rfl⟩
  | 13, _ => exact ⟨wm1_194, rfl⟩
  | 14, _ => exact ⟨wm1_196, rfl⟩
  | 15, _ => exact ⟨wm1_198, rfl⟩
  | 16, _ => exact ⟨wm1_200, rfl⟩
  | 17, _ => exact ⟨wm1_202, rfl⟩
  | 18, _ => exact ⟨wm1_204, rfl⟩
  | k + 19, h => exact absurd h (by omega)
theorem F5 : gF 2 RX5 TX5 19 tyX5 := ⟨rfl, inF5, tyX5_ok, nmX5, trivial⟩
theorem inF6 : ∀ c ∈ u_ws RX6 TX6 3, c ∈ lw_tbl ∧ tkw c = true := by
  intro c hc
  obtain ⟨k, hk, rfl⟩ := List.mem_map.mp hc
  rw [List.mem_range] at hk
  match k, hk with
  | 0, _ => exact ⟨wm1_220, rfl⟩
  | 1, _ => exact ⟨wm1_222, rfl⟩
  | 2, _ => exact ⟨wm1_224, rfl⟩
  | k + 3, h => exact absurd h (by omega)
theorem F6 : gF 3 RX6 TX6 3 tyX6 := ⟨rfl, inF6, tyX6_ok, nmX6, trivial⟩
theorem inF7 : ∀ c ∈ u_ws RX7 TX7 4, c ∈ lw_tbl ∧ tkw c = true := by
  intro c hc
  obtain ⟨k, hk, rfl⟩ := List.mem_map.mp hc
  rw [List.mem_range] at hk
  match k, hk with
  | 0, _ => exact ⟨wm1_124, rfl⟩
  | 1, _ => exact ⟨wm1_126, rfl⟩
  | 2, _ => exact ⟨wm1_128, rfl⟩
  | 3, _ => exact ⟨wm1_130, rfl⟩
  | k + 4, h => exact absurd h (by omega)
theorem F7 : gF 4 RX7 TX7 4 tyX7 := ⟨rfl, inF7, tyX7_ok, nmX7, trivial⟩
theorem inF8 : ∀ c ∈ u_ws RX8 TX8 1, c ∈ lw_tbl ∧ tkw c = true := by
  intro c hc
  obtain ⟨k, hk, rfl⟩ := List.mem_map.mp hc
  rw [List.mem_range] at hk
  match k, hk with
  | 0, _ => exact ⟨wm1_48, rfl⟩
  | k + 1, h => exact absurd h (by omega)
theorem F8 : gF 5 RX8 TX8 1 tyX8 := ⟨rfl, inF8, tyX8_ok, nmX8, trivial⟩
theorem inF9 : ∀ c ∈ u_ws RX9 TX9 9, c ∈ lw_tbl ∧ tkw c = true := by
  intro c hc
  obtain ⟨k, hk, rfl⟩ := List.mem_map.mp hc
  rw [List.mem_range] at hk
  match k, hk with
  | 0, _ => exact ⟨wm2_10, rfl⟩
  | 1, _ => exact ⟨wm2_12, rfl⟩
  | 2, _ => exact ⟨wm2_14, rfl⟩
  | 3, _ => exact ⟨wm2_16, rfl⟩
  | 4, _ => exact ⟨wm2_18, rfl⟩
  | 5, _ => exact ⟨wm2_20, rfl⟩
  | 6, _ => exact ⟨wm2_22, rfl⟩
  | 7, _ => exact ⟨wm2_24, rfl⟩
  | 8, _ => exact ⟨wm2_26, rfl⟩
  | k + 9, h => exact absurd h (by omega)
theorem F9 : gF 6 RX9 TX9 9 tyX9 := ⟨rfl, inF9, tyX9_ok, nmX9, trivial⟩
theorem inF10 : ∀ c ∈ u_ws RX10 TX10 9, c ∈ lw_tbl ∧ tkw c = true := by
  intro c hc
  obtain ⟨k, hk, rfl⟩ := List.mem_map.mp hc
  rw [List.mem_range] at hk
  match k, hk with
  | 0, _ => exact ⟨wm2_167, rfl⟩
  | 1, _ => exact ⟨wm2_169, rfl⟩
  | 2, _ => exact ⟨wm2_171, rfl⟩
  | 3, _ => exact ⟨wm2_173, rfl⟩
  | 4, _ => exact ⟨wm2_175, rfl⟩
  | 5, _ => exact ⟨wm2_177, rfl⟩
  | 6, _ => exact ⟨wm2_179, rfl⟩
  | 7, _ => exact ⟨wm2_181, rfl⟩
  | 8, _ => exact ⟨wm2_183, rfl⟩
  | k + 9, h => exact absurd h (by omega)
theorem F10 : gF 7 RX10 TX10 9 tyX10 := ⟨rfl, inF10, tyX10_ok, nmX10, trivial⟩
theorem inFJ0 : ∀ c ∈ u_ws RJ0 TJ0 4, c ∈ lw_tbl ∧ tkw c = true := by
  intro c hc
  obtain ⟨k, hk, rfl⟩ := List.mem_map.mp hc
  rw [List.mem_range] at hk
  match k, hk with
  | 0, _ => exact ⟨wm6_210, rfl⟩
  | 1, _ => exact ⟨wm6_212, rfl⟩
  | 2, _ => exact ⟨wm6_214, rfl⟩
  | 3, _ => exact ⟨wm6_216, rfl⟩
  | k + 4, h => exact absurd h (by omega)
theorem FJ0 : gF 8 RJ0 TJ0 4 tyJ0 := ⟨rfl, inFJ0, tyJ0_ok, nmJ0, trivial⟩
theorem inFJ4 : ∀ c ∈ u_ws RJ4 TJ4 4, c ∈ lw_tbl ∧ tkw c = true := by
  intro c hc
  obtain ⟨k, hk, rfl⟩ := List.mem_map.mp hc
  rw [List.mem_range] at hk
  match k, hk with
  | 0, _ => exact ⟨wm6_14, rfl⟩
  | 1, _ => exact ⟨wm6_16, rfl⟩
  | 2, _ => exact ⟨wm6_18, rfl⟩
  | 3, _ => exact ⟨wm6_20, rfl⟩
  | k + 4, h => exact absurd h (by omega)
theorem FJ4 : gF 9 RJ4 TJ4 4 tyJ4 := ⟨rfl, inFJ4, tyJ4_ok, nmJ4, trivial⟩
