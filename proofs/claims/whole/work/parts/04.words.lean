/-! ===== the words of the tables, by their places ===== -/
theorem in_t1 {x : Cond} (h : x ∈ tables_1_1) : x ∈ lw_tbl := by
  refine List.mem_append_right _ ?_
  show x ∈ tables_1_1 ++ (tables_1_2 ++ (tables_1_3 ++ (tables_1_4 ++ (tables_1_5 ++ (tables_1_6 ++ (tables_1_7 ++ (tables_1_8 ++ (tables_1_9))))))))
  exact List.mem_append_left _ h
theorem in_t2 {x : Cond} (h : x ∈ tables_1_2) : x ∈ lw_tbl := by
  refine List.mem_append_right _ ?_
  show x ∈ tables_1_1 ++ (tables_1_2 ++ (tables_1_3 ++ (tables_1_4 ++ (tables_1_5 ++ (tables_1_6 ++ (tables_1_7 ++ (tables_1_8 ++ (tables_1_9))))))))
  refine List.mem_append_right _ ?_; exact List.mem_append_left _ h
theorem in_t3 {x : Cond} (h : x ∈ tables_1_3) : x ∈ lw_tbl := by
  refine List.mem_append_right _ ?_
  show x ∈ tables_1_1 ++ (tables_1_2 ++ (tables_1_3 ++ (tables_1_4 ++ (tables_1_5 ++ (tables_1_6 ++ (tables_1_7 ++ (tables_1_8 ++ (tables_1_9))))))))
  refine List.mem_append_right _ ?_; refine List.mem_append_right _ ?_; exact List.mem_append_left _ h
theorem in_t4 {x : Cond} (h : x ∈ tables_1_4) : x ∈ lw_tbl := by
  refine List.mem_append_right _ ?_
  show x ∈ tables_1_1 ++ (tables_1_2 ++ (tables_1_3 ++ (tables_1_4 ++ (tables_1_5 ++ (tables_1_6 ++ (tables_1_7 ++ (tables_1_8 ++ (tables_1_9))))))))
  refine List.mem_append_right _ ?_; refine List.mem_append_right _ ?_; refine List.mem_append_right _ ?_; exact List.mem_append_left _ h
theorem in_t5 {x : Cond} (h : x ∈ tables_1_5) : x ∈ lw_tbl := by
  refine List.mem_append_right _ ?_
  show x ∈ tables_1_1 ++ (tables_1_2 ++ (tables_1_3 ++ (tables_1_4 ++ (tables_1_5 ++ (tables_1_6 ++ (tables_1_7 ++ (tables_1_8 ++ (tables_1_9))))))))
  refine List.mem_append_right _ ?_; refine List.mem_append_right _ ?_; refine List.mem_append_right _ ?_; refine List.mem_append_right _ ?_; exact List.mem_append_left _ h
theorem in_t6 {x : Cond} (h : x ∈ tables_1_6) : x ∈ lw_tbl := by
  refine List.mem_append_right _ ?_
  show x ∈ tables_1_1 ++ (tables_1_2 ++ (tables_1_3 ++ (tables_1_4 ++ (tables_1_5 ++ (tables_1_6 ++ (tables_1_7 ++ (tables_1_8 ++ (tables_1_9))))))))
  refine List.mem_append_right _ ?_; refine List.mem_append_right _ ?_; refine List.mem_append_right _ ?_; refine List.mem_append_right _ ?_; refine List.mem_append_right _ ?_; exact List.mem_append_left _ h
theorem in_t7 {x : Cond} (h : x ∈ tables_1_7) : x ∈ lw_tbl := by
  refine List.mem_append_right _ ?_
  show x ∈ tables_1_1 ++ (tables_1_2 ++ (tables_1_3 ++ (tables_1_4 ++ (tables_1_5 ++ (tables_1_6 ++ (tables_1_7 ++ (tables_1_8 ++ (tables_1_9))))))))
  refine List.mem_append_right _ ?_; refine List.mem_append_right _ ?_; refine List.mem_append_right _ ?_; refine List.mem_append_right _ ?_; refine List.mem_append_right _ ?_; refine List.mem_append_right _ ?_; exact List.mem_append_left _ h
theorem in_t8 {x : Cond} (h : x ∈ tables_1_8) : x ∈ lw_tbl := by
  refine List.mem_append_right _ ?_
  show x ∈ tables_1_1 ++ (tables_1_2 ++ (tables_1_3 ++ (tables_1_4 ++ (tables_1_5 ++ (tables_1_6 ++ (tables_1_7 ++ (tables_1_8 ++ (tables_1_9))))))))
  refine List.mem_append_right _ ?_; refine List.mem_append_right _ ?_; refine List.mem_append_right _ ?_; refine List.mem_append_right _ ?_; refine List.mem_append_right _ ?_; refine List.mem_append_right _ ?_; refine List.mem_append_right _ ?_; exact List.mem_append_left _ h
theorem in_t9 {x : Cond} (h : x ∈ tables_1_9) : x ∈ lw_tbl := by
  refine List.mem_append_right _ ?_
  show x ∈ tables_1_1 ++ (tables_1_2 ++ (tables_1_3 ++ (tables_1_4 ++ (tables_1_5 ++ (tables_1_6 ++ (tables_1_7 ++ (tables_1_8 ++ (tables_1_9))))))))
  refine List.mem_append_right _ ?_; refine List.mem_append_right _ ?_; refine List.mem_append_right _ ?_; refine List.mem_append_right _ ?_; refine List.mem_append_right _ ?_; refine List.mem_append_right _ ?_; refine List.mem_append_right _ ?_; refine List.mem_append_right _ ?_; exact h
theorem in_p1 {q : MethodName × Nat} (h : q ∈ lw_privs_1) : Cond.selects q.1.cls q.1 q.1 ∈ lw_tbl := by
  refine List.mem_append_left _ (List.mem_map.mpr ⟨q, ?_, rfl⟩)
  show q ∈ lw_privs_1 ++ (lw_privs_2 ++ (lw_privs_3 ++ (lw_privs_4 ++ (lw_privs_5 ++ (lw_privs_6 ++ (lw_privs_7))))))
  exact List.mem_append_left _ h
theorem in_p2 {q : MethodName × Nat} (h : q ∈ lw_privs_2) : Cond.selects q.1.cls q.1 q.1 ∈ lw_tbl := by
  refine List.mem_append_left _ (List.mem_map.mpr ⟨q, ?_, rfl⟩)
  show q ∈ lw_privs_1 ++ (lw_privs_2 ++ (lw_privs_3 ++ (lw_privs_4 ++ (lw_privs_5 ++ (lw_privs_6 ++ (lw_privs_7))))))
  refine List.mem_append_right _ ?_; exact List.mem_append_left _ h
theorem in_p3 {q : MethodName × Nat} (h : q ∈ lw_privs_3) : Cond.selects q.1.cls q.1 q.1 ∈ lw_tbl := by
  refine List.mem_append_left _ (List.mem_map.mpr ⟨q, ?_, rfl⟩)
  show q ∈ lw_privs_1 ++ (lw_privs_2 ++ (lw_privs_3 ++ (lw_privs_4 ++ (lw_privs_5 ++ (lw_privs_6 ++ (lw_privs_7))))))
  refine List.mem_append_right _ ?_; refine List.mem_append_right _ ?_; exact List.mem_append_left _ h
theorem in_p4 {q : MethodName × Nat} (h : q ∈ lw_privs_4) : Cond.selects q.1.cls q.1 q.1 ∈ lw_tbl := by
  refine List.mem_append_left _ (List.mem_map.mpr ⟨q, ?_, rfl⟩)
  show q ∈ lw_privs_1 ++ (lw_privs_2 ++ (lw_privs_3 ++ (lw_privs_4 ++ (lw_privs_5 ++ (lw_privs_6 ++ (lw_privs_7))))))
  refine List.mem_append_right _ ?_; refine List.mem_append_right _ ?_; refine List.mem_append_right _ ?_; exact List.mem_append_left _ h
theorem in_p5 {q : MethodName × Nat} (h : q ∈ lw_privs_5) : Cond.selects q.1.cls q.1 q.1 ∈ lw_tbl := by
  refine List.mem_append_left _ (List.mem_map.mpr ⟨q, ?_, rfl⟩)
  show q ∈ lw_privs_1 ++ (lw_privs_2 ++ (lw_privs_3 ++ (lw_privs_4 ++ (lw_privs_5 ++ (lw_privs_6 ++ (lw_privs_7))))))
  refine List.mem_append_right _ ?_; refine List.mem_append_right _ ?_; refine List.mem_append_right _ ?_; refine List.mem_append_right _ ?_; exact List.mem_append_left _ h
theorem in_p6 {q : MethodName × Nat} (h : q ∈ lw_privs_6) : Cond.selects q.1.cls q.1 q.1 ∈ lw_tbl := by
  refine List.mem_append_left _ (List.mem_map.mpr ⟨q, ?_, rfl⟩)
  show q ∈ lw_privs_1 ++ (lw_privs_2 ++ (lw_privs_3 ++ (lw_privs_4 ++ (lw_privs_5 ++ (lw_privs_6 ++ (lw_privs_7))))))
  refine List.mem_append_right _ ?_; refine List.mem_append_right _ ?_; refine List.mem_append_right _ ?_; refine List.mem_append_right _ ?_; refine List.mem_append_right _ ?_; exact List.mem_append_left _ h
theorem in_p7 {q : MethodName × Nat} (h : q ∈ lw_privs_7) : Cond.selects q.1.cls q.1 q.1 ∈ lw_tbl := by
  refine List.mem_append_left _ (List.mem_map.mpr ⟨q, ?_, rfl⟩)
  show q ∈ lw_privs_1 ++ (lw_privs_2 ++ (lw_privs_3 ++ (lw_privs_4 ++ (lw_privs_5 ++ (lw_privs_6 ++ (lw_privs_7))))))
  refine List.mem_append_right _ ?_; refine List.mem_append_right _ ?_; refine List.mem_append_right _ ?_; refine List.mem_append_right _ ?_; refine List.mem_append_right _ ?_; refine List.mem_append_right _ ?_; exact h
theorem wm1_0 : Cond.initialized "HedgeMessagesLaw" ∈ lw_tbl := in_t1 (List.mem_of_getElem? (i := 0) rfl)
theorem wm1_1 : Cond.initialized "HedgeMessages" ∈ lw_tbl := in_t1 (List.mem_of_getElem? (i := 1) rfl)
theorem wm1_2 : Cond.initialized "HedgeMessages$Hedge" ∈ lw_tbl := in_t1 (List.mem_of_getElem? (i := 2) rfl)
theorem wm1_3 : Cond.initialized "HedgeMessages$Row" ∈ lw_tbl := in_t1 (List.mem_of_getElem? (i := 3) rfl)
theorem wm1_4 : Cond.initialized "HedgeMessages$Gardener" ∈ lw_tbl := in_t1 (List.mem_of_getElem? (i := 4) rfl)
theorem wm1_5 : Cond.initialized "HedgeMessages$PostedMessages" ∈ lw_tbl := in_t1 (List.mem_of_getElem? (i := 5) rfl)
theorem wm1_6 : Cond.initialized "HedgeMessages$History" ∈ lw_tbl := in_t1 (List.mem_of_getElem? (i := 6) rfl)
theorem wm1_7 : Cond.initialized "HedgeMessages$Text" ∈ lw_tbl := in_t1 (List.mem_of_getElem? (i := 7) rfl)
theorem wm1_8 : Cond.initialized "HedgeMessages$CommandList" ∈ lw_tbl := in_t1 (List.mem_of_getElem? (i := 8) rfl)
theorem wm1_9 : Cond.initialized "java/lang/String" ∈ lw_tbl := in_t1 (List.mem_of_getElem? (i := 9) rfl)
theorem wm1_10 : Cond.initialized "java/lang/StringLatin1" ∈ lw_tbl := in_t1 (List.mem_of_getElem? (i := 10) rfl)
theorem wm1_11 : Cond.initialized "jdk/internal/util/Preconditions" ∈ lw_tbl := in_t1 (List.mem_of_getElem? (i := 11) rfl)
theorem wm1_12 : Cond.initialized "java/lang/StringUTF16" ∈ lw_tbl := in_t1 (List.mem_of_getElem? (i := 12) rfl)
theorem wm1_13 : Cond.initialized "java/lang/System" ∈ lw_tbl := in_t1 (List.mem_of_getElem? (i := 13) rfl)
theorem wm1_14 : Cond.initialized "HedgeMessagesModel" ∈ lw_tbl := in_t1 (List.mem_of_getElem? (i := 14) rfl)
theorem wm1_15 : Cond.initialized "java/lang/Throwable" ∈ lw_tbl := in_t1 (List.mem_of_getElem? (i := 15) rfl)
theorem wm1_16 : Cond.initialized "java/lang/Exception" ∈ lw_tbl := in_t1 (List.mem_of_getElem? (i := 16) rfl)
theorem wm1_17 : Cond.initialized "java/lang/RuntimeException" ∈ lw_tbl := in_t1 (List.mem_of_getElem? (i := 17) rfl)
theorem wm1_18 : Cond.initialized "java/lang/IllegalStateException" ∈ lw_tbl := in_t1 (List.mem_of_getElem? (i := 18) rfl)
theorem wm1_19 : Cond.initialized "java/lang/IllegalArgumentException" ∈ lw_tbl := in_t1 (List.mem_of_getElem? (i := 19) rfl)
theorem wm1_20 : Cond.initialized "HedgeMessages$Configuration" ∈ lw_tbl := in_t1 (List.mem_of_getElem? (i := 20) rfl)
theorem wm1_21 : Cond.initialized "HedgeMessages$1" ∈ lw_tbl := in_t1 (List.mem_of_getElem? (i := 21) rfl)
theorem wm1_22 : Cond.initialized "java/lang/Enum" ∈ lw_tbl := in_t1 (List.mem_of_getElem? (i := 22) rfl)
theorem wm1_23 : Cond.initialized "HedgeMessages$CommandForm" ∈ lw_tbl := in_t1 (List.mem_of_getElem? (i := 23) rfl)
theorem wm1_24 : Cond.initialized "java/lang/Math" ∈ lw_tbl := in_t1 (List.mem_of_getElem? (i := 24) rfl)
theorem wm1_25 : Cond.initialized "java/lang/IndexOutOfBoundsException" ∈ lw_tbl := in_t1 (List.mem_of_getElem? (i := 25) rfl)
theorem wm1_26 : Cond.classLink "HedgeMessagesLaw" 8 "HedgeMessages" ∈ lw_tbl := in_t1 (List.mem_of_getElem? (i := 26) rfl)
theorem wm1_27 : Cond.instantiable "HedgeMessages" 9 ∈ lw_tbl := in_t1 (List.mem_of_getElem? (i := 27) rfl)
theorem wm1_28 : Cond.methodLink "HedgeMessagesLaw" 138 yX10_init ∈ lw_tbl := in_t1 (List.mem_of_getElem? (i := 28) rfl)
theorem wm1_29 : Cond.instanceMethod yX10_init ∈ lw_tbl := in_t1 (List.mem_of_getElem? (i := 29) rfl)
theorem wm1_30 : Cond.code yX10_init prog_1_method_1_code 1 (Option.none : Option Jvm.ClassFile.FieldType) ∈ lw_tbl := in_t1 (List.mem_of_getElem? (i := 30) rfl)
theorem wm1_31 : Cond.methodLink "HedgeMessages" 1 ({ cls := "java/lang/Object", name := "<init>", desc := "()V" } : Jvm.MethodName) ∈ lw_tbl := in_t1 (List.mem_of_getElem? (i := 31) rfl)
theorem wm1_32 : Cond.instanceMethod ({ cls := "java/lang/Object", name := "<init>", desc := "()V" } : Jvm.MethodName) ∈ lw_tbl := in_t1 (List.mem_of_getElem? (i := 32) rfl)
theorem wm1_33 : Cond.code ({ cls := "java/lang/Object", name := "<init>", desc := "()V" } : Jvm.MethodName) object_method_1_code 1 (Option.none : Option Jvm.ClassFile.FieldType) ∈ lw_tbl := in_t1 (List.mem_of_getElem? (i := 33) rfl)
theorem wm1_34 : Cond.classLink "HedgeMessages" 7 "HedgeMessages$Hedge" ∈ lw_tbl := in_t1 (List.mem_of_getElem? (i := 34) rfl)
theorem wm1_35 : Cond.instantiable "HedgeMessages$Hedge" 19 ∈ lw_tbl := in_t1 (List.mem_of_getElem? (i := 35) rfl)
theorem wm1_36 : Cond.methodLink "HedgeMessages" 9 yX5_init ∈ lw_tbl := in_t1 (List.mem_of_getElem? (i := 36) rfl)
theorem wm1_37 : Cond.instanceMethod yX5_init ∈ lw_tbl := in_t1 (List.mem_of_getElem? (i := 37) rfl)
theorem wm1_38 : Cond.code yX5_init prog_7_method_1_code 1 (Option.none : Option Jvm.ClassFile.FieldType) ∈ lw_tbl := in_t1 (List.mem_of_getElem? (i := 38) rfl)
theorem wm1_39 : Cond.methodLink "HedgeMessages$Hedge" 3 ({ cls := "java/lang/Object", name := "<init>", desc := "()V" } : Jvm.MethodName) ∈ lw_tbl := in_t1 (List.mem_of_getElem? (i := 39) rfl)
theorem wm1_40 : Cond.classLink "HedgeMessages$Hedge" 9 "HedgeMessages$Row" ∈ lw_tbl := in_t1 (List.mem_of_getElem? (i := 40) rfl)
theorem wm1_41 : Cond.instantiable "HedgeMessages$Row" 1 ∈ lw_tbl := in_t1 (List.mem_of_getElem? (i := 41) rfl)
theorem wm1_42 : Cond.methodLink "HedgeMessages$Hedge" 11 yX8_init ∈ lw_tbl := in_t1 (List.mem_of_getElem? (i := 42) rfl)
theorem wm1_43 : Cond.instanceMethod yX8_init ∈ lw_tbl := in_t1 (List.mem_of_getElem? (i := 43) rfl)
theorem wm1_44 : Cond.code yX8_init prog_10_method_1_code 2 (Option.none : Option Jvm.ClassFile.FieldType) ∈ lw_tbl := in_t1 (List.mem_of_getElem? (i := 44) rfl)
theorem wm1_45 : Cond.methodLink "HedgeMessages$Row" 1 ({ cls := "java/lang/Object", name := "<init>", desc := "()V" } : Jvm.MethodName) ∈ lw_tbl := in_t1 (List.mem_of_getElem? (i := 45) rfl)
theorem wm1_46 : Cond.fieldLink "HedgeMessages$Row" 7 "HedgeMessages$Row" "cells" "[I" ∈ lw_tbl := in_t1 (List.mem_of_getElem? (i := 46) rfl)
theorem wm1_47 : Cond.laysFinal "HedgeMessages$Row" "HedgeMessages$Row" "cells" "[I" ∈ lw_tbl := in_t1 (List.mem_of_getElem? (i := 47) rfl)
theorem wm1_50 : Cond.arrayClass Jvm.ClassFile.FieldType.int ∈ lw_tbl := in_t1 (List.mem_of_getElem? (i := 50) rfl)
theorem wm1_51 : Cond.classLink "HedgeMessages$Hedge" 32 "HedgeMessages$Gardener" ∈ lw_tbl := in_t1 (List.mem_of_getElem? (i := 51) rfl)
theorem wm1_52 : Cond.instantiable "HedgeMessages$Gardener" 10 ∈ lw_tbl := in_t1 (List.mem_of_getElem? (i := 52) rfl)
theorem wm1_53 : Cond.methodLink "HedgeMessages$Hedge" 34 yX4_init ∈ lw_tbl := in_t1 (List.mem_of_getElem? (i := 53) rfl)
theorem wm1_54 : Cond.instanceMethod yX4_init ∈ lw_tbl := in_t1 (List.mem_of_getElem? (i := 54) rfl)
theorem wm1_55 : Cond.code yX4_init prog_6_method_1_code 1 (Option.none : Option Jvm.ClassFile.FieldType) ∈ lw_tbl := in_t1 (List.mem_of_getElem? (i := 55) rfl)
theorem wm1_56 : Cond.methodLink "HedgeMessages$Gardener" 3 ({ cls := "java/lang/Object", name := "<init>", desc := "()V" } : Jvm.MethodName) ∈ lw_tbl := in_t1 (List.mem_of_getElem? (i := 56) rfl)
theorem wm1_57 : Cond.classLink "HedgeMessages$Gardener" 9 "HedgeMessages$Row" ∈ lw_tbl := in_t1 (List.mem_of_getElem? (i := 57) rfl)
theorem wm1_58 : Cond.methodLink "HedgeMessages$Gardener" 11 yX8_init ∈ lw_tbl := in_t1 (List.mem_of_getElem? (i := 58) rfl)
theorem wm1_59 : Cond.fieldLink "HedgeMessages$Gardener" 14 "HedgeMessages$Gardener" "letters" "LHedgeMessages$Row;" ∈ lw_tbl := in_t1 (List.mem_of_getElem? (i := 59) rfl)
theorem wm1_60 : Cond.fieldLinkNest "HedgeMessages$Hedge" 250 "HedgeMessages$Gardener" "letters" "LHedgeMessages$Row;" "HedgeMessages" ∈ lw_tbl := in_t1 (List.mem_of_getElem? (i := 60) rfl)
theorem wm1_61 : Cond.fieldLink "HedgeMessages$Gardener" 20 "HedgeMessages$Gardener" "lengths" "LHedgeMessages$Row;" ∈ lw_tbl := in_t1 (List.mem_of_getElem? (i := 61) rfl)
theorem wm1_62 : Cond.fieldLink "HedgeMessages$Gardener" 23 "HedgeMessages$Gardener" "pending" "I" ∈ lw_tbl := in_t1 (List.mem_of_getElem? (i := 62) rfl)
theorem wm1_63 : Cond.fieldLinkNest "HedgeMessages$Hedge" 140 "HedgeMessages$Gardener" "pending" "I" "HedgeMessages" ∈ lw_tbl := in_t1 (List.mem_of_getElem? (i := 63) rfl)
theorem wm1_64 : Cond.fieldLinkNest "HedgeMessages" 186 "HedgeMessages$Gardener" "pending" "I" "HedgeMessages" ∈ lw_tbl := in_t1 (List.mem_of_getElem? (i := 64) rfl)
theorem wm1_65 : Cond.fieldLink "HedgeMessages$Gardener" 46 "HedgeMessages$Gardener" "start" "I" ∈ lw_tbl := in_t1 (List.mem_of_getElem? (i := 65) rfl)
theorem wm1_66 : Cond.fieldLinkNest "HedgeMessages$Hedge" 150 "HedgeMessages$Gardener" "start" "I" "HedgeMessages" ∈ lw_tbl := in_t1 (List.mem_of_getElem? (i := 66) rfl)
theorem wm1_67 : Cond.fieldLinkNest "HedgeMessages" 202 "HedgeMessages$Gardener" "start" "I" "HedgeMessages" ∈ lw_tbl := in_t1 (List.mem_of_getElem? (i := 67) rfl)
theorem wm1_68 : Cond.fieldLink "HedgeMessages$Gardener" 49 "HedgeMessages$Gardener" "length" "I" ∈ lw_tbl := in_t1 (List.mem_of_getElem? (i := 68) rfl)
theorem wm1_69 : Cond.fieldLinkNest "HedgeMessages$Hedge" 241 "HedgeMessages$Gardener" "length" "I" "HedgeMessages" ∈ lw_tbl := in_t1 (List.mem_of_getElem? (i := 69) rfl)
theorem wm1_70 : Cond.fieldLink "HedgeMessages$Gardener" 52 "HedgeMessages$Gardener" "written" "I" ∈ lw_tbl := in_t1 (List.mem_of_getElem? (i := 70) rfl)
theorem wm1_71 : Cond.fieldLinkNest "HedgeMessages" 195 "HedgeMessages$Gardener" "written" "I" "HedgeMessages" ∈ lw_tbl := in_t1 (List.mem_of_getElem? (i := 71) rfl)
theorem wm1_72 : Cond.fieldLinkNest "HedgeMessages$Hedge" 153 "HedgeMessages$Gardener" "written" "I" "HedgeMessages" ∈ lw_tbl := in_t1 (List.mem_of_getElem? (i := 72) rfl)
theorem wm1_73 : Cond.fieldLink "HedgeMessages$Gardener" 30 "HedgeMessages$Gardener" "queued" "I" ∈ lw_tbl := in_t1 (List.mem_of_getElem? (i := 73) rfl)
theorem wm1_74 : Cond.fieldLinkNest "HedgeMessages$Hedge" 112 "HedgeMessages$Gardener" "queued" "I" "HedgeMessages" ∈ lw_tbl := in_t1 (List.mem_of_getElem? (i := 74) rfl)
theorem wm1_75 : Cond.fieldLinkNest "HedgeMessages" 263 "HedgeMessages$Gardener" "queued" "I" "HedgeMessages" ∈ lw_tbl := in_t1 (List.mem_of_getElem? (i := 75) rfl)
theorem wm1_76 : Cond.fieldLink "HedgeMessages$Gardener" 33 "HedgeMessages$Gardener" "delivered" "I" ∈ lw_tbl := in_t1 (List.mem_of_getElem? (i := 76) rfl)
theorem wm1_77 : Cond.fieldLinkNest "HedgeMessages" 253 "HedgeMessages$Gardener" "delivered" "I" "HedgeMessages" ∈ lw_tbl := in_t1 (List.mem_of_getElem? (i := 77) rfl)
theorem wm1_78 : Cond.fieldLinkNest "HedgeMessages$Hedge" 231 "HedgeMessages$Gardener" "delivered" "I" "HedgeMessages" ∈ lw_tbl := in_t1 (List.mem_of_getElem? (i := 78) rfl)
theorem wm1_79 : Cond.fieldLink "HedgeMessages$Gardener" 36 "HedgeMessages$Gardener" "failed" "I" ∈ lw_tbl := in_t1 (List.mem_of_getElem? (i := 79) rfl)
theorem wm1_80 : Cond.fieldLinkNest "HedgeMessages" 266 "HedgeMessages$Gardener" "failed" "I" "HedgeMessages" ∈ lw_tbl := in_t1 (List.mem_of_getElem? (i := 80) rfl)
theorem wm1_81 : Cond.fieldLinkNest "HedgeMessages$Hedge" 265 "HedgeMessages$Gardener" "failed" "I" "HedgeMessages" ∈ lw_tbl := in_t1 (List.mem_of_getElem? (i := 81) rfl)
theorem wm1_82 : Cond.fieldLink "HedgeMessages$Gardener" 39 "HedgeMessages$Gardener" "dropped" "I" ∈ lw_tbl := in_t1 (List.mem_of_getElem? (i := 82) rfl)
theorem wm1_83 : Cond.fieldLinkNest "HedgeMessages" 269 "HedgeMessages$Gardener" "dropped" "I" "HedgeMessages" ∈ lw_tbl := in_t1 (List.mem_of_getElem? (i := 83) rfl)
theorem wm1_84 : Cond.fieldLinkNest "HedgeMessages$Hedge" 268 "HedgeMessages$Gardener" "dropped" "I" "HedgeMessages" ∈ lw_tbl := in_t1 (List.mem_of_getElem? (i := 84) rfl)
theorem wm1_85 : Cond.laysFinal "HedgeMessages$Gardener" "HedgeMessages$Gardener" "letters" "LHedgeMessages$Row;" ∈ lw_tbl := in_t1 (List.mem_of_getElem? (i := 85) rfl)
theorem wm1_87 : Cond.laysFinal "HedgeMessages$Gardener" "HedgeMessages$Gardener" "lengths" "LHedgeMessages$Row;" ∈ lw_tbl := in_t1 (List.mem_of_getElem? (i := 87) rfl)
theorem wm1_89 : Cond.lays "HedgeMessages$Gardener" "HedgeMessages$Gardener" "pending" "I" ∈ lw_tbl := in_t1 (List.mem_of_getElem? (i := 89) rfl)
theorem wm1_91 : Cond.lays "HedgeMessages$Gardener" "HedgeMessages$Gardener" "start" "I" ∈ lw_tbl := in_t1 (List.mem_of_getElem? (i := 91) rfl)
theorem wm1_93 : Cond.lays "HedgeMessages$Gardener" "HedgeMessages$Gardener" "length" "I" ∈ lw_tbl := in_t1 (List.mem_of_getElem? (i := 93) rfl)
theorem wm1_95 : Cond.lays "HedgeMessages$Gardener" "HedgeMessages$Gardener" "written" "I" ∈ lw_tbl := in_t1 (List.mem_of_getElem? (i := 95) rfl)
theorem wm1_97 : Cond.lays "HedgeMessages$Gardener" "HedgeMessages$Gardener" "queued" "I" ∈ lw_tbl := in_t1 (List.mem_of_getElem? (i := 97) rfl)
theorem wm1_99 : Cond.lays "HedgeMessages$Gardener" "HedgeMessages$Gardener" "delivered" "I" ∈ lw_tbl := in_t1 (List.mem_of_getElem? (i := 99) rfl)
theorem wm1_101 : Cond.lays "HedgeMessages$Gardener" "HedgeMessages$Gardener" "failed" "I" ∈ lw_tbl := in_t1 (List.mem_of_getElem? (i := 101) rfl)
theorem wm1_103 : Cond.lays "HedgeMessages$Gardener" "HedgeMessages$Gardener" "dropped" "I" ∈ lw_tbl := in_t1 (List.mem_of_getElem? (i := 103) rfl)
theorem wm1_106 : Cond.classLink "HedgeMessages$Hedge" 42 "HedgeMessages$PostedMessages" ∈ lw_tbl := in_t1 (List.mem_of_getElem? (i := 106) rfl)
theorem wm1_107 : Cond.instantiable "HedgeMessages$PostedMessages" 4 ∈ lw_tbl := in_t1 (List.mem_of_getElem? (i := 107) rfl)
theorem wm1_108 : Cond.methodLink "HedgeMessages$Hedge" 44 yX7_init ∈ lw_tbl := in_t1 (List.mem_of_getElem? (i := 108) rfl)
theorem wm1_109 : Cond.instanceMethod yX7_init ∈ lw_tbl := in_t1 (List.mem_of_getElem? (i := 109) rfl)
theorem wm1_110 : Cond.code yX7_init prog_9_method_1_code 1 (Option.none : Option Jvm.ClassFile.FieldType) ∈ lw_tbl := in_t1 (List.mem_of_getElem? (i := 110) rfl)
theorem wm1_111 : Cond.methodLink "HedgeMessages$PostedMessages" 3 ({ cls := "java/lang/Object", name := "<init>", desc := "()V" } : Jvm.MethodName) ∈ lw_tbl := in_t1 (List.mem_of_getElem? (i := 111) rfl)
theorem wm1_112 : Cond.classLink "HedgeMessages$PostedMessages" 9 "HedgeMessages$Row" ∈ lw_tbl := in_t1 (List.mem_of_getElem? (i := 112) rfl)
theorem wm1_113 : Cond.methodLink "HedgeMessages$PostedMessages" 11 yX8_init ∈ lw_tbl := in_t1 (List.mem_of_getElem? (i := 113) rfl)
theorem wm1_114 : Cond.fieldLink "HedgeMessages$PostedMessages" 14 "HedgeMessages$PostedMessages" "senders" "LHedgeMessages$Row;" ∈ lw_tbl := in_t1 (List.mem_of_getElem? (i := 114) rfl)
theorem wm1_115 : Cond.fieldLinkNest "HedgeMessages$Hedge" 160 "HedgeMessages$PostedMessages" "senders" "LHedgeMessages$Row;" "HedgeMessages" ∈ lw_tbl := in_t1 (List.mem_of_getElem? (i := 115) rfl)
theorem wm1_116 : Cond.fieldLink "HedgeMessages$PostedMessages" 20 "HedgeMessages$PostedMessages" "starts" "LHedgeMessages$Row;" ∈ lw_tbl := in_t1 (List.mem_of_getElem? (i := 116) rfl)
theorem wm1_117 : Cond.fieldLinkNest "HedgeMessages$Hedge" 163 "HedgeMessages$PostedMessages" "starts" "LHedgeMessages$Row;" "HedgeMessages" ∈ lw_tbl := in_t1 (List.mem_of_getElem? (i := 117) rfl)
theorem wm1_118 : Cond.fieldLink "HedgeMessages$PostedMessages" 23 "HedgeMessages$PostedMessages" "lengths" "LHedgeMessages$Row;" ∈ lw_tbl := in_t1 (List.mem_of_getElem? (i := 118) rfl)
theorem wm1_119 : Cond.fieldLinkNest "HedgeMessages$Hedge" 166 "HedgeMessages$PostedMessages" "lengths" "LHedgeMessages$Row;" "HedgeMessages" ∈ lw_tbl := in_t1 (List.mem_of_getElem? (i := 119) rfl)
theorem wm1_120 : Cond.fieldLink "HedgeMessages$PostedMessages" 30 "HedgeMessages$PostedMessages" "count" "I" ∈ lw_tbl := in_t1 (List.mem_of_getElem? (i := 120) rfl)
theorem wm1_121 : Cond.fieldLinkNest "HedgeMessages$Hedge" 97 "HedgeMessages$PostedMessages" "count" "I" "HedgeMessages" ∈ lw_tbl := in_t1 (List.mem_of_getElem? (i := 121) rfl)
theorem wm1_122 : Cond.fieldLinkNest "HedgeMessages" 291 "HedgeMessages$PostedMessages" "count" "I" "HedgeMessages" ∈ lw_tbl := in_t1 (List.mem_of_getElem? (i := 122) rfl)
theorem wm1_123 : Cond.laysFinal "HedgeMessages$PostedMessages" "HedgeMessages$PostedMessages" "senders" "LHedgeMessages$Row;" ∈ lw_tbl := in_t1 (List.mem_of_getElem? (i := 123) rfl)
theorem wm1_125 : Cond.laysFinal "HedgeMessages$PostedMessages" "HedgeMessages$PostedMessages" "starts" "LHedgeMessages$Row;" ∈ lw_tbl := in_t1 (List.mem_of_getElem? (i := 125) rfl)
theorem wm1_127 : Cond.laysFinal "HedgeMessages$PostedMessages" "HedgeMessages$PostedMessages" "lengths" "LHedgeMessages$Row;" ∈ lw_tbl := in_t1 (List.mem_of_getElem? (i := 127) rfl)
theorem wm1_129 : Cond.lays "HedgeMessages$PostedMessages" "HedgeMessages$PostedMessages" "count" "I" ∈ lw_tbl := in_t1 (List.mem_of_getElem? (i := 129) rfl)
theorem wm1_132 : Cond.fieldLink "HedgeMessages$Hedge" 49 "HedgeMessages$Hedge" "slots" "I" ∈ lw_tbl := in_t1 (List.mem_of_getElem? (i := 132) rfl)
theorem wm1_133 : Cond.fieldLinkNest "HedgeMessages" 108 "HedgeMessages$Hedge" "slots" "I" "HedgeMessages" ∈ lw_tbl := in_t1 (List.mem_of_getElem? (i := 133) rfl)
theorem wm1_134 : Cond.fieldLinkNest "HedgeMessages$Configuration" 72 "HedgeMessages$Hedge" "slots" "I" "HedgeMessages" ∈ lw_tbl := in_t1 (List.mem_of_getElem? (i := 134) rfl)
theorem wm1_135 : Cond.fieldLink "HedgeMessages$Hedge" 53 "HedgeMessages$Hedge" "workLimit" "I" ∈ lw_tbl := in_t1 (List.mem_of_getElem? (i := 135) rfl)
theorem wm1_136 : Cond.fieldLinkNest "HedgeMessages" 139 "HedgeMessages$Hedge" "workLimit" "I" "HedgeMessages" ∈ lw_tbl := in_t1 (List.mem_of_getElem? (i := 136) rfl)
theorem wm1_137 : Cond.fieldLink "HedgeMessages$Hedge" 56 "HedgeMessages$Hedge" "growth" "I" ∈ lw_tbl := in_t1 (List.mem_of_getElem? (i := 137) rfl)
theorem wm1_138 : Cond.fieldLink "HedgeMessages$Hedge" 59 "HedgeMessages$Hedge" "legalLength" "I" ∈ lw_tbl := in_t1 (List.mem_of_getElem? (i := 138) rfl)
theorem wm1_139 : Cond.fieldLink "HedgeMessages$Hedge" 62 "HedgeMessages$Hedge" "interval" "I" ∈ lw_tbl := in_t1 (List.mem_of_getElem? (i := 139) rfl)
theorem wm1_140 : Cond.fieldLink "HedgeMessages$Hedge" 65 "HedgeMessages$Hedge" "yardSize" "I" ∈ lw_tbl := in_t1 (List.mem_of_getElem? (i := 140) rfl)
theorem wm1_141 : Cond.fieldLink "HedgeMessages$Hedge" 68 "HedgeMessages$Hedge" "day" "I" ∈ lw_tbl := in_t1 (List.mem_of_getElem? (i := 141) rfl)
theorem wm1_142 : Cond.fieldLinkNest "HedgeMessages" 132 "HedgeMessages$Hedge" "day" "I" "HedgeMessages" ∈ lw_tbl := in_t1 (List.mem_of_getElem? (i := 142) rfl)
theorem wm1_143 : Cond.fieldLink "HedgeMessages$Hedge" 71 "HedgeMessages$Hedge" "actions" "I" ∈ lw_tbl := in_t1 (List.mem_of_getElem? (i := 143) rfl)
theorem wm1_144 : Cond.fieldLinkNest "HedgeMessages" 142 "HedgeMessages$Hedge" "actions" "I" "HedgeMessages" ∈ lw_tbl := in_t1 (List.mem_of_getElem? (i := 144) rfl)
theorem wm1_145 : Cond.fieldLink "HedgeMessages$Hedge" 14 "HedgeMessages$Hedge" "letters" "LHedgeMessages$Row;" ∈ lw_tbl := in_t1 (List.mem_of_getElem? (i := 145) rfl)
theorem wm1_146 : Cond.fieldLinkNest "HedgeMessages" 154 "HedgeMessages$Hedge" "letters" "LHedgeMessages$Row;" "HedgeMessages" ∈ lw_tbl := in_t1 (List.mem_of_getElem? (i := 146) rfl)
theorem wm1_147 : Cond.fieldLink "HedgeMessages$Hedge" 20 "HedgeMessages$Hedge" "owners" "LHedgeMessages$Row;" ∈ lw_tbl := in_t1 (List.mem_of_getElem? (i := 147) rfl)
theorem wm1_148 : Cond.fieldLinkNest "HedgeMessages" 161 "HedgeMessages$Hedge" "owners" "LHedgeMessages$Row;" "HedgeMessages" ∈ lw_tbl := in_t1 (List.mem_of_getElem? (i := 148) rfl)
theorem wm1_149 : Cond.fieldLink "HedgeMessages$Hedge" 23 "HedgeMessages$Hedge" "lengths" "LHedgeMessages$Row;" ∈ lw_tbl := in_t1 (List.mem_of_getElem? (i := 149) rfl)
theorem wm1_150 : Cond.fieldLinkNest "HedgeMessages" 164 "HedgeMessages$Hedge" "lengths" "LHedgeMessages$Row;" "HedgeMessages" ∈ lw_tbl := in_t1 (List.mem_of_getElem? (i := 150) rfl)
theorem wm1_151 : Cond.fieldLink "HedgeMessages$Hedge" 26 "HedgeMessages$Hedge" "nests" "LHedgeMessages$Row;" ∈ lw_tbl := in_t1 (List.mem_of_getElem? (i := 151) rfl)
theorem wm1_152 : Cond.fieldLinkNest "HedgeMessages$Configuration" 85 "HedgeMessages$Hedge" "nests" "LHedgeMessages$Row;" "HedgeMessages" ∈ lw_tbl := in_t1 (List.mem_of_getElem? (i := 152) rfl)
theorem wm1_153 : Cond.fieldLinkNest "HedgeMessages" 170 "HedgeMessages$Hedge" "nests" "LHedgeMessages$Row;" "HedgeMessages" ∈ lw_tbl := in_t1 (List.mem_of_getElem? (i := 153) rfl)
theorem wm1_154 : Cond.fieldLink "HedgeMessages$Hedge" 29 "HedgeMessages$Hedge" "booked" "LHedgeMessages$Row;" ∈ lw_tbl := in_t1 (List.mem_of_getElem? (i := 154) rfl)
theorem wm1_155 : Cond.fieldLink "HedgeMessages$Hedge" 35 "HedgeMessages$Hedge" "first" "LHedgeMessages$Gardener;" ∈ lw_tbl := in_t1 (List.mem_of_getElem? (i := 155) rfl)
theorem wm1_156 : Cond.fieldLinkNest "HedgeMessages" 281 "HedgeMessages$Hedge" "first" "LHedgeMessages$Gardener;" "HedgeMessages" ∈ lw_tbl := in_t1 (List.mem_of_getElem? (i := 156) rfl)
theorem wm1_157 : Cond.fieldLink "HedgeMessages$Hedge" 39 "HedgeMessages$Hedge" "second" "LHedgeMessages$Gardener;" ∈ lw_tbl := in_t1 (List.mem_of_getElem? (i := 157) rfl)
theorem wm1_158 : Cond.fieldLinkNest "HedgeMessages" 288 "HedgeMessages$Hedge" "second" "LHedgeMessages$Gardener;" "HedgeMessages" ∈ lw_tbl := in_t1 (List.mem_of_getElem? (i := 158) rfl)
theorem wm1_159 : Cond.fieldLink "HedgeMessages$Hedge" 45 "HedgeMessages$Hedge" "posted" "LHedgeMessages$PostedMessages;" ∈ lw_tbl := in_t1 (List.mem_of_getElem? (i := 159) rfl)
theorem wm1_160 : Cond.fieldLinkNest "HedgeMessages" 205 "HedgeMessages$Hedge" "posted" "LHedgeMessages$PostedMessages;" "HedgeMessages" ∈ lw_tbl := in_t1 (List.mem_of_getElem? (i := 160) rfl)
theorem wm1_161 : Cond.fieldLink "HedgeMessages$Hedge" 84 "HedgeMessages$Hedge" "planted" "I" ∈ lw_tbl := in_t1 (List.mem_of_getElem? (i := 161) rfl)
theorem wm1_162 : Cond.fieldLinkNest "HedgeMessages" 272 "HedgeMessages$Hedge" "planted" "I" "HedgeMessages" ∈ lw_tbl := in_t1 (List.mem_of_getElem? (i := 162) rfl)
theorem wm1_163 : Cond.fieldLink "HedgeMessages$Hedge" 87 "HedgeMessages$Hedge" "pruned" "I" ∈ lw_tbl := in_t1 (List.mem_of_getElem? (i := 163) rfl)
theorem wm1_164 : Cond.fieldLinkNest "HedgeMessages" 275 "HedgeMessages$Hedge" "pruned" "I" "HedgeMessages" ∈ lw_tbl := in_t1 (List.mem_of_getElem? (i := 164) rfl)
theorem wm1_165 : Cond.fieldLink "HedgeMessages$Hedge" 90 "HedgeMessages$Hedge" "removed" "I" ∈ lw_tbl := in_t1 (List.mem_of_getElem? (i := 165) rfl)
theorem wm1_166 : Cond.fieldLinkNest "HedgeMessages" 278 "HedgeMessages$Hedge" "removed" "I" "HedgeMessages" ∈ lw_tbl := in_t1 (List.mem_of_getElem? (i := 166) rfl)
theorem wm1_167 : Cond.lays "HedgeMessages$Hedge" "HedgeMessages$Hedge" "slots" "I" ∈ lw_tbl := in_t1 (List.mem_of_getElem? (i := 167) rfl)
theorem wm1_169 : Cond.lays "HedgeMessages$Hedge" "HedgeMessages$Hedge" "workLimit" "I" ∈ lw_tbl := in_t1 (List.mem_of_getElem? (i := 169) rfl)
theorem wm1_171 : Cond.lays "HedgeMessages$Hedge" "HedgeMessages$Hedge" "growth" "I" ∈ lw_tbl := in_t1 (List.mem_of_getElem? (i := 171) rfl)
theorem wm1_173 : Cond.lays "HedgeMessages$Hedge" "HedgeMessages$Hedge" "legalLength" "I" ∈ lw_tbl := in_t1 (List.mem_of_getElem? (i := 173) rfl)
theorem wm1_175 : Cond.lays "HedgeMessages$Hedge" "HedgeMessages$Hedge" "interval" "I" ∈ lw_tbl := in_t1 (List.mem_of_getElem? (i := 175) rfl)
theorem wm1_177 : Cond.lays "HedgeMessages$Hedge" "HedgeMessages$Hedge" "yardSize" "I" ∈ lw_tbl := in_t1 (List.mem_of_getElem? (i := 177) rfl)
theorem wm1_179 : Cond.lays "HedgeMessages$Hedge" "HedgeMessages$Hedge" "day" "I" ∈ lw_tbl := in_t1 (List.mem_of_getElem? (i := 179) rfl)
theorem wm1_181 : Cond.lays "HedgeMessages$Hedge" "HedgeMessages$Hedge" "actions" "I" ∈ lw_tbl := in_t1 (List.mem_of_getElem? (i := 181) rfl)
theorem wm1_183 : Cond.laysFinal "HedgeMessages$Hedge" "HedgeMessages$Hedge" "letters" "LHedgeMessages$Row;" ∈ lw_tbl := in_t1 (List.mem_of_getElem? (i := 183) rfl)
theorem wm1_185 : Cond.laysFinal "HedgeMessages$Hedge" "HedgeMessages$Hedge" "owners" "LHedgeMessages$Row;" ∈ lw_tbl := in_t1 (List.mem_of_getElem? (i := 185) rfl)
theorem wm1_187 : Cond.laysFinal "HedgeMessages$Hedge" "HedgeMessages$Hedge" "lengths" "LHedgeMessages$Row;" ∈ lw_tbl := in_t1 (List.mem_of_getElem? (i := 187) rfl)
theorem wm1_189 : Cond.laysFinal "HedgeMessages$Hedge" "HedgeMessages$Hedge" "nests" "LHedgeMessages$Row;" ∈ lw_tbl := in_t1 (List.mem_of_getElem? (i := 189) rfl)
theorem wm1_191 : Cond.laysFinal "HedgeMessages$Hedge" "HedgeMessages$Hedge" "booked" "LHedgeMessages$Row;" ∈ lw_tbl := in_t1 (List.mem_of_getElem? (i := 191) rfl)
theorem wm1_193 : Cond.laysFinal "HedgeMessages$Hedge" "HedgeMessages$Hedge" "first" "LHedgeMessages$Gardener;" ∈ lw_tbl := in_t1 (List.mem_of_getElem? (i := 193) rfl)
theorem wm1_195 : Cond.laysFinal "HedgeMessages$Hedge" "HedgeMessages$Hedge" "second" "LHedgeMessages$Gardener;" ∈ lw_tbl := in_t1 (List.mem_of_getElem? (i := 195) rfl)
theorem wm1_197 : Cond.laysFinal "HedgeMessages$Hedge" "HedgeMessages$Hedge" "posted" "LHedgeMessages$PostedMessages;" ∈ lw_tbl := in_t1 (List.mem_of_getElem? (i := 197) rfl)
theorem wm1_199 : Cond.lays "HedgeMessages$Hedge" "HedgeMessages$Hedge" "planted" "I" ∈ lw_tbl := in_t1 (List.mem_of_getElem? (i := 199) rfl)
theorem wm1_201 : Cond.lays "HedgeMessages$Hedge" "HedgeMessages$Hedge" "pruned" "I" ∈ lw_tbl := in_t1 (List.mem_of_getElem? (i := 201) rfl)
theorem wm1_203 : Cond.lays "HedgeMessages$Hedge" "HedgeMessages$Hedge" "removed" "I" ∈ lw_tbl := in_t1 (List.mem_of_getElem? (i := 203) rfl)
theorem wm1_206 : Cond.classLink "HedgeMessages" 22 "HedgeMessages$History" ∈ lw_tbl := in_t1 (List.mem_of_getElem? (i := 206) rfl)
theorem wm1_207 : Cond.instantiable "HedgeMessages$History" 3 ∈ lw_tbl := in_t1 (List.mem_of_getElem? (i := 207) rfl)
theorem wm1_208 : Cond.methodLink "HedgeMessages" 24 yX6_init ∈ lw_tbl := in_t1 (List.mem_of_getElem? (i := 208) rfl)
theorem wm1_209 : Cond.instanceMethod yX6_init ∈ lw_tbl := in_t1 (List.mem_of_getElem? (i := 209) rfl)
theorem wm1_210 : Cond.code yX6_init prog_8_method_1_code 2 (Option.none : Option Jvm.ClassFile.FieldType) ∈ lw_tbl := in_t1 (List.mem_of_getElem? (i := 210) rfl)
theorem wm1_211 : Cond.methodLink "HedgeMessages$History" 3 ({ cls := "java/lang/Object", name := "<init>", desc := "()V" } : Jvm.MethodName) ∈ lw_tbl := in_t1 (List.mem_of_getElem? (i := 211) rfl)
theorem wm1_212 : Cond.classLink "HedgeMessages$History" 9 "HedgeMessages$Hedge" ∈ lw_tbl := in_t1 (List.mem_of_getElem? (i := 212) rfl)
theorem wm1_214 : Cond.methodLink "HedgeMessages$History" 17 yX5_init ∈ lw_tbl := in_t1 (List.mem_of_getElem? (i := 214) rfl)
theorem wm1_215 : Cond.fieldLink "HedgeMessages$History" 11 "HedgeMessages$History" "states" "[LHedgeMessages$Hedge;" ∈ lw_tbl := in_t1 (List.mem_of_getElem? (i := 215) rfl)
theorem wm1_216 : Cond.fieldLink "HedgeMessages$History" 22 "HedgeMessages$History" "next" "I" ∈ lw_tbl := in_t1 (List.mem_of_getElem? (i := 216) rfl)
theorem wm1_217 : Cond.fieldLink "HedgeMessages$History" 18 "HedgeMessages$History" "count" "I" ∈ lw_tbl := in_t1 (List.mem_of_getElem? (i := 217) rfl)
theorem wm1_218 : Cond.fieldLinkNest "HedgeMessages" 367 "HedgeMessages$History" "count" "I" "HedgeMessages" ∈ lw_tbl := in_t1 (List.mem_of_getElem? (i := 218) rfl)
theorem wm1_219 : Cond.laysFinal "HedgeMessages$History" "HedgeMessages$History" "states" "[LHedgeMessages$Hedge;" ∈ lw_tbl := in_t1 (List.mem_of_getElem? (i := 219) rfl)
theorem wm1_221 : Cond.lays "HedgeMessages$History" "HedgeMessages$History" "next" "I" ∈ lw_tbl := in_t1 (List.mem_of_getElem? (i := 221) rfl)
theorem wm1_223 : Cond.lays "HedgeMessages$History" "HedgeMessages$History" "count" "I" ∈ lw_tbl := in_t1 (List.mem_of_getElem? (i := 223) rfl)
theorem wm1_226 : Cond.classLink "HedgeMessages" 29 "HedgeMessages$Text" ∈ lw_tbl := in_t1 (List.mem_of_getElem? (i := 226) rfl)
theorem wm1_227 : Cond.instantiable "HedgeMessages$Text" 9 ∈ lw_tbl := in_t1 (List.mem_of_getElem? (i := 227) rfl)
theorem wm1_228 : Cond.methodLink "HedgeMessages" 31 yX9_init ∈ lw_tbl := in_t1 (List.mem_of_getElem? (i := 228) rfl)
theorem wm1_229 : Cond.instanceMethod yX9_init ∈ lw_tbl := in_t1 (List.mem_of_getElem? (i := 229) rfl)
theorem wm1_230 : Cond.code yX9_init prog_11_method_1_code 1 (Option.none : Option Jvm.ClassFile.FieldType) ∈ lw_tbl := in_t1 (List.mem_of_getElem? (i := 230) rfl)
theorem wm1_231 : Cond.methodLink "HedgeMessages$Text" 3 ({ cls := "java/lang/Object", name := "<init>", desc := "()V" } : Jvm.MethodName) ∈ lw_tbl := in_t1 (List.mem_of_getElem? (i := 231) rfl)
theorem wm1_232 : Cond.classLink "HedgeMessages$Text" 9 "HedgeMessages$Row" ∈ lw_tbl := in_t1 (List.mem_of_getElem? (i := 232) rfl)
theorem wm1_233 : Cond.methodLink "HedgeMessages$Text" 11 yX8_init ∈ lw_tbl := in_t1 (List.mem_of_getElem? (i := 233) rfl)
theorem wm1_234 : Cond.fieldLink "HedgeMessages$Text" 14 "HedgeMessages$Text" "bytes" "LHedgeMessages$Row;" ∈ lw_tbl := in_t1 (List.mem_of_getElem? (i := 234) rfl)
theorem wm1_235 : Cond.fieldLinkNest "HedgeMessages$Configuration" 109 "HedgeMessages$Text" "bytes" "LHedgeMessages$Row;" "HedgeMessages" ∈ lw_tbl := in_t1 (List.mem_of_getElem? (i := 235) rfl)
theorem wm1_236 : Cond.fieldLinkNest "HedgeMessages" 346 "HedgeMessages$Text" "bytes" "LHedgeMessages$Row;" "HedgeMessages" ∈ lw_tbl := in_t1 (List.mem_of_getElem? (i := 236) rfl)
theorem wm1_237 : Cond.fieldLinkNest "HedgeMessages" 74 "HedgeMessages$Text" "length" "I" "HedgeMessages" ∈ lw_tbl := in_t1 (List.mem_of_getElem? (i := 237) rfl)
theorem wm1_238 : Cond.fieldLink "HedgeMessages$Text" 24 "HedgeMessages$Text" "length" "I" ∈ lw_tbl := in_t1 (List.mem_of_getElem? (i := 238) rfl)
theorem wm1_239 : Cond.fieldLink "HedgeMessages$Text" 39 "HedgeMessages$Text" "position" "I" ∈ lw_tbl := in_t1 (List.mem_of_getElem? (i := 239) rfl)
theorem wm2_0 : Cond.fieldLink "HedgeMessages$Text" 48 "HedgeMessages$Text" "kind" "I" ∈ lw_tbl := in_t2 (List.mem_of_getElem? (i := 0) rfl)
theorem wm2_1 : Cond.fieldLink "HedgeMessages$Text" 45 "HedgeMessages$Text" "start" "I" ∈ lw_tbl := in_t2 (List.mem_of_getElem? (i := 1) rfl)
theorem wm2_2 : Cond.fieldLinkNest "HedgeMessages$CommandList" 97 "HedgeMessages$Text" "start" "I" "HedgeMessages" ∈ lw_tbl := in_t2 (List.mem_of_getElem? (i := 2) rfl)
theorem wm2_3 : Cond.fieldLinkNest "HedgeMessages$Configuration" 112 "HedgeMessages$Text" "start" "I" "HedgeMessages" ∈ lw_tbl := in_t2 (List.mem_of_getElem? (i := 3) rfl)
theorem wm2_4 : Cond.fieldLinkNest "HedgeMessages$CommandList" 100 "HedgeMessages$Text" "size" "I" "HedgeMessages" ∈ lw_tbl := in_t2 (List.mem_of_getElem? (i := 4) rfl)
theorem wm2_5 : Cond.fieldLink "HedgeMessages$Text" 54 "HedgeMessages$Text" "size" "I" ∈ lw_tbl := in_t2 (List.mem_of_getElem? (i := 5) rfl)
theorem wm2_6 : Cond.fieldLinkNest "HedgeMessages$Configuration" 115 "HedgeMessages$Text" "size" "I" "HedgeMessages" ∈ lw_tbl := in_t2 (List.mem_of_getElem? (i := 6) rfl)
theorem wm2_7 : Cond.fieldLinkNest "HedgeMessages$Configuration" 44 "HedgeMessages$Text" "value" "I" "HedgeMessages" ∈ lw_tbl := in_t2 (List.mem_of_getElem? (i := 7) rfl)
theorem wm2_8 : Cond.fieldLinkNest "HedgeMessages$CommandList" 84 "HedgeMessages$Text" "value" "I" "HedgeMessages" ∈ lw_tbl := in_t2 (List.mem_of_getElem? (i := 8) rfl)
theorem wm2_9 : Cond.fieldLink "HedgeMessages$Text" 72 "HedgeMessages$Text" "value" "I" ∈ lw_tbl := in_t2 (List.mem_of_getElem? (i := 9) rfl)
theorem wm2_10 : Cond.fieldLink "HedgeMessages$Text" 42 "HedgeMessages$Text" "errorCode" "I" ∈ lw_tbl := in_t2 (List.mem_of_getElem? (i := 10) rfl)
theorem wm2_11 : Cond.fieldLinkNest "HedgeMessages" 126 "HedgeMessages$Text" "errorCode" "I" "HedgeMessages" ∈ lw_tbl := in_t2 (List.mem_of_getElem? (i := 11) rfl)
theorem wm2_12 : Cond.fieldLink "HedgeMessages$Text" 20 "HedgeMessages$Text" "errorPosition" "I" ∈ lw_tbl := in_t2 (List.mem_of_getElem? (i := 12) rfl)
theorem wm2_13 : Cond.fieldLinkNest "HedgeMessages" 129 "HedgeMessages$Text" "errorPosition" "I" "HedgeMessages" ∈ lw_tbl := in_t2 (List.mem_of_getElem? (i := 13) rfl)
theorem wm2_14 : Cond.laysFinal "HedgeMessages$Text" "HedgeMessages$Text" "bytes" "LHedgeMessages$Row;" ∈ lw_tbl := in_t2 (List.mem_of_getElem? (i := 14) rfl)
theorem wm2_16 : Cond.lays "HedgeMessages$Text" "HedgeMessages$Text" "length" "I" ∈ lw_tbl := in_t2 (List.mem_of_getElem? (i := 16) rfl)
theorem wm2_18 : Cond.lays "HedgeMessages$Text" "HedgeMessages$Text" "position" "I" ∈ lw_tbl := in_t2 (List.mem_of_getElem? (i := 18) rfl)
theorem wm2_20 : Cond.lays "HedgeMessages$Text" "HedgeMessages$Text" "kind" "I" ∈ lw_tbl := in_t2 (List.mem_of_getElem? (i := 20) rfl)
theorem wm2_22 : Cond.lays "HedgeMessages$Text" "HedgeMessages$Text" "start" "I" ∈ lw_tbl := in_t2 (List.mem_of_getElem? (i := 22) rfl)
theorem wm2_24 : Cond.lays "HedgeMessages$Text" "HedgeMessages$Text" "size" "I" ∈ lw_tbl := in_t2 (List.mem_of_getElem? (i := 24) rfl)
theorem wm2_26 : Cond.lays "HedgeMessages$Text" "HedgeMessages$Text" "value" "I" ∈ lw_tbl := in_t2 (List.mem_of_getElem? (i := 26) rfl)
theorem wm2_28 : Cond.lays "HedgeMessages$Text" "HedgeMessages$Text" "errorCode" "I" ∈ lw_tbl := in_t2 (List.mem_of_getElem? (i := 28) rfl)
theorem wm2_30 : Cond.lays "HedgeMessages$Text" "HedgeMessages$Text" "errorPosition" "I" ∈ lw_tbl := in_t2 (List.mem_of_getElem? (i := 30) rfl)
theorem wm2_33 : Cond.classLink "HedgeMessages" 36 "HedgeMessages$CommandList" ∈ lw_tbl := in_t2 (List.mem_of_getElem? (i := 33) rfl)
theorem wm2_34 : Cond.instantiable "HedgeMessages$CommandList" 5 ∈ lw_tbl := in_t2 (List.mem_of_getElem? (i := 34) rfl)
theorem wm2_35 : Cond.methodLink "HedgeMessages" 38 yX2_init ∈ lw_tbl := in_t2 (List.mem_of_getElem? (i := 35) rfl)
theorem wm2_36 : Cond.instanceMethod yX2_init ∈ lw_tbl := in_t2 (List.mem_of_getElem? (i := 36) rfl)
theorem wm2_37 : Cond.code yX2_init prog_4_method_1_code 1 (Option.none : Option Jvm.ClassFile.FieldType) ∈ lw_tbl := in_t2 (List.mem_of_getElem? (i := 37) rfl)
theorem wm2_38 : Cond.methodLink "HedgeMessages$CommandList" 3 ({ cls := "java/lang/Object", name := "<init>", desc := "()V" } : Jvm.MethodName) ∈ lw_tbl := in_t2 (List.mem_of_getElem? (i := 38) rfl)
theorem wm2_39 : Cond.classLink "HedgeMessages$CommandList" 9 "HedgeMessages$CommandForm" ∈ lw_tbl := in_t2 (List.mem_of_getElem? (i := 39) rfl)
theorem wm2_41 : Cond.classLink "HedgeMessages$CommandList" 17 "HedgeMessages$Row" ∈ lw_tbl := in_t2 (List.mem_of_getElem? (i := 41) rfl)
theorem wm2_42 : Cond.methodLink "HedgeMessages$CommandList" 19 yX8_init ∈ lw_tbl := in_t2 (List.mem_of_getElem? (i := 42) rfl)
theorem wm2_43 : Cond.fieldLink "HedgeMessages$CommandList" 11 "HedgeMessages$CommandList" "forms" "[LHedgeMessages$CommandForm;" ∈ lw_tbl := in_t2 (List.mem_of_getElem? (i := 43) rfl)
theorem wm2_44 : Cond.fieldLink "HedgeMessages$CommandList" 22 "HedgeMessages$CommandList" "arguments" "LHedgeMessages$Row;" ∈ lw_tbl := in_t2 (List.mem_of_getElem? (i := 44) rfl)
theorem wm2_45 : Cond.fieldLinkNest "HedgeMessages" 404 "HedgeMessages$CommandList" "arguments" "LHedgeMessages$Row;" "HedgeMessages" ∈ lw_tbl := in_t2 (List.mem_of_getElem? (i := 45) rfl)
theorem wm2_46 : Cond.fieldLink "HedgeMessages$CommandList" 26 "HedgeMessages$CommandList" "seconds" "LHedgeMessages$Row;" ∈ lw_tbl := in_t2 (List.mem_of_getElem? (i := 46) rfl)
theorem wm2_47 : Cond.fieldLinkNest "HedgeMessages" 407 "HedgeMessages$CommandList" "seconds" "LHedgeMessages$Row;" "HedgeMessages" ∈ lw_tbl := in_t2 (List.mem_of_getElem? (i := 47) rfl)
theorem wm2_48 : Cond.fieldLink "HedgeMessages$CommandList" 29 "HedgeMessages$CommandList" "wordLengths" "LHedgeMessages$Row;" ∈ lw_tbl := in_t2 (List.mem_of_getElem? (i := 48) rfl)
theorem wm2_49 : Cond.fieldLinkNest "HedgeMessages" 425 "HedgeMessages$CommandList" "wordLengths" "LHedgeMessages$Row;" "HedgeMessages" ∈ lw_tbl := in_t2 (List.mem_of_getElem? (i := 49) rfl)
theorem wm2_50 : Cond.fieldLink "HedgeMessages$CommandList" 37 "HedgeMessages$CommandList" "count" "I" ∈ lw_tbl := in_t2 (List.mem_of_getElem? (i := 50) rfl)
theorem wm2_51 : Cond.fieldLinkNest "HedgeMessages" 117 "HedgeMessages$CommandList" "count" "I" "HedgeMessages" ∈ lw_tbl := in_t2 (List.mem_of_getElem? (i := 51) rfl)
theorem wm2_52 : Cond.laysFinal "HedgeMessages$CommandList" "HedgeMessages$CommandList" "forms" "[LHedgeMessages$CommandForm;" ∈ lw_tbl := in_t2 (List.mem_of_getElem? (i := 52) rfl)
theorem wm2_54 : Cond.laysFinal "HedgeMessages$CommandList" "HedgeMessages$CommandList" "arguments" "LHedgeMessages$Row;" ∈ lw_tbl := in_t2 (List.mem_of_getElem? (i := 54) rfl)
theorem wm2_56 : Cond.laysFinal "HedgeMessages$CommandList" "HedgeMessages$CommandList" "seconds" "LHedgeMessages$Row;" ∈ lw_tbl := in_t2 (List.mem_of_getElem? (i := 56) rfl)
theorem wm2_58 : Cond.laysFinal "HedgeMessages$CommandList" "HedgeMessages$CommandList" "wordLengths" "LHedgeMessages$Row;" ∈ lw_tbl := in_t2 (List.mem_of_getElem? (i := 58) rfl)
theorem wm2_60 : Cond.lays "HedgeMessages$CommandList" "HedgeMessages$CommandList" "count" "I" ∈ lw_tbl := in_t2 (List.mem_of_getElem? (i := 60) rfl)
theorem wm2_63 : Cond.classLink "HedgeMessages" 43 "HedgeMessages$Row" ∈ lw_tbl := in_t2 (List.mem_of_getElem? (i := 63) rfl)
theorem wm2_64 : Cond.methodLink "HedgeMessages" 45 yX8_init ∈ lw_tbl := in_t2 (List.mem_of_getElem? (i := 64) rfl)
theorem wm2_65 : Cond.methodLink "HedgeMessages" 52 yX5_layOut ∈ lw_tbl := in_t2 (List.mem_of_getElem? (i := 65) rfl)
theorem wm2_66 : Cond.instanceMethod yX5_layOut ∈ lw_tbl := in_t2 (List.mem_of_getElem? (i := 66) rfl)
theorem wm2_67 : Cond.selects "HedgeMessages$Hedge" yX5_layOut yX5_layOut ∈ lw_tbl := in_t2 (List.mem_of_getElem? (i := 67) rfl)
theorem wm2_68 : Cond.code yX5_layOut prog_7_method_3_code 7 (Option.none : Option Jvm.ClassFile.FieldType) ∈ lw_tbl := in_t2 (List.mem_of_getElem? (i := 68) rfl)
theorem wm2_69 : Cond.methodLink "HedgeMessages$Hedge" 93 yX8_clear ∈ lw_tbl := in_t2 (List.mem_of_getElem? (i := 69) rfl)
theorem wm2_70 : Cond.instanceMethod yX8_clear ∈ lw_tbl := in_t2 (List.mem_of_getElem? (i := 70) rfl)
theorem wm2_71 : Cond.selects "HedgeMessages$Row" yX8_clear yX8_clear ∈ lw_tbl := in_t2 (List.mem_of_getElem? (i := 71) rfl)
theorem wm2_72 : Cond.code yX8_clear prog_10_method_4_code 2 (Option.none : Option Jvm.ClassFile.FieldType) ∈ lw_tbl := in_t2 (List.mem_of_getElem? (i := 72) rfl)
theorem wm2_73 : Cond.methodLink "HedgeMessages$Hedge" 96 yX4_clear ∈ lw_tbl := in_t2 (List.mem_of_getElem? (i := 73) rfl)
theorem wm2_74 : Cond.instanceMethod yX4_clear ∈ lw_tbl := in_t2 (List.mem_of_getElem? (i := 74) rfl)
theorem wm2_75 : Cond.selects "HedgeMessages$Gardener" yX4_clear yX4_clear ∈ lw_tbl := in_t2 (List.mem_of_getElem? (i := 75) rfl)
theorem wm2_76 : Cond.code yX4_clear prog_6_method_2_code 1 (Option.none : Option Jvm.ClassFile.FieldType) ∈ lw_tbl := in_t2 (List.mem_of_getElem? (i := 76) rfl)
theorem wm2_77 : Cond.methodLink "HedgeMessages$Gardener" 27 yX4_stopWriting ∈ lw_tbl := in_t2 (List.mem_of_getElem? (i := 77) rfl)
theorem wm2_78 : Cond.instanceMethod yX4_stopWriting ∈ lw_tbl := in_t2 (List.mem_of_getElem? (i := 78) rfl)
theorem wm2_79 : Cond.selects "HedgeMessages$Gardener" yX4_stopWriting yX4_stopWriting ∈ lw_tbl := in_t2 (List.mem_of_getElem? (i := 79) rfl)
theorem wm2_80 : Cond.code yX4_stopWriting prog_6_method_5_code 1 (Option.none : Option Jvm.ClassFile.FieldType) ∈ lw_tbl := in_t2 (List.mem_of_getElem? (i := 80) rfl)
theorem wm2_81 : Cond.methodLink "HedgeMessages" 56 yX5_placeTwig ∈ lw_tbl := in_t2 (List.mem_of_getElem? (i := 81) rfl)
theorem wm2_82 : Cond.instanceMethod yX5_placeTwig ∈ lw_tbl := in_t2 (List.mem_of_getElem? (i := 82) rfl)
theorem wm2_83 : Cond.selects "HedgeMessages$Hedge" yX5_placeTwig yX5_placeTwig ∈ lw_tbl := in_t2 (List.mem_of_getElem? (i := 83) rfl)
theorem wm2_84 : Cond.code yX5_placeTwig prog_7_method_4_code 5 (Option.none : Option Jvm.ClassFile.FieldType) ∈ lw_tbl := in_t2 (List.mem_of_getElem? (i := 84) rfl)
theorem wm2_85 : Cond.methodLink "HedgeMessages$Hedge" 100 yX8_set ∈ lw_tbl := in_t2 (List.mem_of_getElem? (i := 85) rfl)
theorem wm2_86 : Cond.instanceMethod yX8_set ∈ lw_tbl := in_t2 (List.mem_of_getElem? (i := 86) rfl)
theorem wm2_87 : Cond.selects "HedgeMessages$Row" yX8_set yX8_set ∈ lw_tbl := in_t2 (List.mem_of_getElem? (i := 87) rfl)
theorem wm2_88 : Cond.code yX8_set prog_10_method_3_code 3 (Option.none : Option Jvm.ClassFile.FieldType) ∈ lw_tbl := in_t2 (List.mem_of_getElem? (i := 88) rfl)
theorem wm2_89 : Cond.methodLink "HedgeMessages" 60 yX5_placeNest ∈ lw_tbl := in_t2 (List.mem_of_getElem? (i := 89) rfl)
theorem wm2_90 : Cond.instanceMethod yX5_placeNest ∈ lw_tbl := in_t2 (List.mem_of_getElem? (i := 90) rfl)
theorem wm2_91 : Cond.selects "HedgeMessages$Hedge" yX5_placeNest yX5_placeNest ∈ lw_tbl := in_t2 (List.mem_of_getElem? (i := 91) rfl)
theorem wm2_92 : Cond.code yX5_placeNest prog_7_method_5_code 3 (Option.none : Option Jvm.ClassFile.FieldType) ∈ lw_tbl := in_t2 (List.mem_of_getElem? (i := 92) rfl)
theorem wm2_94 : Cond.methodLink "HedgeMessages" 66 yX5_receiveText ∈ lw_tbl := in_t2 (List.mem_of_getElem? (i := 94) rfl)
theorem wm2_95 : Cond.instanceMethod yX5_receiveText ∈ lw_tbl := in_t2 (List.mem_of_getElem? (i := 95) rfl)
theorem wm2_96 : Cond.selects "HedgeMessages$Hedge" yX5_receiveText yX5_receiveText ∈ lw_tbl := in_t2 (List.mem_of_getElem? (i := 96) rfl)
theorem wm2_97 : Cond.code yX5_receiveText prog_7_method_7_code 5 (Option.none : Option Jvm.ClassFile.FieldType) ∈ lw_tbl := in_t2 (List.mem_of_getElem? (i := 97) rfl)
theorem wm2_98 : Cond.methodLink "HedgeMessages$Hedge" 115 yJ0_length_8abf5 ∈ lw_tbl := in_t2 (List.mem_of_getElem? (i := 98) rfl)
theorem wm2_99 : Cond.instanceMethod yJ0_length_8abf5 ∈ lw_tbl := in_t2 (List.mem_of_getElem? (i := 99) rfl)
theorem wm2_100 : Cond.selects "java/lang/String" yJ0_length_8abf5 yJ0_length_8abf5 ∈ lw_tbl := in_t2 (List.mem_of_getElem? (i := 100) rfl)
theorem wm2_101 : Cond.code yJ0_length_8abf5 prog_21_method_54_code 1 (Option.some Jvm.ClassFile.FieldType.int) ∈ lw_tbl := in_t2 (List.mem_of_getElem? (i := 101) rfl)
theorem wm2_102 : Cond.methodLink "java/lang/String" 335 yJ0_coder_7d493 ∈ lw_tbl := in_t2 (List.mem_of_getElem? (i := 102) rfl)
theorem wm2_103 : Cond.instanceMethod yJ0_coder_7d493 ∈ lw_tbl := in_t2 (List.mem_of_getElem? (i := 103) rfl)
theorem wm2_104 : Cond.selects "java/lang/String" yJ0_coder_7d493 yJ0_coder_7d493 ∈ lw_tbl := in_t2 (List.mem_of_getElem? (i := 104) rfl)
theorem wm2_105 : Cond.code yJ0_coder_7d493 prog_21_method_152_code 1 (Option.some Jvm.ClassFile.FieldType.byte) ∈ lw_tbl := in_t2 (List.mem_of_getElem? (i := 105) rfl)
theorem wm2_106 : Cond.fieldLink "java/lang/String" 38 "java/lang/String" "COMPACT_STRINGS" "Z" ∈ lw_tbl := in_t2 (List.mem_of_getElem? (i := 106) rfl)
theorem wm2_108 : Cond.methodLink "HedgeMessages$Hedge" 121 yJ0_charAt_5068e ∈ lw_tbl := in_t2 (List.mem_of_getElem? (i := 108) rfl)
theorem wm2_109 : Cond.instanceMethod yJ0_charAt_5068e ∈ lw_tbl := in_t2 (List.mem_of_getElem? (i := 109) rfl)
theorem wm2_110 : Cond.selects "java/lang/String" yJ0_charAt_5068e yJ0_charAt_5068e ∈ lw_tbl := in_t2 (List.mem_of_getElem? (i := 110) rfl)
theorem wm2_111 : Cond.code yJ0_charAt_5068e prog_21_method_56_code 2 (Option.some Jvm.ClassFile.FieldType.char) ∈ lw_tbl := in_t2 (List.mem_of_getElem? (i := 111) rfl)
theorem wm2_112 : Cond.methodLink "java/lang/String" 492 yJ0_isLatin1_aae02 ∈ lw_tbl := in_t2 (List.mem_of_getElem? (i := 112) rfl)
theorem wm2_113 : Cond.instanceMethod yJ0_isLatin1_aae02 ∈ lw_tbl := in_t2 (List.mem_of_getElem? (i := 113) rfl)
theorem wm2_114 : Cond.selects "java/lang/String" yJ0_isLatin1_aae02 yJ0_isLatin1_aae02 ∈ lw_tbl := in_t2 (List.mem_of_getElem? (i := 114) rfl)
theorem wm2_115 : Cond.code yJ0_isLatin1_aae02 prog_21_method_154_code 1 (Option.some Jvm.ClassFile.FieldType.boolean) ∈ lw_tbl := in_t2 (List.mem_of_getElem? (i := 115) rfl)
theorem wm2_116 : Cond.methodLink "java/lang/String" 495 yJ1_charAt_3b067 ∈ lw_tbl := in_t2 (List.mem_of_getElem? (i := 116) rfl)
theorem wm2_117 : Cond.static yJ1_charAt_3b067 ∈ lw_tbl := in_t2 (List.mem_of_getElem? (i := 117) rfl)
theorem wm2_118 : Cond.code yJ1_charAt_3b067 prog_22_method_2_code 2 (Option.some Jvm.ClassFile.FieldType.char) ∈ lw_tbl := in_t2 (List.mem_of_getElem? (i := 118) rfl)
theorem wm2_119 : Cond.methodLink "java/lang/StringLatin1" 9 yJ0_checkIndex_df160 ∈ lw_tbl := in_t2 (List.mem_of_getElem? (i := 119) rfl)
theorem wm2_120 : Cond.static yJ0_checkIndex_df160 ∈ lw_tbl := in_t2 (List.mem_of_getElem? (i := 120) rfl)
theorem wm2_121 : Cond.code yJ0_checkIndex_df160 prog_21_method_155_code 2 (Option.none : Option Jvm.ClassFile.FieldType) ∈ lw_tbl := in_t2 (List.mem_of_getElem? (i := 121) rfl)
theorem wm2_122 : Cond.fieldLink "java/lang/String" 1053 "jdk/internal/util/Preconditions" "SIOOBE_FORMATTER" "Ljava/util/function/BiFunction;" ∈ lw_tbl := in_t2 (List.mem_of_getElem? (i := 122) rfl)
theorem wm2_124 : Cond.methodLink "java/lang/String" 1059 yJ3_checkIndex_8e157 ∈ lw_tbl := in_t2 (List.mem_of_getElem? (i := 124) rfl)
theorem wm2_125 : Cond.static yJ3_checkIndex_8e157 ∈ lw_tbl := in_t2 (List.mem_of_getElem? (i := 125) rfl)
theorem wm2_126 : Cond.code yJ3_checkIndex_8e157 prog_26_method_11_code 3 (Option.some Jvm.ClassFile.FieldType.int) ∈ lw_tbl := in_t2 (List.mem_of_getElem? (i := 126) rfl)
theorem wm2_127 : Cond.methodLink "java/lang/String" 498 yJ2_charAt_3b067 ∈ lw_tbl := in_t2 (List.mem_of_getElem? (i := 127) rfl)
theorem wm2_128 : Cond.static yJ2_charAt_3b067 ∈ lw_tbl := in_t2 (List.mem_of_getElem? (i := 128) rfl)
theorem wm2_129 : Cond.code yJ2_charAt_3b067 prog_23_method_83_code 2 (Option.some Jvm.ClassFile.FieldType.char) ∈ lw_tbl := in_t2 (List.mem_of_getElem? (i := 129) rfl)
theorem wm2_130 : Cond.methodLink "java/lang/StringUTF16" 67 yJ2_checkIndex_2214a ∈ lw_tbl := in_t2 (List.mem_of_getElem? (i := 130) rfl)
theorem wm2_131 : Cond.static yJ2_checkIndex_2214a ∈ lw_tbl := in_t2 (List.mem_of_getElem? (i := 131) rfl)
theorem wm2_132 : Cond.code yJ2_checkIndex_2214a prog_23_method_91_code 2 (Option.none : Option Jvm.ClassFile.FieldType) ∈ lw_tbl := in_t2 (List.mem_of_getElem? (i := 132) rfl)
theorem wm2_133 : Cond.methodLink "java/lang/StringUTF16" 48 yJ2_length_9d52b ∈ lw_tbl := in_t2 (List.mem_of_getElem? (i := 133) rfl)
theorem wm2_134 : Cond.static yJ2_length_9d52b ∈ lw_tbl := in_t2 (List.mem_of_getElem? (i := 134) rfl)
theorem wm2_135 : Cond.code yJ2_length_9d52b prog_23_method_6_code 1 (Option.some Jvm.ClassFile.FieldType.int) ∈ lw_tbl := in_t2 (List.mem_of_getElem? (i := 135) rfl)
theorem wm2_136 : Cond.methodLink "java/lang/StringUTF16" 414 yJ0_checkIndex_df160 ∈ lw_tbl := in_t2 (List.mem_of_getElem? (i := 136) rfl)
theorem wm2_137 : Cond.methodLink "java/lang/StringUTF16" 71 yJ2_getChar_3b067 ∈ lw_tbl := in_t2 (List.mem_of_getElem? (i := 137) rfl)
theorem wm2_138 : Cond.static yJ2_getChar_3b067 ∈ lw_tbl := in_t2 (List.mem_of_getElem? (i := 138) rfl)
theorem wm2_139 : Cond.code yJ2_getChar_3b067 prog_23_method_5_code 2 (Option.some Jvm.ClassFile.FieldType.char) ∈ lw_tbl := in_t2 (List.mem_of_getElem? (i := 139) rfl)
theorem wm2_140 : Cond.fieldLink "java/lang/StringUTF16" 44 "java/lang/StringUTF16" "$assertionsDisabled" "Z" ∈ lw_tbl := in_t2 (List.mem_of_getElem? (i := 140) rfl)
theorem wm2_142 : Cond.fieldLink "java/lang/StringUTF16" 59 "java/lang/StringUTF16" "HI_BYTE_SHIFT" "I" ∈ lw_tbl := in_t2 (List.mem_of_getElem? (i := 142) rfl)
theorem wm2_144 : Cond.fieldLink "java/lang/StringUTF16" 63 "java/lang/StringUTF16" "LO_BYTE_SHIFT" "I" ∈ lw_tbl := in_t2 (List.mem_of_getElem? (i := 144) rfl)
theorem wm2_146 : Cond.methodLink "HedgeMessages$Hedge" 125 yX5_receive ∈ lw_tbl := in_t2 (List.mem_of_getElem? (i := 146) rfl)
theorem wm2_147 : Cond.instanceMethod yX5_receive ∈ lw_tbl := in_t2 (List.mem_of_getElem? (i := 147) rfl)
theorem wm2_148 : Cond.selects "HedgeMessages$Hedge" yX5_receive yX5_receive ∈ lw_tbl := in_t2 (List.mem_of_getElem? (i := 148) rfl)
theorem wm2_149 : Cond.code yX5_receive prog_7_method_6_code 6 (Option.none : Option Jvm.ClassFile.FieldType) ∈ lw_tbl := in_t2 (List.mem_of_getElem? (i := 149) rfl)
theorem wm2_150 : Cond.methodLink "HedgeMessages$Hedge" 104 yX5_gardener ∈ lw_tbl := in_t2 (List.mem_of_getElem? (i := 150) rfl)
theorem wm2_151 : Cond.instanceMethod yX5_gardener ∈ lw_tbl := in_t2 (List.mem_of_getElem? (i := 151) rfl)
theorem wm2_152 : Cond.selects "HedgeMessages$Hedge" yX5_gardener yX5_gardener ∈ lw_tbl := in_t2 (List.mem_of_getElem? (i := 152) rfl)
theorem wm2_153 : Cond.code yX5_gardener prog_7_method_12_code 2 (Option.some (Jvm.ClassFile.FieldType.object "HedgeMessages$Gardener")) ∈ lw_tbl := in_t2 (List.mem_of_getElem? (i := 153) rfl)
theorem wm2_154 : Cond.methodLink "HedgeMessages$Hedge" 108 yX4_enqueue ∈ lw_tbl := in_t2 (List.mem_of_getElem? (i := 154) rfl)
theorem wm2_155 : Cond.instanceMethod yX4_enqueue ∈ lw_tbl := in_t2 (List.mem_of_getElem? (i := 155) rfl)
theorem wm2_156 : Cond.selects "HedgeMessages$Gardener" yX4_enqueue yX4_enqueue ∈ lw_tbl := in_t2 (List.mem_of_getElem? (i := 156) rfl)
theorem wm2_157 : Cond.code yX4_enqueue prog_6_method_9_code 4 (Option.none : Option Jvm.ClassFile.FieldType) ∈ lw_tbl := in_t2 (List.mem_of_getElem? (i := 157) rfl)
theorem wm2_158 : Cond.methodLink "HedgeMessages$Gardener" 66 yX8_copyPart ∈ lw_tbl := in_t2 (List.mem_of_getElem? (i := 158) rfl)
theorem wm2_159 : Cond.instanceMethod yX8_copyPart ∈ lw_tbl := in_t2 (List.mem_of_getElem? (i := 159) rfl)
theorem wm2_160 : Cond.selects "HedgeMessages$Row" yX8_copyPart yX8_copyPart ∈ lw_tbl := in_t2 (List.mem_of_getElem? (i := 160) rfl)
theorem wm2_161 : Cond.code yX8_copyPart prog_10_method_6_code 6 (Option.none : Option Jvm.ClassFile.FieldType) ∈ lw_tbl := in_t2 (List.mem_of_getElem? (i := 161) rfl)
theorem wm2_162 : Cond.methodLink "HedgeMessages$Row" 17 ({ cls := "java/lang/System", name := "arraycopy", desc := "(Ljava/lang/Object;ILjava/lang/Object;II)V" } : Jvm.MethodName) ∈ lw_tbl := in_t2 (List.mem_of_getElem? (i := 162) rfl)
theorem wm2_163 : Cond.static ({ cls := "java/lang/System", name := "arraycopy", desc := "(Ljava/lang/Object;ILjava/lang/Object;II)V" } : Jvm.MethodName) ∈ lw_tbl := in_t2 (List.mem_of_getElem? (i := 163) rfl)
theorem wm2_164 : Cond.native ({ cls := "java/lang/System", name := "arraycopy", desc := "(Ljava/lang/Object;ILjava/lang/Object;II)V" } : Jvm.MethodName) ∈ lw_tbl := in_t2 (List.mem_of_getElem? (i := 164) rfl)
theorem wm2_165 : Cond.methodLink "HedgeMessages$Gardener" 70 yX8_set ∈ lw_tbl := in_t2 (List.mem_of_getElem? (i := 165) rfl)
theorem wm2_168 : Cond.fieldLink "HedgeMessages" 10 "HedgeMessages" "hedge" "LHedgeMessages$Hedge;" ∈ lw_tbl := in_t2 (List.mem_of_getElem? (i := 168) rfl)
theorem wm2_169 : Cond.fieldLink "HedgeMessages" 16 "HedgeMessages" "scratch" "LHedgeMessages$Hedge;" ∈ lw_tbl := in_t2 (List.mem_of_getElem? (i := 169) rfl)
theorem wm2_170 : Cond.fieldLink "HedgeMessages" 19 "HedgeMessages" "saved" "LHedgeMessages$Hedge;" ∈ lw_tbl := in_t2 (List.mem_of_getElem? (i := 170) rfl)
theorem wm2_171 : Cond.fieldLink "HedgeMessages" 373 "HedgeMessages" "hasSaved" "Z" ∈ lw_tbl := in_t2 (List.mem_of_getElem? (i := 171) rfl)
theorem wm2_172 : Cond.fieldLink "HedgeMessages" 25 "HedgeMessages" "history" "LHedgeMessages$History;" ∈ lw_tbl := in_t2 (List.mem_of_getElem? (i := 172) rfl)
theorem wm2_173 : Cond.fieldLink "HedgeMessages" 32 "HedgeMessages" "text" "LHedgeMessages$Text;" ∈ lw_tbl := in_t2 (List.mem_of_getElem? (i := 173) rfl)
theorem wm2_174 : Cond.fieldLink "HedgeMessages" 39 "HedgeMessages" "commands" "LHedgeMessages$CommandList;" ∈ lw_tbl := in_t2 (List.mem_of_getElem? (i := 174) rfl)
theorem wm2_175 : Cond.fieldLink "HedgeMessages" 48 "HedgeMessages" "output" "LHedgeMessages$Row;" ∈ lw_tbl := in_t2 (List.mem_of_getElem? (i := 175) rfl)
theorem wm2_176 : Cond.fieldLink "HedgeMessages" 385 "HedgeMessages" "outputLength" "I" ∈ lw_tbl := in_t2 (List.mem_of_getElem? (i := 176) rfl)
theorem wm2_177 : Cond.laysFinal "HedgeMessages" "HedgeMessages" "hedge" "LHedgeMessages$Hedge;" ∈ lw_tbl := in_t2 (List.mem_of_getElem? (i := 177) rfl)
theorem wm2_179 : Cond.laysFinal "HedgeMessages" "HedgeMessages" "scratch" "LHedgeMessages$Hedge;" ∈ lw_tbl := in_t2 (List.mem_of_getElem? (i := 179) rfl)
theorem wm2_181 : Cond.laysFinal "HedgeMessages" "HedgeMessages" "saved" "LHedgeMessages$Hedge;" ∈ lw_tbl := in_t2 (List.mem_of_getElem? (i := 181) rfl)
theorem wm2_183 : Cond.lays "HedgeMessages" "HedgeMessages" "hasSaved" "Z" ∈ lw_tbl := in_t2 (List.mem_of_getElem? (i := 183) rfl)
theorem wm2_185 : Cond.laysFinal "HedgeMessages" "HedgeMessages" "history" "LHedgeMessages$History;" ∈ lw_tbl := in_t2 (List.mem_of_getElem? (i := 185) rfl)
theorem wm2_187 : Cond.laysFinal "HedgeMessages" "HedgeMessages" "text" "LHedgeMessages$Text;" ∈ lw_tbl := in_t2 (List.mem_of_getElem? (i := 187) rfl)
theorem wm2_189 : Cond.laysFinal "HedgeMessages" "HedgeMessages" "commands" "LHedgeMessages$CommandList;" ∈ lw_tbl := in_t2 (List.mem_of_getElem? (i := 189) rfl)
theorem wm2_191 : Cond.laysFinal "HedgeMessages" "HedgeMessages" "output" "LHedgeMessages$Row;" ∈ lw_tbl := in_t2 (List.mem_of_getElem? (i := 191) rfl)
theorem wm2_193 : Cond.lays "HedgeMessages" "HedgeMessages" "outputLength" "I" ∈ lw_tbl := in_t2 (List.mem_of_getElem? (i := 193) rfl)
theorem wm2_196 : Cond.arrayClass Jvm.ClassFile.FieldType.byte ∈ lw_tbl := in_t2 (List.mem_of_getElem? (i := 196) rfl)
theorem wm2_197 : Cond.methodLink "HedgeMessagesLaw" 162 yX10_errorCode ∈ lw_tbl := in_t2 (List.mem_of_getElem? (i := 197) rfl)
theorem wm2_198 : Cond.instanceMethod yX10_errorCode ∈ lw_tbl := in_t2 (List.mem_of_getElem? (i := 198) rfl)
theorem wm2_199 : Cond.selects "HedgeMessages" yX10_errorCode yX10_errorCode ∈ lw_tbl := in_t2 (List.mem_of_getElem? (i := 199) rfl)
theorem wm2_200 : Cond.code yX10_errorCode prog_1_method_6_code 1 (Option.some Jvm.ClassFile.FieldType.int) ∈ lw_tbl := in_t2 (List.mem_of_getElem? (i := 200) rfl)
theorem wm2_201 : Cond.methodLink "HedgeMessagesLaw" 166 yX10_errorPosition ∈ lw_tbl := in_t2 (List.mem_of_getElem? (i := 201) rfl)
theorem wm2_202 : Cond.instanceMethod yX10_errorPosition ∈ lw_tbl := in_t2 (List.mem_of_getElem? (i := 202) rfl)
theorem wm2_203 : Cond.selects "HedgeMessages" yX10_errorPosition yX10_errorPosition ∈ lw_tbl := in_t2 (List.mem_of_getElem? (i := 203) rfl)
theorem wm2_204 : Cond.code yX10_errorPosition prog_1_method_7_code 1 (Option.some Jvm.ClassFile.FieldType.int) ∈ lw_tbl := in_t2 (List.mem_of_getElem? (i := 204) rfl)
theorem wm2_205 : Cond.methodLink "HedgeMessagesLaw" 170 yX10_slotCount ∈ lw_tbl := in_t2 (List.mem_of_getElem? (i := 205) rfl)
theorem wm2_206 : Cond.instanceMethod yX10_slotCount ∈ lw_tbl := in_t2 (List.mem_of_getElem? (i := 206) rfl)
theorem wm2_207 : Cond.selects "HedgeMessages" yX10_slotCount yX10_slotCount ∈ lw_tbl := in_t2 (List.mem_of_getElem? (i := 207) rfl)
theorem wm2_208 : Cond.code yX10_slotCount prog_1_method_8_code 1 (Option.some Jvm.ClassFile.FieldType.int) ∈ lw_tbl := in_t2 (List.mem_of_getElem? (i := 208) rfl)
theorem wm2_209 : Cond.methodLink "HedgeMessagesLaw" 174 yX10_day ∈ lw_tbl := in_t2 (List.mem_of_getElem? (i := 209) rfl)
theorem wm2_210 : Cond.instanceMethod yX10_day ∈ lw_tbl := in_t2 (List.mem_of_getElem? (i := 210) rfl)
theorem wm2_211 : Cond.selects "HedgeMessages" yX10_day yX10_day ∈ lw_tbl := in_t2 (List.mem_of_getElem? (i := 211) rfl)
theorem wm2_212 : Cond.code yX10_day prog_1_method_9_code 1 (Option.some Jvm.ClassFile.FieldType.int) ∈ lw_tbl := in_t2 (List.mem_of_getElem? (i := 212) rfl)
theorem wm2_213 : Cond.methodLink "HedgeMessagesLaw" 178 yX10_activeGardener ∈ lw_tbl := in_t2 (List.mem_of_getElem? (i := 213) rfl)
theorem wm2_214 : Cond.instanceMethod yX10_activeGardener ∈ lw_tbl := in_t2 (List.mem_of_getElem? (i := 214) rfl)
theorem wm2_215 : Cond.selects "HedgeMessages" yX10_activeGardener yX10_activeGardener ∈ lw_tbl := in_t2 (List.mem_of_getElem? (i := 215) rfl)
theorem wm2_216 : Cond.code yX10_activeGardener prog_1_method_10_code 1 (Option.some Jvm.ClassFile.FieldType.int) ∈ lw_tbl := in_t2 (List.mem_of_getElem? (i := 216) rfl)
theorem wm2_217 : Cond.methodLink "HedgeMessages" 135 yX5_active ∈ lw_tbl := in_t2 (List.mem_of_getElem? (i := 217) rfl)
theorem wm2_218 : Cond.instanceMethod yX5_active ∈ lw_tbl := in_t2 (List.mem_of_getElem? (i := 218) rfl)
theorem wm2_219 : Cond.selects "HedgeMessages$Hedge" yX5_active yX5_active ∈ lw_tbl := in_t2 (List.mem_of_getElem? (i := 219) rfl)
theorem wm2_220 : Cond.code yX5_active prog_7_method_13_code 1 (Option.some Jvm.ClassFile.FieldType.int) ∈ lw_tbl := in_t2 (List.mem_of_getElem? (i := 220) rfl)
theorem wm2_221 : Cond.methodLink "HedgeMessagesLaw" 182 yX10_workLimit ∈ lw_tbl := in_t2 (List.mem_of_getElem? (i := 221) rfl)
theorem wm2_222 : Cond.instanceMethod yX10_workLimit ∈ lw_tbl := in_t2 (List.mem_of_getElem? (i := 222) rfl)
theorem wm2_223 : Cond.selects "HedgeMessages" yX10_workLimit yX10_workLimit ∈ lw_tbl := in_t2 (List.mem_of_getElem? (i := 223) rfl)
theorem wm2_224 : Cond.code yX10_workLimit prog_1_method_11_code 1 (Option.some Jvm.ClassFile.FieldType.int) ∈ lw_tbl := in_t2 (List.mem_of_getElem? (i := 224) rfl)
theorem wm2_225 : Cond.methodLink "HedgeMessagesLaw" 186 yX10_actionsLeft ∈ lw_tbl := in_t2 (List.mem_of_getElem? (i := 225) rfl)
theorem wm2_226 : Cond.instanceMethod yX10_actionsLeft ∈ lw_tbl := in_t2 (List.mem_of_getElem? (i := 226) rfl)
theorem wm2_227 : Cond.selects "HedgeMessages" yX10_actionsLeft yX10_actionsLeft ∈ lw_tbl := in_t2 (List.mem_of_getElem? (i := 227) rfl)
theorem wm2_228 : Cond.code yX10_actionsLeft prog_1_method_12_code 1 (Option.some Jvm.ClassFile.FieldType.int) ∈ lw_tbl := in_t2 (List.mem_of_getElem? (i := 228) rfl)
theorem wm2_229 : Cond.methodLink "HedgeMessagesLaw" 190 yX10_twigCount ∈ lw_tbl := in_t2 (List.mem_of_getElem? (i := 229) rfl)
theorem wm2_230 : Cond.instanceMethod yX10_twigCount ∈ lw_tbl := in_t2 (List.mem_of_getElem? (i := 230) rfl)
theorem wm2_231 : Cond.selects "HedgeMessages" yX10_twigCount yX10_twigCount ∈ lw_tbl := in_t2 (List.mem_of_getElem? (i := 231) rfl)
theorem wm2_232 : Cond.code yX10_twigCount prog_1_method_13_code 1 (Option.some Jvm.ClassFile.FieldType.int) ∈ lw_tbl := in_t2 (List.mem_of_getElem? (i := 232) rfl)
theorem wm2_233 : Cond.methodLink "HedgeMessages" 145 yX5_countTwigs ∈ lw_tbl := in_t2 (List.mem_of_getElem? (i := 233) rfl)
theorem wm2_234 : Cond.instanceMethod yX5_countTwigs ∈ lw_tbl := in_t2 (List.mem_of_getElem? (i := 234) rfl)
theorem wm2_235 : Cond.selects "HedgeMessages$Hedge" yX5_countTwigs yX5_countTwigs ∈ lw_tbl := in_t2 (List.mem_of_getElem? (i := 235) rfl)
theorem wm2_236 : Cond.code yX5_countTwigs prog_7_method_14_code 3 (Option.some Jvm.ClassFile.FieldType.int) ∈ lw_tbl := in_t2 (List.mem_of_getElem? (i := 236) rfl)
theorem wm2_237 : Cond.methodLink "HedgeMessages$Hedge" 129 yX8_get ∈ lw_tbl := in_t2 (List.mem_of_getElem? (i := 237) rfl)
theorem wm2_238 : Cond.instanceMethod yX8_get ∈ lw_tbl := in_t2 (List.mem_of_getElem? (i := 238) rfl)
theorem wm2_239 : Cond.selects "HedgeMessages$Row" yX8_get yX8_get ∈ lw_tbl := in_t2 (List.mem_of_getElem? (i := 239) rfl)
theorem wm3_0 : Cond.code yX8_get prog_10_method_2_code 2 (Option.some Jvm.ClassFile.FieldType.int) ∈ lw_tbl := in_t3 (List.mem_of_getElem? (i := 0) rfl)
theorem wm3_1 : Cond.methodLink "HedgeMessagesLaw" 212 yX10_nestCount ∈ lw_tbl := in_t3 (List.mem_of_getElem? (i := 1) rfl)
theorem wm3_2 : Cond.instanceMethod yX10_nestCount ∈ lw_tbl := in_t3 (List.mem_of_getElem? (i := 2) rfl)
theorem wm3_3 : Cond.selects "HedgeMessages" yX10_nestCount yX10_nestCount ∈ lw_tbl := in_t3 (List.mem_of_getElem? (i := 3) rfl)
theorem wm3_4 : Cond.code yX10_nestCount prog_1_method_20_code 1 (Option.some Jvm.ClassFile.FieldType.int) ∈ lw_tbl := in_t3 (List.mem_of_getElem? (i := 4) rfl)
theorem wm3_5 : Cond.methodLink "HedgeMessages" 176 yX5_countNests ∈ lw_tbl := in_t3 (List.mem_of_getElem? (i := 5) rfl)
theorem wm3_6 : Cond.instanceMethod yX5_countNests ∈ lw_tbl := in_t3 (List.mem_of_getElem? (i := 6) rfl)
theorem wm3_7 : Cond.selects "HedgeMessages$Hedge" yX5_countNests yX5_countNests ∈ lw_tbl := in_t3 (List.mem_of_getElem? (i := 7) rfl)
theorem wm3_8 : Cond.code yX5_countNests prog_7_method_17_code 3 (Option.some Jvm.ClassFile.FieldType.int) ∈ lw_tbl := in_t3 (List.mem_of_getElem? (i := 8) rfl)
theorem wm3_9 : Cond.methodLink "HedgeMessagesLaw" 235 yX10_longestFreeRun ∈ lw_tbl := in_t3 (List.mem_of_getElem? (i := 9) rfl)
theorem wm3_10 : Cond.instanceMethod yX10_longestFreeRun ∈ lw_tbl := in_t3 (List.mem_of_getElem? (i := 10) rfl)
theorem wm3_11 : Cond.selects "HedgeMessages" yX10_longestFreeRun yX10_longestFreeRun ∈ lw_tbl := in_t3 (List.mem_of_getElem? (i := 11) rfl)
theorem wm3_12 : Cond.code yX10_longestFreeRun prog_1_method_27_code 1 (Option.some Jvm.ClassFile.FieldType.int) ∈ lw_tbl := in_t3 (List.mem_of_getElem? (i := 12) rfl)
theorem wm3_13 : Cond.methodLink "HedgeMessages" 220 yX5_longestRun ∈ lw_tbl := in_t3 (List.mem_of_getElem? (i := 13) rfl)
theorem wm3_14 : Cond.instanceMethod yX5_longestRun ∈ lw_tbl := in_t3 (List.mem_of_getElem? (i := 14) rfl)
theorem wm3_15 : Cond.selects "HedgeMessages$Hedge" yX5_longestRun yX5_longestRun ∈ lw_tbl := in_t3 (List.mem_of_getElem? (i := 15) rfl)
theorem wm3_16 : Cond.code yX5_longestRun prog_7_method_18_code 5 (Option.some Jvm.ClassFile.FieldType.int) ∈ lw_tbl := in_t3 (List.mem_of_getElem? (i := 16) rfl)
theorem wm3_17 : Cond.methodLink "HedgeMessages$Hedge" 133 yX5_hasTwig ∈ lw_tbl := in_t3 (List.mem_of_getElem? (i := 17) rfl)
theorem wm3_18 : Cond.instanceMethod yX5_hasTwig ∈ lw_tbl := in_t3 (List.mem_of_getElem? (i := 18) rfl)
theorem wm3_19 : Cond.selects "HedgeMessages$Hedge" yX5_hasTwig yX5_hasTwig ∈ lw_tbl := in_t3 (List.mem_of_getElem? (i := 19) rfl)
theorem wm3_20 : Cond.code yX5_hasTwig prog_7_method_9_code 2 (Option.some Jvm.ClassFile.FieldType.boolean) ∈ lw_tbl := in_t3 (List.mem_of_getElem? (i := 20) rfl)
theorem wm3_21 : Cond.methodLink "HedgeMessages$Hedge" 137 yX5_isBooked ∈ lw_tbl := in_t3 (List.mem_of_getElem? (i := 21) rfl)
theorem wm3_22 : Cond.instanceMethod yX5_isBooked ∈ lw_tbl := in_t3 (List.mem_of_getElem? (i := 22) rfl)
theorem wm3_23 : Cond.selects "HedgeMessages$Hedge" yX5_isBooked yX5_isBooked ∈ lw_tbl := in_t3 (List.mem_of_getElem? (i := 23) rfl)
theorem wm3_24 : Cond.code yX5_isBooked prog_7_method_10_code 2 (Option.some Jvm.ClassFile.FieldType.boolean) ∈ lw_tbl := in_t3 (List.mem_of_getElem? (i := 24) rfl)
theorem wm3_25 : Cond.methodLink "HedgeMessagesLaw" 239 yX10_yardLetterCount ∈ lw_tbl := in_t3 (List.mem_of_getElem? (i := 25) rfl)
theorem wm3_26 : Cond.instanceMethod yX10_yardLetterCount ∈ lw_tbl := in_t3 (List.mem_of_getElem? (i := 26) rfl)
theorem wm3_27 : Cond.selects "HedgeMessages" yX10_yardLetterCount yX10_yardLetterCount ∈ lw_tbl := in_t3 (List.mem_of_getElem? (i := 27) rfl)
theorem wm3_28 : Cond.code yX10_yardLetterCount prog_1_method_28_code 2 (Option.some Jvm.ClassFile.FieldType.int) ∈ lw_tbl := in_t3 (List.mem_of_getElem? (i := 28) rfl)
theorem wm3_29 : Cond.methodLink "HedgeMessages" 223 yX5_countTwigsInYard ∈ lw_tbl := in_t3 (List.mem_of_getElem? (i := 29) rfl)
theorem wm3_30 : Cond.instanceMethod yX5_countTwigsInYard ∈ lw_tbl := in_t3 (List.mem_of_getElem? (i := 30) rfl)
theorem wm3_31 : Cond.selects "HedgeMessages$Hedge" yX5_countTwigsInYard yX5_countTwigsInYard ∈ lw_tbl := in_t3 (List.mem_of_getElem? (i := 31) rfl)
theorem wm3_32 : Cond.code yX5_countTwigsInYard prog_7_method_15_code 4 (Option.some Jvm.ClassFile.FieldType.int) ∈ lw_tbl := in_t3 (List.mem_of_getElem? (i := 32) rfl)
theorem wm3_33 : Cond.methodLink "HedgeMessagesLaw" 258 yX10_daysUntilInspection ∈ lw_tbl := in_t3 (List.mem_of_getElem? (i := 33) rfl)
theorem wm3_34 : Cond.instanceMethod yX10_daysUntilInspection ∈ lw_tbl := in_t3 (List.mem_of_getElem? (i := 34) rfl)
theorem wm3_35 : Cond.selects "HedgeMessages" yX10_daysUntilInspection yX10_daysUntilInspection ∈ lw_tbl := in_t3 (List.mem_of_getElem? (i := 35) rfl)
theorem wm3_36 : Cond.code yX10_daysUntilInspection prog_1_method_34_code 1 (Option.some Jvm.ClassFile.FieldType.int) ∈ lw_tbl := in_t3 (List.mem_of_getElem? (i := 36) rfl)
theorem wm3_37 : Cond.methodLink "HedgeMessages" 241 yX5_daysToInspection ∈ lw_tbl := in_t3 (List.mem_of_getElem? (i := 37) rfl)
theorem wm3_38 : Cond.instanceMethod yX5_daysToInspection ∈ lw_tbl := in_t3 (List.mem_of_getElem? (i := 38) rfl)
theorem wm3_39 : Cond.selects "HedgeMessages$Hedge" yX5_daysToInspection yX5_daysToInspection ∈ lw_tbl := in_t3 (List.mem_of_getElem? (i := 39) rfl)
theorem wm3_40 : Cond.code yX5_daysToInspection prog_7_method_21_code 1 (Option.some Jvm.ClassFile.FieldType.int) ∈ lw_tbl := in_t3 (List.mem_of_getElem? (i := 40) rfl)
theorem wm3_41 : Cond.methodLink "HedgeMessagesLaw" 272 yX10_bestNestSlot ∈ lw_tbl := in_t3 (List.mem_of_getElem? (i := 41) rfl)
theorem wm3_42 : Cond.instanceMethod yX10_bestNestSlot ∈ lw_tbl := in_t3 (List.mem_of_getElem? (i := 42) rfl)
theorem wm3_43 : Cond.selects "HedgeMessages" yX10_bestNestSlot yX10_bestNestSlot ∈ lw_tbl := in_t3 (List.mem_of_getElem? (i := 43) rfl)
theorem wm3_44 : Cond.code yX10_bestNestSlot prog_1_method_38_code 1 (Option.some Jvm.ClassFile.FieldType.int) ∈ lw_tbl := in_t3 (List.mem_of_getElem? (i := 44) rfl)
theorem wm3_45 : Cond.methodLink "HedgeMessages" 256 yX5_bestSlotForNest ∈ lw_tbl := in_t3 (List.mem_of_getElem? (i := 45) rfl)
theorem wm3_46 : Cond.instanceMethod yX5_bestSlotForNest ∈ lw_tbl := in_t3 (List.mem_of_getElem? (i := 46) rfl)
theorem wm3_47 : Cond.selects "HedgeMessages$Hedge" yX5_bestSlotForNest yX5_bestSlotForNest ∈ lw_tbl := in_t3 (List.mem_of_getElem? (i := 47) rfl)
theorem wm3_48 : Cond.code yX5_bestSlotForNest prog_7_method_25_code 5 (Option.some Jvm.ClassFile.FieldType.int) ∈ lw_tbl := in_t3 (List.mem_of_getElem? (i := 48) rfl)
theorem wm3_49 : Cond.methodLink "HedgeMessages$Hedge" 167 yX5_countNests ∈ lw_tbl := in_t3 (List.mem_of_getElem? (i := 49) rfl)
theorem wm3_50 : Cond.methodLink "HedgeMessages$Hedge" 170 yX5_wouldSave ∈ lw_tbl := in_t3 (List.mem_of_getElem? (i := 50) rfl)
theorem wm3_52 : Cond.instanceMethod yX5_wouldSave ∈ lw_tbl := in_t3 (List.mem_of_getElem? (i := 52) rfl)
theorem wm3_53 : Cond.code yX5_wouldSave prog_7_method_26_code 2 (Option.some Jvm.ClassFile.FieldType.int) ∈ lw_tbl := in_t3 (List.mem_of_getElem? (i := 53) rfl)
theorem wm3_54 : Cond.methodLink "HedgeMessages$Hedge" 173 yX5_reasonNotToPrune ∈ lw_tbl := in_t3 (List.mem_of_getElem? (i := 54) rfl)
theorem wm3_55 : Cond.instanceMethod yX5_reasonNotToPrune ∈ lw_tbl := in_t3 (List.mem_of_getElem? (i := 55) rfl)
theorem wm3_56 : Cond.selects "HedgeMessages$Hedge" yX5_reasonNotToPrune yX5_reasonNotToPrune ∈ lw_tbl := in_t3 (List.mem_of_getElem? (i := 56) rfl)
theorem wm3_57 : Cond.code yX5_reasonNotToPrune prog_7_method_32_code 2 (Option.some Jvm.ClassFile.FieldType.int) ∈ lw_tbl := in_t3 (List.mem_of_getElem? (i := 57) rfl)
theorem wm3_58 : Cond.methodLink "HedgeMessages$Hedge" 179 yX5_isGuarded ∈ lw_tbl := in_t3 (List.mem_of_getElem? (i := 58) rfl)
theorem wm3_59 : Cond.instanceMethod yX5_isGuarded ∈ lw_tbl := in_t3 (List.mem_of_getElem? (i := 59) rfl)
theorem wm3_60 : Cond.selects "HedgeMessages$Hedge" yX5_isGuarded yX5_isGuarded ∈ lw_tbl := in_t3 (List.mem_of_getElem? (i := 60) rfl)
theorem wm3_61 : Cond.code yX5_isGuarded prog_7_method_11_code 2 (Option.some Jvm.ClassFile.FieldType.boolean) ∈ lw_tbl := in_t3 (List.mem_of_getElem? (i := 61) rfl)
theorem wm3_62 : Cond.methodLink "HedgeMessagesLaw" 291 yX10_twigsPlanted ∈ lw_tbl := in_t3 (List.mem_of_getElem? (i := 62) rfl)
theorem wm3_63 : Cond.instanceMethod yX10_twigsPlanted ∈ lw_tbl := in_t3 (List.mem_of_getElem? (i := 63) rfl)
theorem wm3_64 : Cond.selects "HedgeMessages" yX10_twigsPlanted yX10_twigsPlanted ∈ lw_tbl := in_t3 (List.mem_of_getElem? (i := 64) rfl)
theorem wm3_65 : Cond.code yX10_twigsPlanted prog_1_method_44_code 1 (Option.some Jvm.ClassFile.FieldType.int) ∈ lw_tbl := in_t3 (List.mem_of_getElem? (i := 65) rfl)
theorem wm3_66 : Cond.methodLink "HedgeMessagesLaw" 295 yX10_twigsPruned ∈ lw_tbl := in_t3 (List.mem_of_getElem? (i := 66) rfl)
theorem wm3_67 : Cond.instanceMethod yX10_twigsPruned ∈ lw_tbl := in_t3 (List.mem_of_getElem? (i := 67) rfl)
theorem wm3_68 : Cond.selects "HedgeMessages" yX10_twigsPruned yX10_twigsPruned ∈ lw_tbl := in_t3 (List.mem_of_getElem? (i := 68) rfl)
theorem wm3_69 : Cond.code yX10_twigsPruned prog_1_method_45_code 1 (Option.some Jvm.ClassFile.FieldType.int) ∈ lw_tbl := in_t3 (List.mem_of_getElem? (i := 69) rfl)
theorem wm3_70 : Cond.methodLink "HedgeMessagesLaw" 299 yX10_twigsRemoved ∈ lw_tbl := in_t3 (List.mem_of_getElem? (i := 70) rfl)
theorem wm3_71 : Cond.instanceMethod yX10_twigsRemoved ∈ lw_tbl := in_t3 (List.mem_of_getElem? (i := 71) rfl)
theorem wm3_72 : Cond.selects "HedgeMessages" yX10_twigsRemoved yX10_twigsRemoved ∈ lw_tbl := in_t3 (List.mem_of_getElem? (i := 72) rfl)
theorem wm3_73 : Cond.code yX10_twigsRemoved prog_1_method_46_code 1 (Option.some Jvm.ClassFile.FieldType.int) ∈ lw_tbl := in_t3 (List.mem_of_getElem? (i := 73) rfl)
theorem wm3_74 : Cond.methodLink "HedgeMessagesLaw" 303 yX10_twigImbalance ∈ lw_tbl := in_t3 (List.mem_of_getElem? (i := 74) rfl)
theorem wm3_75 : Cond.instanceMethod yX10_twigImbalance ∈ lw_tbl := in_t3 (List.mem_of_getElem? (i := 75) rfl)
theorem wm3_76 : Cond.selects "HedgeMessages" yX10_twigImbalance yX10_twigImbalance ∈ lw_tbl := in_t3 (List.mem_of_getElem? (i := 76) rfl)
theorem wm3_77 : Cond.code yX10_twigImbalance prog_1_method_47_code 1 (Option.some Jvm.ClassFile.FieldType.int) ∈ lw_tbl := in_t3 (List.mem_of_getElem? (i := 77) rfl)
theorem wm3_78 : Cond.methodLink "HedgeMessagesLaw" 307 yX10_messageImbalance ∈ lw_tbl := in_t3 (List.mem_of_getElem? (i := 78) rfl)
theorem wm3_79 : Cond.instanceMethod yX10_messageImbalance ∈ lw_tbl := in_t3 (List.mem_of_getElem? (i := 79) rfl)
theorem wm3_80 : Cond.selects "HedgeMessages" yX10_messageImbalance yX10_messageImbalance ∈ lw_tbl := in_t3 (List.mem_of_getElem? (i := 80) rfl)
theorem wm3_81 : Cond.code yX10_messageImbalance prog_1_method_48_code 1 (Option.some Jvm.ClassFile.FieldType.int) ∈ lw_tbl := in_t3 (List.mem_of_getElem? (i := 81) rfl)
theorem wm3_82 : Cond.methodLink "HedgeMessages" 285 yX4_queuedMinusSettled ∈ lw_tbl := in_t3 (List.mem_of_getElem? (i := 82) rfl)
theorem wm3_83 : Cond.instanceMethod yX4_queuedMinusSettled ∈ lw_tbl := in_t3 (List.mem_of_getElem? (i := 83) rfl)
theorem wm3_84 : Cond.selects "HedgeMessages$Gardener" yX4_queuedMinusSettled yX4_queuedMinusSettled ∈ lw_tbl := in_t3 (List.mem_of_getElem? (i := 84) rfl)
theorem wm3_85 : Cond.code yX4_queuedMinusSettled prog_6_method_12_code 1 (Option.some Jvm.ClassFile.FieldType.int) ∈ lw_tbl := in_t3 (List.mem_of_getElem? (i := 85) rfl)
theorem wm3_86 : Cond.methodLink "HedgeMessages$Gardener" 77 yX4_isWriting ∈ lw_tbl := in_t3 (List.mem_of_getElem? (i := 86) rfl)
theorem wm3_87 : Cond.instanceMethod yX4_isWriting ∈ lw_tbl := in_t3 (List.mem_of_getElem? (i := 87) rfl)
theorem wm3_88 : Cond.selects "HedgeMessages$Gardener" yX4_isWriting yX4_isWriting ∈ lw_tbl := in_t3 (List.mem_of_getElem? (i := 88) rfl)
theorem wm3_89 : Cond.code yX4_isWriting prog_6_method_4_code 1 (Option.some Jvm.ClassFile.FieldType.boolean) ∈ lw_tbl := in_t3 (List.mem_of_getElem? (i := 89) rfl)
theorem wm3_90 : Cond.methodLink "HedgeMessagesLaw" 311 yX10_wrongLetters ∈ lw_tbl := in_t3 (List.mem_of_getElem? (i := 90) rfl)
theorem wm3_91 : Cond.instanceMethod yX10_wrongLetters ∈ lw_tbl := in_t3 (List.mem_of_getElem? (i := 91) rfl)
theorem wm3_92 : Cond.selects "HedgeMessages" yX10_wrongLetters yX10_wrongLetters ∈ lw_tbl := in_t3 (List.mem_of_getElem? (i := 92) rfl)
theorem wm3_93 : Cond.code yX10_wrongLetters prog_1_method_49_code 1 (Option.some Jvm.ClassFile.FieldType.int) ∈ lw_tbl := in_t3 (List.mem_of_getElem? (i := 93) rfl)
theorem wm3_94 : Cond.methodLink "HedgeMessages" 292 yX5_countWrongLetters ∈ lw_tbl := in_t3 (List.mem_of_getElem? (i := 94) rfl)
theorem wm3_95 : Cond.instanceMethod yX5_countWrongLetters ∈ lw_tbl := in_t3 (List.mem_of_getElem? (i := 95) rfl)
theorem wm3_96 : Cond.selects "HedgeMessages$Hedge" yX5_countWrongLetters yX5_countWrongLetters ∈ lw_tbl := in_t3 (List.mem_of_getElem? (i := 96) rfl)
theorem wm3_97 : Cond.code yX5_countWrongLetters prog_7_method_23_code 3 (Option.some Jvm.ClassFile.FieldType.int) ∈ lw_tbl := in_t3 (List.mem_of_getElem? (i := 97) rfl)
theorem wm3_98 : Cond.methodLink "HedgeMessages$Hedge" 156 yX5_wrongIn ∈ lw_tbl := in_t3 (List.mem_of_getElem? (i := 98) rfl)
theorem wm3_100 : Cond.instanceMethod yX5_wrongIn ∈ lw_tbl := in_t3 (List.mem_of_getElem? (i := 100) rfl)
theorem wm3_101 : Cond.code yX5_wrongIn prog_7_method_24_code 7 (Option.some Jvm.ClassFile.FieldType.int) ∈ lw_tbl := in_t3 (List.mem_of_getElem? (i := 101) rfl)
theorem wm3_102 : Cond.methodLink "HedgeMessagesLaw" 315 yX10_meanLength ∈ lw_tbl := in_t3 (List.mem_of_getElem? (i := 102) rfl)
theorem wm3_103 : Cond.instanceMethod yX10_meanLength ∈ lw_tbl := in_t3 (List.mem_of_getElem? (i := 103) rfl)
theorem wm3_104 : Cond.selects "HedgeMessages" yX10_meanLength yX10_meanLength ∈ lw_tbl := in_t3 (List.mem_of_getElem? (i := 104) rfl)
theorem wm3_105 : Cond.code yX10_meanLength prog_1_method_50_code 2 (Option.some Jvm.ClassFile.FieldType.float) ∈ lw_tbl := in_t3 (List.mem_of_getElem? (i := 105) rfl)
theorem wm3_106 : Cond.methodLink "HedgeMessages" 295 yX5_sumOfLengths ∈ lw_tbl := in_t3 (List.mem_of_getElem? (i := 106) rfl)
theorem wm3_107 : Cond.instanceMethod yX5_sumOfLengths ∈ lw_tbl := in_t3 (List.mem_of_getElem? (i := 107) rfl)
theorem wm3_108 : Cond.selects "HedgeMessages$Hedge" yX5_sumOfLengths yX5_sumOfLengths ∈ lw_tbl := in_t3 (List.mem_of_getElem? (i := 108) rfl)
theorem wm3_109 : Cond.code yX5_sumOfLengths prog_7_method_16_code 3 (Option.some Jvm.ClassFile.FieldType.int) ∈ lw_tbl := in_t3 (List.mem_of_getElem? (i := 109) rfl)
theorem wm3_110 : Cond.methodLink "HedgeMessagesLaw" 320 yX10_occupancy ∈ lw_tbl := in_t3 (List.mem_of_getElem? (i := 110) rfl)
theorem wm3_111 : Cond.instanceMethod yX10_occupancy ∈ lw_tbl := in_t3 (List.mem_of_getElem? (i := 111) rfl)
theorem wm3_112 : Cond.selects "HedgeMessages" yX10_occupancy yX10_occupancy ∈ lw_tbl := in_t3 (List.mem_of_getElem? (i := 112) rfl)
theorem wm3_113 : Cond.code yX10_occupancy prog_1_method_51_code 1 (Option.some Jvm.ClassFile.FieldType.double) ∈ lw_tbl := in_t3 (List.mem_of_getElem? (i := 113) rfl)
theorem wm3_114 : Cond.methodLink "HedgeMessagesLaw" 352 yX10_save ∈ lw_tbl := in_t3 (List.mem_of_getElem? (i := 114) rfl)
theorem wm3_115 : Cond.instanceMethod yX10_save ∈ lw_tbl := in_t3 (List.mem_of_getElem? (i := 115) rfl)
theorem wm3_116 : Cond.selects "HedgeMessages" yX10_save yX10_save ∈ lw_tbl := in_t3 (List.mem_of_getElem? (i := 116) rfl)
theorem wm3_117 : Cond.code yX10_save prog_1_method_61_code 1 (Option.some Jvm.ClassFile.FieldType.int) ∈ lw_tbl := in_t3 (List.mem_of_getElem? (i := 117) rfl)
theorem wm3_118 : Cond.methodLink "HedgeMessages" 101 yX5_copyFrom ∈ lw_tbl := in_t3 (List.mem_of_getElem? (i := 118) rfl)
theorem wm3_119 : Cond.instanceMethod yX5_copyFrom ∈ lw_tbl := in_t3 (List.mem_of_getElem? (i := 119) rfl)
theorem wm3_120 : Cond.selects "HedgeMessages$Hedge" yX5_copyFrom yX5_copyFrom ∈ lw_tbl := in_t3 (List.mem_of_getElem? (i := 120) rfl)
theorem wm3_121 : Cond.code yX5_copyFrom prog_7_method_2_code 2 (Option.none : Option Jvm.ClassFile.FieldType) ∈ lw_tbl := in_t3 (List.mem_of_getElem? (i := 121) rfl)
theorem wm3_122 : Cond.methodLink "HedgeMessages$Hedge" 74 yX8_copyFrom ∈ lw_tbl := in_t3 (List.mem_of_getElem? (i := 122) rfl)
theorem wm3_123 : Cond.instanceMethod yX8_copyFrom ∈ lw_tbl := in_t3 (List.mem_of_getElem? (i := 123) rfl)
theorem wm3_124 : Cond.selects "HedgeMessages$Row" yX8_copyFrom yX8_copyFrom ∈ lw_tbl := in_t3 (List.mem_of_getElem? (i := 124) rfl)
theorem wm3_125 : Cond.code yX8_copyFrom prog_10_method_5_code 2 (Option.none : Option Jvm.ClassFile.FieldType) ∈ lw_tbl := in_t3 (List.mem_of_getElem? (i := 125) rfl)
theorem wm3_126 : Cond.methodLink "HedgeMessages$Row" 13 yX8_copyPart ∈ lw_tbl := in_t3 (List.mem_of_getElem? (i := 126) rfl)
theorem wm3_127 : Cond.methodLink "HedgeMessages$Hedge" 78 yX4_copyFrom ∈ lw_tbl := in_t3 (List.mem_of_getElem? (i := 127) rfl)
theorem wm3_128 : Cond.instanceMethod yX4_copyFrom ∈ lw_tbl := in_t3 (List.mem_of_getElem? (i := 128) rfl)
theorem wm3_129 : Cond.selects "HedgeMessages$Gardener" yX4_copyFrom yX4_copyFrom ∈ lw_tbl := in_t3 (List.mem_of_getElem? (i := 129) rfl)
theorem wm3_130 : Cond.code yX4_copyFrom prog_6_method_3_code 2 (Option.none : Option Jvm.ClassFile.FieldType) ∈ lw_tbl := in_t3 (List.mem_of_getElem? (i := 130) rfl)
theorem wm3_131 : Cond.methodLink "HedgeMessages$Gardener" 42 yX8_copyFrom ∈ lw_tbl := in_t3 (List.mem_of_getElem? (i := 131) rfl)
theorem wm3_132 : Cond.methodLink "HedgeMessages$Hedge" 81 yX7_copyFrom ∈ lw_tbl := in_t3 (List.mem_of_getElem? (i := 132) rfl)
theorem wm3_133 : Cond.instanceMethod yX7_copyFrom ∈ lw_tbl := in_t3 (List.mem_of_getElem? (i := 133) rfl)
theorem wm3_134 : Cond.selects "HedgeMessages$PostedMessages" yX7_copyFrom yX7_copyFrom ∈ lw_tbl := in_t3 (List.mem_of_getElem? (i := 134) rfl)
theorem wm3_135 : Cond.code yX7_copyFrom prog_9_method_2_code 2 (Option.none : Option Jvm.ClassFile.FieldType) ∈ lw_tbl := in_t3 (List.mem_of_getElem? (i := 135) rfl)
theorem wm3_136 : Cond.methodLink "HedgeMessages$PostedMessages" 26 yX8_copyFrom ∈ lw_tbl := in_t3 (List.mem_of_getElem? (i := 136) rfl)
theorem wm3_137 : Cond.methodLink "HedgeMessagesLaw" 359 yX10_formatHedge ∈ lw_tbl := in_t3 (List.mem_of_getElem? (i := 137) rfl)
theorem wm3_138 : Cond.instanceMethod yX10_formatHedge ∈ lw_tbl := in_t3 (List.mem_of_getElem? (i := 138) rfl)
theorem wm3_139 : Cond.selects "HedgeMessages" yX10_formatHedge yX10_formatHedge ∈ lw_tbl := in_t3 (List.mem_of_getElem? (i := 139) rfl)
theorem wm3_140 : Cond.code yX10_formatHedge prog_1_method_63_code 2 (Option.some Jvm.ClassFile.FieldType.int) ∈ lw_tbl := in_t3 (List.mem_of_getElem? (i := 140) rfl)
theorem wm3_141 : Cond.methodLink "HedgeMessages" 379 yX5_signOf ∈ lw_tbl := in_t3 (List.mem_of_getElem? (i := 141) rfl)
theorem wm3_142 : Cond.instanceMethod yX5_signOf ∈ lw_tbl := in_t3 (List.mem_of_getElem? (i := 142) rfl)
theorem wm3_143 : Cond.selects "HedgeMessages$Hedge" yX5_signOf yX5_signOf ∈ lw_tbl := in_t3 (List.mem_of_getElem? (i := 143) rfl)
theorem wm3_144 : Cond.code yX5_signOf prog_7_method_22_code 3 (Option.some Jvm.ClassFile.FieldType.int) ∈ lw_tbl := in_t3 (List.mem_of_getElem? (i := 144) rfl)
theorem wm3_145 : Cond.methodLink "HedgeMessages" 382 yX8_set ∈ lw_tbl := in_t3 (List.mem_of_getElem? (i := 145) rfl)
theorem wm3_146 : Cond.methodLink "HedgeMessagesLaw" 363 yX10_outputByte ∈ lw_tbl := in_t3 (List.mem_of_getElem? (i := 146) rfl)
theorem wm3_147 : Cond.instanceMethod yX10_outputByte ∈ lw_tbl := in_t3 (List.mem_of_getElem? (i := 147) rfl)
theorem wm3_148 : Cond.selects "HedgeMessages" yX10_outputByte yX10_outputByte ∈ lw_tbl := in_t3 (List.mem_of_getElem? (i := 148) rfl)
theorem wm3_149 : Cond.code yX10_outputByte prog_1_method_64_code 2 (Option.some Jvm.ClassFile.FieldType.int) ∈ lw_tbl := in_t3 (List.mem_of_getElem? (i := 149) rfl)
theorem wm3_150 : Cond.methodLink "HedgeMessages" 157 yX8_get ∈ lw_tbl := in_t3 (List.mem_of_getElem? (i := 150) rfl)
theorem wm3_151 : Cond.methodLink "HedgeMessagesLaw" 142 yL_append ∈ lw_tbl := in_t3 (List.mem_of_getElem? (i := 151) rfl)
theorem wm3_152 : Cond.static yL_append ∈ lw_tbl := in_t3 (List.mem_of_getElem? (i := 152) rfl)
theorem wm3_154 : Cond.classLink "HedgeMessagesLaw" 13 "java/lang/IllegalStateException" ∈ lw_tbl := in_t3 (List.mem_of_getElem? (i := 154) rfl)
theorem wm3_155 : Cond.methodLink "HedgeMessagesLaw" 7 yX10_append ∈ lw_tbl := in_t3 (List.mem_of_getElem? (i := 155) rfl)
theorem wm3_156 : Cond.instanceMethod yX10_append ∈ lw_tbl := in_t3 (List.mem_of_getElem? (i := 156) rfl)
theorem wm3_157 : Cond.selects "HedgeMessages" yX10_append yX10_append ∈ lw_tbl := in_t3 (List.mem_of_getElem? (i := 157) rfl)
theorem wm3_158 : Cond.code yX10_append prog_1_method_2_code 6 (Option.some Jvm.ClassFile.FieldType.int) ∈ lw_tbl := in_t3 (List.mem_of_getElem? (i := 158) rfl)
theorem wm3_159 : Cond.classLink "HedgeMessages" 78 "java/lang/IllegalStateException" ∈ lw_tbl := in_t3 (List.mem_of_getElem? (i := 159) rfl)
theorem wm3_160 : Cond.instantiable "java/lang/IllegalStateException" 6 ∈ lw_tbl := in_t3 (List.mem_of_getElem? (i := 160) rfl)
theorem wm3_161 : Cond.castable "java/lang/IllegalStateException" "java/lang/IllegalStateException" ∈ lw_tbl := in_t3 (List.mem_of_getElem? (i := 161) rfl)
theorem wm3_168 : Cond.selects "java/lang/IllegalStateException" ({ cls := "java/lang/Throwable", name := "fillInStackTrace", desc := "(I)Ljava/lang/Throwable;" } : Jvm.MethodName) ({ cls := "java/lang/Throwable", name := "fillInStackTrace", desc := "(I)Ljava/lang/Throwable;" } : Jvm.MethodName) ∈ lw_tbl := in_t3 (List.mem_of_getElem? (i := 168) rfl)
theorem wm3_169 : Cond.selects "java/lang/IllegalStateException" ({ cls := "java/lang/Throwable", name := "fillInStackTrace", desc := "()Ljava/lang/Throwable;" } : Jvm.MethodName) ({ cls := "java/lang/Throwable", name := "fillInStackTrace", desc := "()Ljava/lang/Throwable;" } : Jvm.MethodName) ∈ lw_tbl := in_t3 (List.mem_of_getElem? (i := 169) rfl)
theorem wm3_170 : Cond.lays "java/lang/IllegalStateException" "java/lang/Throwable" "cause" "Ljava/lang/Throwable;" ∈ lw_tbl := in_t3 (List.mem_of_getElem? (i := 170) rfl)
theorem wm3_171 : Cond.lays "java/lang/Throwable" "java/lang/Throwable" "cause" "Ljava/lang/Throwable;" ∈ lw_tbl := in_t3 (List.mem_of_getElem? (i := 171) rfl)
theorem wm3_172 : Cond.lays "java/lang/IllegalStateException" "java/lang/Throwable" "stackTrace" "[Ljava/lang/StackTraceElement;" ∈ lw_tbl := in_t3 (List.mem_of_getElem? (i := 172) rfl)
theorem wm3_173 : Cond.lays "java/lang/Throwable" "java/lang/Throwable" "stackTrace" "[Ljava/lang/StackTraceElement;" ∈ lw_tbl := in_t3 (List.mem_of_getElem? (i := 173) rfl)
theorem wm3_174 : Cond.lays "java/lang/IllegalStateException" "java/lang/Throwable" "suppressedExceptions" "Ljava/util/List;" ∈ lw_tbl := in_t3 (List.mem_of_getElem? (i := 174) rfl)
theorem wm3_175 : Cond.lays "java/lang/Throwable" "java/lang/Throwable" "suppressedExceptions" "Ljava/util/List;" ∈ lw_tbl := in_t3 (List.mem_of_getElem? (i := 175) rfl)
theorem wm3_176 : Cond.lays "java/lang/IllegalStateException" "java/lang/Throwable" "detailMessage" "Ljava/lang/String;" ∈ lw_tbl := in_t3 (List.mem_of_getElem? (i := 176) rfl)
theorem wm3_177 : Cond.lays "java/lang/Throwable" "java/lang/Throwable" "detailMessage" "Ljava/lang/String;" ∈ lw_tbl := in_t3 (List.mem_of_getElem? (i := 177) rfl)
theorem wm3_178 : Cond.lays "java/lang/IllegalStateException" "java/lang/Throwable" "backtrace" "Ljava/lang/Object;" ∈ lw_tbl := in_t3 (List.mem_of_getElem? (i := 178) rfl)
theorem wm3_179 : Cond.lays "java/lang/Throwable" "java/lang/Throwable" "backtrace" "Ljava/lang/Object;" ∈ lw_tbl := in_t3 (List.mem_of_getElem? (i := 179) rfl)
theorem wm3_180 : Cond.fieldLink "java/lang/Throwable" 198 "java/lang/Throwable" "backtrace" "Ljava/lang/Object;" ∈ lw_tbl := in_t3 (List.mem_of_getElem? (i := 180) rfl)
theorem wm3_182 : Cond.instanceMethod ({ cls := "java/lang/Throwable", name := "<init>", desc := "()V" } : Jvm.MethodName) ∈ lw_tbl := in_t3 (List.mem_of_getElem? (i := 182) rfl)
theorem wm3_183 : Cond.code ({ cls := "java/lang/Throwable", name := "<init>", desc := "()V" } : Jvm.MethodName) prog_25_method_1_code 1 (Option.none : Option Jvm.ClassFile.FieldType) ∈ lw_tbl := in_t3 (List.mem_of_getElem? (i := 183) rfl)
theorem wm3_184 : Cond.methodLink "java/lang/Throwable" 1 ({ cls := "java/lang/Object", name := "<init>", desc := "()V" } : Jvm.MethodName) ∈ lw_tbl := in_t3 (List.mem_of_getElem? (i := 184) rfl)
theorem wm3_185 : Cond.fieldLink "java/lang/Throwable" 13 "java/lang/Throwable" "UNASSIGNED_STACK" "[Ljava/lang/StackTraceElement;" ∈ lw_tbl := in_t3 (List.mem_of_getElem? (i := 185) rfl)
theorem wm3_187 : Cond.fieldLink "java/lang/Throwable" 20 "java/lang/Throwable" "SUPPRESSED_SENTINEL" "Ljava/util/List;" ∈ lw_tbl := in_t3 (List.mem_of_getElem? (i := 187) rfl)
theorem wm3_189 : Cond.methodLink "java/lang/Throwable" 27 ({ cls := "java/lang/Throwable", name := "fillInStackTrace", desc := "()Ljava/lang/Throwable;" } : Jvm.MethodName) ∈ lw_tbl := in_t3 (List.mem_of_getElem? (i := 189) rfl)
theorem wm3_190 : Cond.instanceMethod ({ cls := "java/lang/Throwable", name := "fillInStackTrace", desc := "()Ljava/lang/Throwable;" } : Jvm.MethodName) ∈ lw_tbl := in_t3 (List.mem_of_getElem? (i := 190) rfl)
theorem wm3_192 : Cond.selects "java/lang/IllegalArgumentException" ({ cls := "java/lang/Throwable", name := "fillInStackTrace", desc := "()Ljava/lang/Throwable;" } : Jvm.MethodName) ({ cls := "java/lang/Throwable", name := "fillInStackTrace", desc := "()Ljava/lang/Throwable;" } : Jvm.MethodName) ∈ lw_tbl := in_t3 (List.mem_of_getElem? (i := 192) rfl)
theorem wm3_193 : Cond.selects "java/lang/IndexOutOfBoundsException" ({ cls := "java/lang/Throwable", name := "fillInStackTrace", desc := "()Ljava/lang/Throwable;" } : Jvm.MethodName) ({ cls := "java/lang/Throwable", name := "fillInStackTrace", desc := "()Ljava/lang/Throwable;" } : Jvm.MethodName) ∈ lw_tbl := in_t3 (List.mem_of_getElem? (i := 193) rfl)
theorem wm3_195 : Cond.methodLink "java/lang/Throwable" 202 ({ cls := "java/lang/Throwable", name := "fillInStackTrace", desc := "(I)Ljava/lang/Throwable;" } : Jvm.MethodName) ∈ lw_tbl := in_t3 (List.mem_of_getElem? (i := 195) rfl)
theorem wm3_197 : Cond.instanceMethod ({ cls := "java/lang/Throwable", name := "fillInStackTrace", desc := "(I)Ljava/lang/Throwable;" } : Jvm.MethodName) ∈ lw_tbl := in_t3 (List.mem_of_getElem? (i := 197) rfl)
theorem wm3_198 : Cond.instantiable "java/lang/Throwable" 6 ∈ lw_tbl := in_t3 (List.mem_of_getElem? (i := 198) rfl)
theorem wm3_199 : Cond.native ({ cls := "java/lang/Throwable", name := "fillInStackTrace", desc := "(I)Ljava/lang/Throwable;" } : Jvm.MethodName) ∈ lw_tbl := in_t3 (List.mem_of_getElem? (i := 199) rfl)
theorem wm3_201 : Cond.methodLink "HedgeMessages" 82 ({ cls := "java/lang/IllegalStateException", name := "<init>", desc := "(Ljava/lang/String;)V" } : Jvm.MethodName) ∈ lw_tbl := in_t3 (List.mem_of_getElem? (i := 201) rfl)
theorem wm3_202 : Cond.instanceMethod ({ cls := "java/lang/IllegalStateException", name := "<init>", desc := "(Ljava/lang/String;)V" } : Jvm.MethodName) ∈ lw_tbl := in_t3 (List.mem_of_getElem? (i := 202) rfl)
theorem wm3_203 : Cond.code ({ cls := "java/lang/IllegalStateException", name := "<init>", desc := "(Ljava/lang/String;)V" } : Jvm.MethodName) prog_17_method_2_code 2 (Option.none : Option Jvm.ClassFile.FieldType) ∈ lw_tbl := in_t3 (List.mem_of_getElem? (i := 203) rfl)
theorem wm3_204 : Cond.methodLink "java/lang/IllegalStateException" 7 ({ cls := "java/lang/RuntimeException", name := "<init>", desc := "(Ljava/lang/String;)V" } : Jvm.MethodName) ∈ lw_tbl := in_t3 (List.mem_of_getElem? (i := 204) rfl)
theorem wm3_205 : Cond.instanceMethod ({ cls := "java/lang/RuntimeException", name := "<init>", desc := "(Ljava/lang/String;)V" } : Jvm.MethodName) ∈ lw_tbl := in_t3 (List.mem_of_getElem? (i := 205) rfl)
theorem wm3_206 : Cond.code ({ cls := "java/lang/RuntimeException", name := "<init>", desc := "(Ljava/lang/String;)V" } : Jvm.MethodName) prog_20_method_2_code 2 (Option.none : Option Jvm.ClassFile.FieldType) ∈ lw_tbl := in_t3 (List.mem_of_getElem? (i := 206) rfl)
theorem wm3_207 : Cond.methodLink "java/lang/RuntimeException" 7 ({ cls := "java/lang/Exception", name := "<init>", desc := "(Ljava/lang/String;)V" } : Jvm.MethodName) ∈ lw_tbl := in_t3 (List.mem_of_getElem? (i := 207) rfl)
theorem wm3_208 : Cond.instanceMethod ({ cls := "java/lang/Exception", name := "<init>", desc := "(Ljava/lang/String;)V" } : Jvm.MethodName) ∈ lw_tbl := in_t3 (List.mem_of_getElem? (i := 208) rfl)
theorem wm3_209 : Cond.code ({ cls := "java/lang/Exception", name := "<init>", desc := "(Ljava/lang/String;)V" } : Jvm.MethodName) prog_15_method_2_code 2 (Option.none : Option Jvm.ClassFile.FieldType) ∈ lw_tbl := in_t3 (List.mem_of_getElem? (i := 209) rfl)
theorem wm3_210 : Cond.methodLink "java/lang/Exception" 7 ({ cls := "java/lang/Throwable", name := "<init>", desc := "(Ljava/lang/String;)V" } : Jvm.MethodName) ∈ lw_tbl := in_t3 (List.mem_of_getElem? (i := 210) rfl)
theorem wm3_211 : Cond.instanceMethod ({ cls := "java/lang/Throwable", name := "<init>", desc := "(Ljava/lang/String;)V" } : Jvm.MethodName) ∈ lw_tbl := in_t3 (List.mem_of_getElem? (i := 211) rfl)
theorem wm3_212 : Cond.code ({ cls := "java/lang/Throwable", name := "<init>", desc := "(Ljava/lang/String;)V" } : Jvm.MethodName) prog_25_method_2_code 2 (Option.none : Option Jvm.ClassFile.FieldType) ∈ lw_tbl := in_t3 (List.mem_of_getElem? (i := 212) rfl)
theorem wm3_214 : Cond.fieldLink "java/lang/Throwable" 31 "java/lang/Throwable" "detailMessage" "Ljava/lang/String;" ∈ lw_tbl := in_t3 (List.mem_of_getElem? (i := 214) rfl)
theorem wm3_215 : Cond.fieldLink "java/lang/Throwable" 7 "java/lang/Throwable" "cause" "Ljava/lang/Throwable;" ∈ lw_tbl := in_t3 (List.mem_of_getElem? (i := 215) rfl)
theorem wm3_216 : Cond.fieldLink "java/lang/Throwable" 17 "java/lang/Throwable" "stackTrace" "[Ljava/lang/StackTraceElement;" ∈ lw_tbl := in_t3 (List.mem_of_getElem? (i := 216) rfl)
theorem wm3_217 : Cond.fieldLink "java/lang/Throwable" 24 "java/lang/Throwable" "suppressedExceptions" "Ljava/util/List;" ∈ lw_tbl := in_t3 (List.mem_of_getElem? (i := 217) rfl)
theorem wm3_222 : Cond.lays "java/lang/IllegalStateException" "java/lang/Throwable" "depth" "I" ∈ lw_tbl := in_t3 (List.mem_of_getElem? (i := 222) rfl)
theorem wm3_226 : Cond.methodLink "HedgeMessages" 85 yX9_appendBytes ∈ lw_tbl := in_t3 (List.mem_of_getElem? (i := 226) rfl)
theorem wm3_227 : Cond.instanceMethod yX9_appendBytes ∈ lw_tbl := in_t3 (List.mem_of_getElem? (i := 227) rfl)
theorem wm3_228 : Cond.selects "HedgeMessages$Text" yX9_appendBytes yX9_appendBytes ∈ lw_tbl := in_t3 (List.mem_of_getElem? (i := 228) rfl)
theorem wm3_229 : Cond.code yX9_appendBytes prog_11_method_2_code 2 (Option.none : Option Jvm.ClassFile.FieldType) ∈ lw_tbl := in_t3 (List.mem_of_getElem? (i := 229) rfl)
theorem wm3_230 : Cond.methodLink "HedgeMessages$Text" 27 yX8_set ∈ lw_tbl := in_t3 (List.mem_of_getElem? (i := 230) rfl)
theorem wm3_231 : Cond.methodLink "HedgeMessagesLaw" 151 yL_truncate ∈ lw_tbl := in_t3 (List.mem_of_getElem? (i := 231) rfl)
theorem wm3_232 : Cond.static yL_truncate ∈ lw_tbl := in_t3 (List.mem_of_getElem? (i := 232) rfl)
theorem wm3_234 : Cond.classLink "HedgeMessagesLaw" 19 "java/lang/IllegalArgumentException" ∈ lw_tbl := in_t3 (List.mem_of_getElem? (i := 234) rfl)
theorem wm3_235 : Cond.methodLink "HedgeMessagesLaw" 15 yX10_truncate ∈ lw_tbl := in_t3 (List.mem_of_getElem? (i := 235) rfl)
theorem wm3_236 : Cond.instanceMethod yX10_truncate ∈ lw_tbl := in_t3 (List.mem_of_getElem? (i := 236) rfl)
theorem wm3_237 : Cond.selects "HedgeMessages" yX10_truncate yX10_truncate ∈ lw_tbl := in_t3 (List.mem_of_getElem? (i := 237) rfl)
theorem wm3_238 : Cond.code yX10_truncate prog_1_method_3_code 2 (Option.some Jvm.ClassFile.FieldType.int) ∈ lw_tbl := in_t3 (List.mem_of_getElem? (i := 238) rfl)
theorem wm3_239 : Cond.classLink "HedgeMessages" 88 "java/lang/IllegalArgumentException" ∈ lw_tbl := in_t3 (List.mem_of_getElem? (i := 239) rfl)
theorem wm4_0 : Cond.instantiable "java/lang/IllegalArgumentException" 6 ∈ lw_tbl := in_t4 (List.mem_of_getElem? (i := 0) rfl)
theorem wm4_1 : Cond.castable "java/lang/IllegalArgumentException" "java/lang/IllegalArgumentException" ∈ lw_tbl := in_t4 (List.mem_of_getElem? (i := 1) rfl)
theorem wm4_2 : Cond.selects "java/lang/IllegalArgumentException" ({ cls := "java/lang/Throwable", name := "fillInStackTrace", desc := "(I)Ljava/lang/Throwable;" } : Jvm.MethodName) ({ cls := "java/lang/Throwable", name := "fillInStackTrace", desc := "(I)Ljava/lang/Throwable;" } : Jvm.MethodName) ∈ lw_tbl := in_t4 (List.mem_of_getElem? (i := 2) rfl)
theorem wm4_3 : Cond.lays "java/lang/IllegalArgumentException" "java/lang/Throwable" "cause" "Ljava/lang/Throwable;" ∈ lw_tbl := in_t4 (List.mem_of_getElem? (i := 3) rfl)
theorem wm4_4 : Cond.lays "java/lang/IllegalArgumentException" "java/lang/Throwable" "stackTrace" "[Ljava/lang/StackTraceElement;" ∈ lw_tbl := in_t4 (List.mem_of_getElem? (i := 4) rfl)
theorem wm4_5 : Cond.lays "java/lang/IllegalArgumentException" "java/lang/Throwable" "suppressedExceptions" "Ljava/util/List;" ∈ lw_tbl := in_t4 (List.mem_of_getElem? (i := 5) rfl)
theorem wm4_6 : Cond.lays "java/lang/IllegalArgumentException" "java/lang/Throwable" "detailMessage" "Ljava/lang/String;" ∈ lw_tbl := in_t4 (List.mem_of_getElem? (i := 6) rfl)
theorem wm4_7 : Cond.lays "java/lang/IllegalArgumentException" "java/lang/Throwable" "backtrace" "Ljava/lang/Object;" ∈ lw_tbl := in_t4 (List.mem_of_getElem? (i := 7) rfl)
theorem wm4_9 : Cond.methodLink "HedgeMessages" 92 ({ cls := "java/lang/IllegalArgumentException", name := "<init>", desc := "(Ljava/lang/String;)V" } : Jvm.MethodName) ∈ lw_tbl := in_t4 (List.mem_of_getElem? (i := 9) rfl)
theorem wm4_10 : Cond.instanceMethod ({ cls := "java/lang/IllegalArgumentException", name := "<init>", desc := "(Ljava/lang/String;)V" } : Jvm.MethodName) ∈ lw_tbl := in_t4 (List.mem_of_getElem? (i := 10) rfl)
theorem wm4_11 : Cond.code ({ cls := "java/lang/IllegalArgumentException", name := "<init>", desc := "(Ljava/lang/String;)V" } : Jvm.MethodName) prog_16_method_2_code 2 (Option.none : Option Jvm.ClassFile.FieldType) ∈ lw_tbl := in_t4 (List.mem_of_getElem? (i := 11) rfl)
theorem wm4_12 : Cond.methodLink "java/lang/IllegalArgumentException" 7 ({ cls := "java/lang/RuntimeException", name := "<init>", desc := "(Ljava/lang/String;)V" } : Jvm.MethodName) ∈ lw_tbl := in_t4 (List.mem_of_getElem? (i := 12) rfl)
theorem wm4_13 : Cond.lays "java/lang/IllegalArgumentException" "java/lang/Throwable" "depth" "I" ∈ lw_tbl := in_t4 (List.mem_of_getElem? (i := 13) rfl)
theorem wm4_15 : Cond.methodLink "HedgeMessagesLaw" 155 yL_load ∈ lw_tbl := in_t4 (List.mem_of_getElem? (i := 15) rfl)
theorem wm4_16 : Cond.static yL_load ∈ lw_tbl := in_t4 (List.mem_of_getElem? (i := 16) rfl)
theorem wm4_18 : Cond.methodLink "HedgeMessagesLaw" 21 yX10_load ∈ lw_tbl := in_t4 (List.mem_of_getElem? (i := 18) rfl)
theorem wm4_19 : Cond.instanceMethod yX10_load ∈ lw_tbl := in_t4 (List.mem_of_getElem? (i := 19) rfl)
theorem wm4_20 : Cond.selects "HedgeMessages" yX10_load yX10_load ∈ lw_tbl := in_t4 (List.mem_of_getElem? (i := 20) rfl)
theorem wm4_21 : Cond.code yX10_load prog_1_method_4_code 2 (Option.some Jvm.ClassFile.FieldType.int) ∈ lw_tbl := in_t4 (List.mem_of_getElem? (i := 21) rfl)
theorem wm4_22 : Cond.methodLink "HedgeMessages" 93 yX3_read ∈ lw_tbl := in_t4 (List.mem_of_getElem? (i := 22) rfl)
theorem wm4_23 : Cond.static yX3_read ∈ lw_tbl := in_t4 (List.mem_of_getElem? (i := 23) rfl)
theorem wm4_24 : Cond.code yX3_read prog_5_method_2_code 3 (Option.some Jvm.ClassFile.FieldType.boolean) ∈ lw_tbl := in_t4 (List.mem_of_getElem? (i := 24) rfl)
theorem wm4_25 : Cond.methodLink "HedgeMessages$Configuration" 9 yX9_startReading ∈ lw_tbl := in_t4 (List.mem_of_getElem? (i := 25) rfl)
theorem wm4_26 : Cond.instanceMethod yX9_startReading ∈ lw_tbl := in_t4 (List.mem_of_getElem? (i := 26) rfl)
theorem wm4_27 : Cond.selects "HedgeMessages$Text" yX9_startReading yX9_startReading ∈ lw_tbl := in_t4 (List.mem_of_getElem? (i := 27) rfl)
theorem wm4_28 : Cond.code yX9_startReading prog_11_method_4_code 1 (Option.none : Option Jvm.ClassFile.FieldType) ∈ lw_tbl := in_t4 (List.mem_of_getElem? (i := 28) rfl)
theorem wm4_29 : Cond.methodLink "HedgeMessages$Configuration" 14 yX3_readHedge ∈ lw_tbl := in_t4 (List.mem_of_getElem? (i := 29) rfl)
theorem wm4_30 : Cond.static yX3_readHedge ∈ lw_tbl := in_t4 (List.mem_of_getElem? (i := 30) rfl)
theorem wm4_31 : Cond.code yX3_readHedge prog_5_method_3_code 8 (Option.some Jvm.ClassFile.FieldType.boolean) ∈ lw_tbl := in_t4 (List.mem_of_getElem? (i := 31) rfl)
theorem wm4_32 : Cond.methodLink "HedgeMessages$Configuration" 20 yX9_readToken ∈ lw_tbl := in_t4 (List.mem_of_getElem? (i := 32) rfl)
theorem wm4_33 : Cond.instanceMethod yX9_readToken ∈ lw_tbl := in_t4 (List.mem_of_getElem? (i := 33) rfl)
theorem wm4_34 : Cond.selects "HedgeMessages$Text" yX9_readToken yX9_readToken ∈ lw_tbl := in_t4 (List.mem_of_getElem? (i := 34) rfl)
theorem wm4_35 : Cond.code yX9_readToken prog_11_method_6_code 2 (Option.none : Option Jvm.ClassFile.FieldType) ∈ lw_tbl := in_t4 (List.mem_of_getElem? (i := 35) rfl)
theorem wm4_36 : Cond.methodLink "HedgeMessages$Text" 31 yX8_get ∈ lw_tbl := in_t4 (List.mem_of_getElem? (i := 36) rfl)
theorem wm4_37 : Cond.methodLinkNest "HedgeMessages$Text" 35 yX10_isLetter "HedgeMessages" ∈ lw_tbl := in_t4 (List.mem_of_getElem? (i := 37) rfl)
theorem wm4_38 : Cond.static yX10_isLetter ∈ lw_tbl := in_t4 (List.mem_of_getElem? (i := 38) rfl)
theorem wm4_39 : Cond.code yX10_isLetter prog_1_method_68_code 1 (Option.some Jvm.ClassFile.FieldType.boolean) ∈ lw_tbl := in_t4 (List.mem_of_getElem? (i := 39) rfl)
theorem wm4_40 : Cond.methodLinkNest "HedgeMessages$Text" 51 yX10_isDigit "HedgeMessages" ∈ lw_tbl := in_t4 (List.mem_of_getElem? (i := 40) rfl)
theorem wm4_41 : Cond.static yX10_isDigit ∈ lw_tbl := in_t4 (List.mem_of_getElem? (i := 41) rfl)
theorem wm4_42 : Cond.code yX10_isDigit prog_1_method_69_code 1 (Option.some Jvm.ClassFile.FieldType.boolean) ∈ lw_tbl := in_t4 (List.mem_of_getElem? (i := 42) rfl)
theorem wm4_44 : Cond.methodLink "HedgeMessages$Configuration" 32 yX9_isWord ∈ lw_tbl := in_t4 (List.mem_of_getElem? (i := 44) rfl)
theorem wm4_45 : Cond.instanceMethod yX9_isWord ∈ lw_tbl := in_t4 (List.mem_of_getElem? (i := 45) rfl)
theorem wm4_46 : Cond.selects "HedgeMessages$Text" yX9_isWord yX9_isWord ∈ lw_tbl := in_t4 (List.mem_of_getElem? (i := 46) rfl)
theorem wm4_47 : Cond.code yX9_isWord prog_11_method_8_code 3 (Option.some Jvm.ClassFile.FieldType.boolean) ∈ lw_tbl := in_t4 (List.mem_of_getElem? (i := 47) rfl)
theorem wm4_48 : Cond.methodLink "HedgeMessages$Text" 57 yJ0_length_8abf5 ∈ lw_tbl := in_t4 (List.mem_of_getElem? (i := 48) rfl)
theorem wm4_49 : Cond.methodLink "HedgeMessages$Text" 62 yJ0_charAt_5068e ∈ lw_tbl := in_t4 (List.mem_of_getElem? (i := 49) rfl)
theorem wm4_50 : Cond.methodLink "HedgeMessages$Configuration" 36 yX9_refuse ∈ lw_tbl := in_t4 (List.mem_of_getElem? (i := 50) rfl)
theorem wm4_51 : Cond.instanceMethod yX9_refuse ∈ lw_tbl := in_t4 (List.mem_of_getElem? (i := 51) rfl)
theorem wm4_52 : Cond.selects "HedgeMessages$Text" yX9_refuse yX9_refuse ∈ lw_tbl := in_t4 (List.mem_of_getElem? (i := 52) rfl)
theorem wm4_53 : Cond.code yX9_refuse prog_11_method_5_code 2 (Option.some Jvm.ClassFile.FieldType.boolean) ∈ lw_tbl := in_t4 (List.mem_of_getElem? (i := 53) rfl)
theorem wm4_54 : Cond.methodLink "HedgeMessages$Configuration" 40 yX9_readNumber ∈ lw_tbl := in_t4 (List.mem_of_getElem? (i := 54) rfl)
theorem wm4_55 : Cond.instanceMethod yX9_readNumber ∈ lw_tbl := in_t4 (List.mem_of_getElem? (i := 55) rfl)
theorem wm4_56 : Cond.selects "HedgeMessages$Text" yX9_readNumber yX9_readNumber ∈ lw_tbl := in_t4 (List.mem_of_getElem? (i := 56) rfl)
theorem wm4_57 : Cond.code yX9_readNumber prog_11_method_9_code 4 (Option.some Jvm.ClassFile.FieldType.boolean) ∈ lw_tbl := in_t4 (List.mem_of_getElem? (i := 57) rfl)
theorem wm4_58 : Cond.methodLink "HedgeMessages$Text" 66 yX9_readToken ∈ lw_tbl := in_t4 (List.mem_of_getElem? (i := 58) rfl)
theorem wm4_59 : Cond.methodLink "HedgeMessages$Text" 69 yX9_refuse ∈ lw_tbl := in_t4 (List.mem_of_getElem? (i := 59) rfl)
theorem wm4_60 : Cond.methodLink "HedgeMessages$Configuration" 48 yX5_layOut ∈ lw_tbl := in_t4 (List.mem_of_getElem? (i := 60) rfl)
theorem wm4_61 : Cond.methodLink "HedgeMessages$Configuration" 54 yX9_readSemicolon ∈ lw_tbl := in_t4 (List.mem_of_getElem? (i := 61) rfl)
theorem wm4_62 : Cond.instanceMethod yX9_readSemicolon ∈ lw_tbl := in_t4 (List.mem_of_getElem? (i := 62) rfl)
theorem wm4_63 : Cond.selects "HedgeMessages$Text" yX9_readSemicolon yX9_readSemicolon ∈ lw_tbl := in_t4 (List.mem_of_getElem? (i := 63) rfl)
theorem wm4_64 : Cond.code yX9_readSemicolon prog_11_method_12_code 1 (Option.some Jvm.ClassFile.FieldType.boolean) ∈ lw_tbl := in_t4 (List.mem_of_getElem? (i := 64) rfl)
theorem wm4_65 : Cond.methodLink "HedgeMessages$Configuration" 23 yX9_atEnd ∈ lw_tbl := in_t4 (List.mem_of_getElem? (i := 65) rfl)
theorem wm4_66 : Cond.instanceMethod yX9_atEnd ∈ lw_tbl := in_t4 (List.mem_of_getElem? (i := 66) rfl)
theorem wm4_67 : Cond.selects "HedgeMessages$Text" yX9_atEnd yX9_atEnd ∈ lw_tbl := in_t4 (List.mem_of_getElem? (i := 67) rfl)
theorem wm4_68 : Cond.code yX9_atEnd prog_11_method_7_code 1 (Option.some Jvm.ClassFile.FieldType.boolean) ∈ lw_tbl := in_t4 (List.mem_of_getElem? (i := 68) rfl)
theorem wm4_69 : Cond.methodLink "HedgeMessages$Configuration" 27 yX3_readStatement ∈ lw_tbl := in_t4 (List.mem_of_getElem? (i := 69) rfl)
theorem wm4_70 : Cond.static yX3_readStatement ∈ lw_tbl := in_t4 (List.mem_of_getElem? (i := 70) rfl)
theorem wm4_71 : Cond.code yX3_readStatement prog_5_method_4_code 2 (Option.some Jvm.ClassFile.FieldType.boolean) ∈ lw_tbl := in_t4 (List.mem_of_getElem? (i := 71) rfl)
theorem wm4_73 : Cond.methodLink "HedgeMessages$Configuration" 59 yX3_readTwig ∈ lw_tbl := in_t4 (List.mem_of_getElem? (i := 73) rfl)
theorem wm4_74 : Cond.static yX3_readTwig ∈ lw_tbl := in_t4 (List.mem_of_getElem? (i := 74) rfl)
theorem wm4_75 : Cond.code yX3_readTwig prog_5_method_5_code 5 (Option.some Jvm.ClassFile.FieldType.boolean) ∈ lw_tbl := in_t4 (List.mem_of_getElem? (i := 75) rfl)
theorem wm4_76 : Cond.methodLink "HedgeMessages$Configuration" 75 yX5_hasTwig ∈ lw_tbl := in_t4 (List.mem_of_getElem? (i := 76) rfl)
theorem wm4_77 : Cond.methodLink "HedgeMessages$Configuration" 78 yX9_readLetter ∈ lw_tbl := in_t4 (List.mem_of_getElem? (i := 77) rfl)
theorem wm4_78 : Cond.instanceMethod yX9_readLetter ∈ lw_tbl := in_t4 (List.mem_of_getElem? (i := 78) rfl)
theorem wm4_79 : Cond.selects "HedgeMessages$Text" yX9_readLetter yX9_readLetter ∈ lw_tbl := in_t4 (List.mem_of_getElem? (i := 79) rfl)
theorem wm4_80 : Cond.code yX9_readLetter prog_11_method_11_code 1 (Option.some Jvm.ClassFile.FieldType.boolean) ∈ lw_tbl := in_t4 (List.mem_of_getElem? (i := 80) rfl)
theorem wm4_81 : Cond.methodLink "HedgeMessages$Configuration" 81 yX5_placeTwig ∈ lw_tbl := in_t4 (List.mem_of_getElem? (i := 81) rfl)
theorem wm4_83 : Cond.methodLink "HedgeMessages$Configuration" 64 yX3_readNest ∈ lw_tbl := in_t4 (List.mem_of_getElem? (i := 83) rfl)
theorem wm4_84 : Cond.static yX3_readNest ∈ lw_tbl := in_t4 (List.mem_of_getElem? (i := 84) rfl)
theorem wm4_85 : Cond.code yX3_readNest prog_5_method_6_code 3 (Option.some Jvm.ClassFile.FieldType.boolean) ∈ lw_tbl := in_t4 (List.mem_of_getElem? (i := 85) rfl)
theorem wm4_86 : Cond.methodLink "HedgeMessages$Configuration" 89 yX8_get ∈ lw_tbl := in_t4 (List.mem_of_getElem? (i := 86) rfl)
theorem wm4_87 : Cond.methodLink "HedgeMessages$Configuration" 95 yX5_countNests ∈ lw_tbl := in_t4 (List.mem_of_getElem? (i := 87) rfl)
theorem wm4_88 : Cond.methodLink "HedgeMessages$Configuration" 99 yX5_placeNest ∈ lw_tbl := in_t4 (List.mem_of_getElem? (i := 88) rfl)
theorem wm4_90 : Cond.methodLink "HedgeMessages$Configuration" 69 yX3_readMessage ∈ lw_tbl := in_t4 (List.mem_of_getElem? (i := 90) rfl)
theorem wm4_91 : Cond.static yX3_readMessage ∈ lw_tbl := in_t4 (List.mem_of_getElem? (i := 91) rfl)
theorem wm4_92 : Cond.code yX3_readMessage prog_5_method_7_code 3 (Option.some Jvm.ClassFile.FieldType.boolean) ∈ lw_tbl := in_t4 (List.mem_of_getElem? (i := 92) rfl)
theorem wm4_93 : Cond.methodLink "HedgeMessages$Configuration" 103 yX9_readMessageWord ∈ lw_tbl := in_t4 (List.mem_of_getElem? (i := 93) rfl)
theorem wm4_94 : Cond.instanceMethod yX9_readMessageWord ∈ lw_tbl := in_t4 (List.mem_of_getElem? (i := 94) rfl)
theorem wm4_95 : Cond.selects "HedgeMessages$Text" yX9_readMessageWord yX9_readMessageWord ∈ lw_tbl := in_t4 (List.mem_of_getElem? (i := 95) rfl)
theorem wm4_96 : Cond.code yX9_readMessageWord prog_11_method_10_code 1 (Option.some Jvm.ClassFile.FieldType.boolean) ∈ lw_tbl := in_t4 (List.mem_of_getElem? (i := 96) rfl)
theorem wm4_97 : Cond.methodLink "HedgeMessages$Configuration" 106 yX5_mayQueue ∈ lw_tbl := in_t4 (List.mem_of_getElem? (i := 97) rfl)
theorem wm4_98 : Cond.instanceMethod yX5_mayQueue ∈ lw_tbl := in_t4 (List.mem_of_getElem? (i := 98) rfl)
theorem wm4_99 : Cond.selects "HedgeMessages$Hedge" yX5_mayQueue yX5_mayQueue ∈ lw_tbl := in_t4 (List.mem_of_getElem? (i := 99) rfl)
theorem wm4_100 : Cond.code yX5_mayQueue prog_7_method_37_code 2 (Option.some Jvm.ClassFile.FieldType.boolean) ∈ lw_tbl := in_t4 (List.mem_of_getElem? (i := 100) rfl)
theorem wm4_101 : Cond.methodLink "HedgeMessages$Configuration" 118 yX5_receive ∈ lw_tbl := in_t4 (List.mem_of_getElem? (i := 101) rfl)
theorem wm4_103 : Cond.methodLink "HedgeMessages" 105 yX6_forget ∈ lw_tbl := in_t4 (List.mem_of_getElem? (i := 103) rfl)
theorem wm4_104 : Cond.instanceMethod yX6_forget ∈ lw_tbl := in_t4 (List.mem_of_getElem? (i := 104) rfl)
theorem wm4_105 : Cond.selects "HedgeMessages$History" yX6_forget yX6_forget ∈ lw_tbl := in_t4 (List.mem_of_getElem? (i := 105) rfl)
theorem wm4_106 : Cond.code yX6_forget prog_8_method_2_code 1 (Option.none : Option Jvm.ClassFile.FieldType) ∈ lw_tbl := in_t4 (List.mem_of_getElem? (i := 106) rfl)
theorem wm4_107 : Cond.methodLink "HedgeMessagesLaw" 159 yL_executeCommands ∈ lw_tbl := in_t4 (List.mem_of_getElem? (i := 107) rfl)
theorem wm4_108 : Cond.static yL_executeCommands ∈ lw_tbl := in_t4 (List.mem_of_getElem? (i := 108) rfl)
theorem wm4_110 : Cond.methodLink "HedgeMessagesLaw" 25 yX10_executeCommands ∈ lw_tbl := in_t4 (List.mem_of_getElem? (i := 110) rfl)
theorem wm4_111 : Cond.instanceMethod yX10_executeCommands ∈ lw_tbl := in_t4 (List.mem_of_getElem? (i := 111) rfl)
theorem wm4_112 : Cond.selects "HedgeMessages" yX10_executeCommands yX10_executeCommands ∈ lw_tbl := in_t4 (List.mem_of_getElem? (i := 112) rfl)
theorem wm4_113 : Cond.code yX10_executeCommands prog_1_method_5_code 3 (Option.some Jvm.ClassFile.FieldType.int) ∈ lw_tbl := in_t4 (List.mem_of_getElem? (i := 113) rfl)
theorem wm4_114 : Cond.methodLink "HedgeMessages" 111 yX2_read ∈ lw_tbl := in_t4 (List.mem_of_getElem? (i := 114) rfl)
theorem wm4_115 : Cond.instanceMethod yX2_read ∈ lw_tbl := in_t4 (List.mem_of_getElem? (i := 115) rfl)
theorem wm4_116 : Cond.selects "HedgeMessages$CommandList" yX2_read yX2_read ∈ lw_tbl := in_t4 (List.mem_of_getElem? (i := 116) rfl)
theorem wm4_117 : Cond.code yX2_read prog_4_method_3_code 4 (Option.some Jvm.ClassFile.FieldType.boolean) ∈ lw_tbl := in_t4 (List.mem_of_getElem? (i := 117) rfl)
theorem wm4_118 : Cond.methodLink "HedgeMessages$CommandList" 32 yX9_startReading ∈ lw_tbl := in_t4 (List.mem_of_getElem? (i := 118) rfl)
theorem wm4_119 : Cond.methodLink "HedgeMessages$CommandList" 41 yX9_readToken ∈ lw_tbl := in_t4 (List.mem_of_getElem? (i := 119) rfl)
theorem wm4_120 : Cond.methodLink "HedgeMessages$CommandList" 44 yX9_atEnd ∈ lw_tbl := in_t4 (List.mem_of_getElem? (i := 120) rfl)
theorem wm4_121 : Cond.methodLink "HedgeMessages$CommandList" 48 yX2_formNamedBy ∈ lw_tbl := in_t4 (List.mem_of_getElem? (i := 121) rfl)
theorem wm4_122 : Cond.static yX2_formNamedBy ∈ lw_tbl := in_t4 (List.mem_of_getElem? (i := 122) rfl)
theorem wm4_123 : Cond.code yX2_formNamedBy prog_4_method_4_code 3 (Option.some (Jvm.ClassFile.FieldType.object "HedgeMessages$CommandForm")) ∈ lw_tbl := in_t4 (List.mem_of_getElem? (i := 123) rfl)
theorem wm4_124 : Cond.fieldLinkNest "HedgeMessages$CommandList" 63 "HedgeMessages" "COMMAND_FORMS" "[LHedgeMessages$CommandForm;" "HedgeMessages" ∈ lw_tbl := in_t4 (List.mem_of_getElem? (i := 124) rfl)
theorem wm4_126 : Cond.methodLink "HedgeMessages$CommandList" 70 yX9_isWord ∈ lw_tbl := in_t4 (List.mem_of_getElem? (i := 126) rfl)
theorem wm4_127 : Cond.methodLink "HedgeMessages$CommandList" 52 yX9_refuse ∈ lw_tbl := in_t4 (List.mem_of_getElem? (i := 127) rfl)
theorem wm4_128 : Cond.methodLink "HedgeMessages$CommandList" 56 yX2_readArguments ∈ lw_tbl := in_t4 (List.mem_of_getElem? (i := 128) rfl)
theorem wm4_130 : Cond.instanceMethod yX2_readArguments ∈ lw_tbl := in_t4 (List.mem_of_getElem? (i := 130) rfl)
theorem wm4_131 : Cond.code yX2_readArguments prog_4_method_5_code 5 (Option.some Jvm.ClassFile.FieldType.boolean) ∈ lw_tbl := in_t4 (List.mem_of_getElem? (i := 131) rfl)
theorem wm4_132 : Cond.methodLink "HedgeMessages$CommandList" 80 yX9_readNumber ∈ lw_tbl := in_t4 (List.mem_of_getElem? (i := 132) rfl)
theorem wm4_133 : Cond.methodLink "HedgeMessages$CommandList" 87 yX8_set ∈ lw_tbl := in_t4 (List.mem_of_getElem? (i := 133) rfl)
theorem wm4_134 : Cond.methodLink "HedgeMessages$CommandList" 94 yX9_readMessageWord ∈ lw_tbl := in_t4 (List.mem_of_getElem? (i := 134) rfl)
theorem wm4_135 : Cond.methodLink "HedgeMessages$CommandList" 103 yX9_readLetter ∈ lw_tbl := in_t4 (List.mem_of_getElem? (i := 135) rfl)
theorem wm4_136 : Cond.methodLink "HedgeMessages$CommandList" 60 yX9_readSemicolon ∈ lw_tbl := in_t4 (List.mem_of_getElem? (i := 136) rfl)
theorem wm4_137 : Cond.methodLink "HedgeMessages" 114 yX6_remember ∈ lw_tbl := in_t4 (List.mem_of_getElem? (i := 137) rfl)
theorem wm4_138 : Cond.instanceMethod yX6_remember ∈ lw_tbl := in_t4 (List.mem_of_getElem? (i := 138) rfl)
theorem wm4_139 : Cond.selects "HedgeMessages$History" yX6_remember yX6_remember ∈ lw_tbl := in_t4 (List.mem_of_getElem? (i := 139) rfl)
theorem wm4_140 : Cond.code yX6_remember prog_8_method_3_code 3 (Option.none : Option Jvm.ClassFile.FieldType) ∈ lw_tbl := in_t4 (List.mem_of_getElem? (i := 140) rfl)
theorem wm4_141 : Cond.methodLink "HedgeMessages$History" 25 yX6_stateAt ∈ lw_tbl := in_t4 (List.mem_of_getElem? (i := 141) rfl)
theorem wm4_143 : Cond.instanceMethod yX6_stateAt ∈ lw_tbl := in_t4 (List.mem_of_getElem? (i := 143) rfl)
theorem wm4_144 : Cond.code yX6_stateAt prog_8_method_5_code 2 (Option.some (Jvm.ClassFile.FieldType.object "HedgeMessages$Hedge")) ∈ lw_tbl := in_t4 (List.mem_of_getElem? (i := 144) rfl)
theorem wm4_145 : Cond.methodLink "HedgeMessages$History" 29 yX5_copyFrom ∈ lw_tbl := in_t4 (List.mem_of_getElem? (i := 145) rfl)
theorem wm4_146 : Cond.methodLink "HedgeMessages" 120 yX10_perform ∈ lw_tbl := in_t4 (List.mem_of_getElem? (i := 146) rfl)
theorem wm4_148 : Cond.instanceMethod yX10_perform ∈ lw_tbl := in_t4 (List.mem_of_getElem? (i := 148) rfl)
theorem wm4_149 : Cond.code yX10_perform prog_1_method_72_code 6 (Option.some Jvm.ClassFile.FieldType.boolean) ∈ lw_tbl := in_t4 (List.mem_of_getElem? (i := 149) rfl)
theorem wm4_150 : Cond.methodLink "HedgeMessages" 400 yX2_formOf ∈ lw_tbl := in_t4 (List.mem_of_getElem? (i := 150) rfl)
theorem wm4_151 : Cond.instanceMethod yX2_formOf ∈ lw_tbl := in_t4 (List.mem_of_getElem? (i := 151) rfl)
theorem wm4_152 : Cond.selects "HedgeMessages$CommandList" yX2_formOf yX2_formOf ∈ lw_tbl := in_t4 (List.mem_of_getElem? (i := 152) rfl)
theorem wm4_153 : Cond.code yX2_formOf prog_4_method_2_code 2 (Option.some (Jvm.ClassFile.FieldType.object "HedgeMessages$CommandForm")) ∈ lw_tbl := in_t4 (List.mem_of_getElem? (i := 153) rfl)
theorem wm4_154 : Cond.fieldLink "HedgeMessages" 410 "HedgeMessages$1" "$SwitchMap$HedgeMessages$CommandForm" "[I" ∈ lw_tbl := in_t4 (List.mem_of_getElem? (i := 154) rfl)
theorem wm4_156 : Cond.methodLink "HedgeMessages" 416 ({ cls := "HedgeMessages$CommandForm", name := "ordinal", desc := "()I" } : Jvm.MethodName) ∈ lw_tbl := in_t4 (List.mem_of_getElem? (i := 156) rfl)
theorem wm4_159 : Cond.selects "HedgeMessages$CommandForm" ({ cls := "HedgeMessages$CommandForm", name := "ordinal", desc := "()I" } : Jvm.MethodName) yJx29ce0_ordinal_8abf5 ∈ lw_tbl := in_t4 (List.mem_of_getElem? (i := 159) rfl)
theorem wm4_160 : Cond.instanceMethod yJx29ce0_ordinal_8abf5 ∈ lw_tbl := in_t4 (List.mem_of_getElem? (i := 160) rfl)
theorem wm4_161 : Cond.code yJx29ce0_ordinal_8abf5 prog_14_method_2_code 1 (Option.some Jvm.ClassFile.FieldType.int) ∈ lw_tbl := in_t4 (List.mem_of_getElem? (i := 161) rfl)
theorem wm4_162 : Cond.methodLink "HedgeMessages" 421 yX10_performOnSlot ∈ lw_tbl := in_t4 (List.mem_of_getElem? (i := 162) rfl)
theorem wm4_164 : Cond.instanceMethod yX10_performOnSlot ∈ lw_tbl := in_t4 (List.mem_of_getElem? (i := 164) rfl)
theorem wm4_165 : Cond.code yX10_performOnSlot prog_1_method_73_code 4 (Option.some Jvm.ClassFile.FieldType.boolean) ∈ lw_tbl := in_t4 (List.mem_of_getElem? (i := 165) rfl)
theorem wm4_166 : Cond.methodLink "HedgeMessages" 388 yX5_hasSlot ∈ lw_tbl := in_t4 (List.mem_of_getElem? (i := 166) rfl)
theorem wm4_167 : Cond.instanceMethod yX5_hasSlot ∈ lw_tbl := in_t4 (List.mem_of_getElem? (i := 167) rfl)
theorem wm4_168 : Cond.selects "HedgeMessages$Hedge" yX5_hasSlot yX5_hasSlot ∈ lw_tbl := in_t4 (List.mem_of_getElem? (i := 168) rfl)
theorem wm4_169 : Cond.code yX5_hasSlot prog_7_method_8_code 2 (Option.some Jvm.ClassFile.FieldType.boolean) ∈ lw_tbl := in_t4 (List.mem_of_getElem? (i := 169) rfl)
theorem wm4_170 : Cond.fieldLink "HedgeMessages" 428 "HedgeMessages$CommandForm" "PLANT" "LHedgeMessages$CommandForm;" ∈ lw_tbl := in_t4 (List.mem_of_getElem? (i := 170) rfl)
theorem wm4_172 : Cond.methodLink "HedgeMessages" 303 yX5_mayPlant ∈ lw_tbl := in_t4 (List.mem_of_getElem? (i := 172) rfl)
theorem wm4_173 : Cond.instanceMethod yX5_mayPlant ∈ lw_tbl := in_t4 (List.mem_of_getElem? (i := 173) rfl)
theorem wm4_174 : Cond.selects "HedgeMessages$Hedge" yX5_mayPlant yX5_mayPlant ∈ lw_tbl := in_t4 (List.mem_of_getElem? (i := 174) rfl)
theorem wm4_175 : Cond.code yX5_mayPlant prog_7_method_33_code 2 (Option.some Jvm.ClassFile.FieldType.boolean) ∈ lw_tbl := in_t4 (List.mem_of_getElem? (i := 175) rfl)
theorem wm4_176 : Cond.methodLink "HedgeMessages$Hedge" 191 yX5_reasonNotToPlant ∈ lw_tbl := in_t4 (List.mem_of_getElem? (i := 176) rfl)
theorem wm4_177 : Cond.instanceMethod yX5_reasonNotToPlant ∈ lw_tbl := in_t4 (List.mem_of_getElem? (i := 177) rfl)
theorem wm4_178 : Cond.selects "HedgeMessages$Hedge" yX5_reasonNotToPlant yX5_reasonNotToPlant ∈ lw_tbl := in_t4 (List.mem_of_getElem? (i := 178) rfl)
theorem wm4_179 : Cond.code yX5_reasonNotToPlant prog_7_method_27_code 2 (Option.some Jvm.ClassFile.FieldType.int) ∈ lw_tbl := in_t4 (List.mem_of_getElem? (i := 179) rfl)
theorem wm4_180 : Cond.methodLink "HedgeMessages" 308 yX5_plantByHand ∈ lw_tbl := in_t4 (List.mem_of_getElem? (i := 180) rfl)
theorem wm4_181 : Cond.instanceMethod yX5_plantByHand ∈ lw_tbl := in_t4 (List.mem_of_getElem? (i := 181) rfl)
theorem wm4_182 : Cond.selects "HedgeMessages$Hedge" yX5_plantByHand yX5_plantByHand ∈ lw_tbl := in_t4 (List.mem_of_getElem? (i := 182) rfl)
theorem wm4_183 : Cond.code yX5_plantByHand prog_7_method_39_code 3 (Option.none : Option Jvm.ClassFile.FieldType) ∈ lw_tbl := in_t4 (List.mem_of_getElem? (i := 183) rfl)
theorem wm4_184 : Cond.methodLink "HedgeMessages$Hedge" 182 yX5_active ∈ lw_tbl := in_t4 (List.mem_of_getElem? (i := 184) rfl)
theorem wm4_185 : Cond.methodLink "HedgeMessages$Hedge" 203 yX5_placeTwig ∈ lw_tbl := in_t4 (List.mem_of_getElem? (i := 185) rfl)
theorem wm4_186 : Cond.fieldLink "HedgeMessages" 432 "HedgeMessages$CommandForm" "REMOVE" "LHedgeMessages$CommandForm;" ∈ lw_tbl := in_t4 (List.mem_of_getElem? (i := 186) rfl)
theorem wm4_188 : Cond.methodLink "HedgeMessages" 311 yX5_mayRemove ∈ lw_tbl := in_t4 (List.mem_of_getElem? (i := 188) rfl)
theorem wm4_189 : Cond.instanceMethod yX5_mayRemove ∈ lw_tbl := in_t4 (List.mem_of_getElem? (i := 189) rfl)
theorem wm4_190 : Cond.selects "HedgeMessages$Hedge" yX5_mayRemove yX5_mayRemove ∈ lw_tbl := in_t4 (List.mem_of_getElem? (i := 190) rfl)
theorem wm4_191 : Cond.code yX5_mayRemove prog_7_method_34_code 2 (Option.some Jvm.ClassFile.FieldType.boolean) ∈ lw_tbl := in_t4 (List.mem_of_getElem? (i := 191) rfl)
theorem wm4_192 : Cond.methodLink "HedgeMessages$Hedge" 194 yX5_reasonNotToRemove ∈ lw_tbl := in_t4 (List.mem_of_getElem? (i := 192) rfl)
theorem wm4_193 : Cond.instanceMethod yX5_reasonNotToRemove ∈ lw_tbl := in_t4 (List.mem_of_getElem? (i := 193) rfl)
theorem wm4_194 : Cond.selects "HedgeMessages$Hedge" yX5_reasonNotToRemove yX5_reasonNotToRemove ∈ lw_tbl := in_t4 (List.mem_of_getElem? (i := 194) rfl)
theorem wm4_195 : Cond.code yX5_reasonNotToRemove prog_7_method_28_code 3 (Option.some Jvm.ClassFile.FieldType.int) ∈ lw_tbl := in_t4 (List.mem_of_getElem? (i := 195) rfl)
theorem wm4_196 : Cond.methodLink "HedgeMessages$Hedge" 176 yX5_reasonNotToTouch ∈ lw_tbl := in_t4 (List.mem_of_getElem? (i := 196) rfl)
theorem wm4_198 : Cond.instanceMethod yX5_reasonNotToTouch ∈ lw_tbl := in_t4 (List.mem_of_getElem? (i := 198) rfl)
theorem wm4_199 : Cond.code yX5_reasonNotToTouch prog_7_method_30_code 2 (Option.some Jvm.ClassFile.FieldType.int) ∈ lw_tbl := in_t4 (List.mem_of_getElem? (i := 199) rfl)
theorem wm4_200 : Cond.methodLink "HedgeMessages" 316 yX5_removeByHand ∈ lw_tbl := in_t4 (List.mem_of_getElem? (i := 200) rfl)
theorem wm4_201 : Cond.instanceMethod yX5_removeByHand ∈ lw_tbl := in_t4 (List.mem_of_getElem? (i := 201) rfl)
theorem wm4_202 : Cond.selects "HedgeMessages$Hedge" yX5_removeByHand yX5_removeByHand ∈ lw_tbl := in_t4 (List.mem_of_getElem? (i := 202) rfl)
theorem wm4_203 : Cond.code yX5_removeByHand prog_7_method_40_code 2 (Option.none : Option Jvm.ClassFile.FieldType) ∈ lw_tbl := in_t4 (List.mem_of_getElem? (i := 203) rfl)
theorem wm4_204 : Cond.fieldLink "HedgeMessages" 435 "HedgeMessages$CommandForm" "TRIM" "LHedgeMessages$CommandForm;" ∈ lw_tbl := in_t4 (List.mem_of_getElem? (i := 204) rfl)
theorem wm4_206 : Cond.methodLink "HedgeMessages" 321 yX5_mayTrim ∈ lw_tbl := in_t4 (List.mem_of_getElem? (i := 206) rfl)
theorem wm4_207 : Cond.instanceMethod yX5_mayTrim ∈ lw_tbl := in_t4 (List.mem_of_getElem? (i := 207) rfl)
theorem wm4_208 : Cond.selects "HedgeMessages$Hedge" yX5_mayTrim yX5_mayTrim ∈ lw_tbl := in_t4 (List.mem_of_getElem? (i := 208) rfl)
theorem wm4_209 : Cond.code yX5_mayTrim prog_7_method_35_code 2 (Option.some Jvm.ClassFile.FieldType.boolean) ∈ lw_tbl := in_t4 (List.mem_of_getElem? (i := 209) rfl)
theorem wm4_210 : Cond.methodLink "HedgeMessages$Hedge" 197 yX5_reasonNotToTrim ∈ lw_tbl := in_t4 (List.mem_of_getElem? (i := 210) rfl)
theorem wm4_211 : Cond.instanceMethod yX5_reasonNotToTrim ∈ lw_tbl := in_t4 (List.mem_of_getElem? (i := 211) rfl)
theorem wm4_212 : Cond.selects "HedgeMessages$Hedge" yX5_reasonNotToTrim yX5_reasonNotToTrim ∈ lw_tbl := in_t4 (List.mem_of_getElem? (i := 212) rfl)
theorem wm4_213 : Cond.code yX5_reasonNotToTrim prog_7_method_29_code 3 (Option.some Jvm.ClassFile.FieldType.int) ∈ lw_tbl := in_t4 (List.mem_of_getElem? (i := 213) rfl)
theorem wm4_214 : Cond.methodLink "HedgeMessages" 326 yX5_trimByHand ∈ lw_tbl := in_t4 (List.mem_of_getElem? (i := 214) rfl)
theorem wm4_215 : Cond.instanceMethod yX5_trimByHand ∈ lw_tbl := in_t4 (List.mem_of_getElem? (i := 215) rfl)
theorem wm4_216 : Cond.selects "HedgeMessages$Hedge" yX5_trimByHand yX5_trimByHand ∈ lw_tbl := in_t4 (List.mem_of_getElem? (i := 216) rfl)
theorem wm4_217 : Cond.code yX5_trimByHand prog_7_method_41_code 4 (Option.none : Option Jvm.ClassFile.FieldType) ∈ lw_tbl := in_t4 (List.mem_of_getElem? (i := 217) rfl)
theorem wm4_218 : Cond.fieldLink "HedgeMessages" 438 "HedgeMessages$CommandForm" "NEST" "LHedgeMessages$CommandForm;" ∈ lw_tbl := in_t4 (List.mem_of_getElem? (i := 218) rfl)
theorem wm4_220 : Cond.methodLink "HedgeMessages" 331 yX5_mayNest ∈ lw_tbl := in_t4 (List.mem_of_getElem? (i := 220) rfl)
theorem wm4_221 : Cond.instanceMethod yX5_mayNest ∈ lw_tbl := in_t4 (List.mem_of_getElem? (i := 221) rfl)
theorem wm4_222 : Cond.selects "HedgeMessages$Hedge" yX5_mayNest yX5_mayNest ∈ lw_tbl := in_t4 (List.mem_of_getElem? (i := 222) rfl)
theorem wm4_223 : Cond.code yX5_mayNest prog_7_method_36_code 2 (Option.some Jvm.ClassFile.FieldType.boolean) ∈ lw_tbl := in_t4 (List.mem_of_getElem? (i := 223) rfl)
theorem wm4_224 : Cond.methodLink "HedgeMessages" 341 yX5_mayQueue ∈ lw_tbl := in_t4 (List.mem_of_getElem? (i := 224) rfl)
theorem wm4_225 : Cond.methodLink "HedgeMessages" 349 yX5_receive ∈ lw_tbl := in_t4 (List.mem_of_getElem? (i := 225) rfl)
theorem wm4_226 : Cond.methodLink "HedgeMessages" 353 yX5_mayCancel ∈ lw_tbl := in_t4 (List.mem_of_getElem? (i := 226) rfl)
theorem wm4_227 : Cond.instanceMethod yX5_mayCancel ∈ lw_tbl := in_t4 (List.mem_of_getElem? (i := 227) rfl)
theorem wm4_228 : Cond.selects "HedgeMessages$Hedge" yX5_mayCancel yX5_mayCancel ∈ lw_tbl := in_t4 (List.mem_of_getElem? (i := 228) rfl)
theorem wm4_229 : Cond.code yX5_mayCancel prog_7_method_38_code 3 (Option.some Jvm.ClassFile.FieldType.boolean) ∈ lw_tbl := in_t4 (List.mem_of_getElem? (i := 229) rfl)
theorem wm4_230 : Cond.methodLink "HedgeMessages$Hedge" 200 yX4_hasPending ∈ lw_tbl := in_t4 (List.mem_of_getElem? (i := 230) rfl)
theorem wm4_231 : Cond.instanceMethod yX4_hasPending ∈ lw_tbl := in_t4 (List.mem_of_getElem? (i := 231) rfl)
theorem wm4_232 : Cond.selects "HedgeMessages$Gardener" yX4_hasPending yX4_hasPending ∈ lw_tbl := in_t4 (List.mem_of_getElem? (i := 232) rfl)
theorem wm4_233 : Cond.code yX4_hasPending prog_6_method_6_code 2 (Option.some Jvm.ClassFile.FieldType.boolean) ∈ lw_tbl := in_t4 (List.mem_of_getElem? (i := 233) rfl)
theorem wm4_234 : Cond.methodLink "HedgeMessages" 182 yX5_gardener ∈ lw_tbl := in_t4 (List.mem_of_getElem? (i := 234) rfl)
theorem wm4_235 : Cond.methodLink "HedgeMessages" 362 yX4_cancel ∈ lw_tbl := in_t4 (List.mem_of_getElem? (i := 235) rfl)
theorem wm4_236 : Cond.instanceMethod yX4_cancel ∈ lw_tbl := in_t4 (List.mem_of_getElem? (i := 236) rfl)
theorem wm4_237 : Cond.selects "HedgeMessages$Gardener" yX4_cancel yX4_cancel ∈ lw_tbl := in_t4 (List.mem_of_getElem? (i := 237) rfl)
theorem wm4_238 : Cond.code yX4_cancel prog_6_method_11_code 2 (Option.none : Option Jvm.ClassFile.FieldType) ∈ lw_tbl := in_t4 (List.mem_of_getElem? (i := 238) rfl)
theorem wm4_239 : Cond.methodLink "HedgeMessages$Gardener" 74 yX4_dequeue ∈ lw_tbl := in_t4 (List.mem_of_getElem? (i := 239) rfl)
theorem wm5_0 : Cond.instanceMethod yX4_dequeue ∈ lw_tbl := in_t5 (List.mem_of_getElem? (i := 0) rfl)
theorem wm5_1 : Cond.selects "HedgeMessages$Gardener" yX4_dequeue yX4_dequeue ∈ lw_tbl := in_t5 (List.mem_of_getElem? (i := 1) rfl)
theorem wm5_2 : Cond.code yX4_dequeue prog_6_method_10_code 3 (Option.none : Option Jvm.ClassFile.FieldType) ∈ lw_tbl := in_t5 (List.mem_of_getElem? (i := 2) rfl)
theorem wm5_3 : Cond.methodLink "HedgeMessages" 244 yX5_endOneDay ∈ lw_tbl := in_t5 (List.mem_of_getElem? (i := 3) rfl)
theorem wm5_4 : Cond.instanceMethod yX5_endOneDay ∈ lw_tbl := in_t5 (List.mem_of_getElem? (i := 4) rfl)
theorem wm5_5 : Cond.selects "HedgeMessages$Hedge" yX5_endOneDay yX5_endOneDay ∈ lw_tbl := in_t5 (List.mem_of_getElem? (i := 5) rfl)
theorem wm5_6 : Cond.code yX5_endOneDay prog_7_method_42_code 1 (Option.none : Option Jvm.ClassFile.FieldType) ∈ lw_tbl := in_t5 (List.mem_of_getElem? (i := 6) rfl)
theorem wm5_7 : Cond.methodLink "HedgeMessages$Hedge" 207 yX5_deliverPosted ∈ lw_tbl := in_t5 (List.mem_of_getElem? (i := 7) rfl)
theorem wm5_9 : Cond.instanceMethod yX5_deliverPosted ∈ lw_tbl := in_t5 (List.mem_of_getElem? (i := 9) rfl)
theorem wm5_10 : Cond.code yX5_deliverPosted prog_7_method_43_code 4 (Option.none : Option Jvm.ClassFile.FieldType) ∈ lw_tbl := in_t5 (List.mem_of_getElem? (i := 10) rfl)
theorem wm5_11 : Cond.methodLink "HedgeMessages$Hedge" 225 yX7_startSifting ∈ lw_tbl := in_t5 (List.mem_of_getElem? (i := 11) rfl)
theorem wm5_12 : Cond.instanceMethod yX7_startSifting ∈ lw_tbl := in_t5 (List.mem_of_getElem? (i := 12) rfl)
theorem wm5_13 : Cond.selects "HedgeMessages$PostedMessages" yX7_startSifting yX7_startSifting ∈ lw_tbl := in_t5 (List.mem_of_getElem? (i := 13) rfl)
theorem wm5_14 : Cond.code yX7_startSifting prog_9_method_5_code 2 (Option.some Jvm.ClassFile.FieldType.int) ∈ lw_tbl := in_t5 (List.mem_of_getElem? (i := 14) rfl)
theorem wm5_15 : Cond.methodLink "HedgeMessages$Hedge" 228 yX5_clearMessage ∈ lw_tbl := in_t5 (List.mem_of_getElem? (i := 15) rfl)
theorem wm5_17 : Cond.instanceMethod yX5_clearMessage ∈ lw_tbl := in_t5 (List.mem_of_getElem? (i := 17) rfl)
theorem wm5_18 : Cond.code yX5_clearMessage prog_7_method_44_code 4 (Option.none : Option Jvm.ClassFile.FieldType) ∈ lw_tbl := in_t5 (List.mem_of_getElem? (i := 18) rfl)
theorem wm5_19 : Cond.methodLink "HedgeMessages$Hedge" 234 yX7_keep ∈ lw_tbl := in_t5 (List.mem_of_getElem? (i := 19) rfl)
theorem wm5_20 : Cond.instanceMethod yX7_keep ∈ lw_tbl := in_t5 (List.mem_of_getElem? (i := 20) rfl)
theorem wm5_21 : Cond.selects "HedgeMessages$PostedMessages" yX7_keep yX7_keep ∈ lw_tbl := in_t5 (List.mem_of_getElem? (i := 21) rfl)
theorem wm5_22 : Cond.code yX7_keep prog_9_method_6_code 2 (Option.none : Option Jvm.ClassFile.FieldType) ∈ lw_tbl := in_t5 (List.mem_of_getElem? (i := 22) rfl)
theorem wm5_23 : Cond.methodLink "HedgeMessages$PostedMessages" 34 yX8_get ∈ lw_tbl := in_t5 (List.mem_of_getElem? (i := 23) rfl)
theorem wm5_24 : Cond.methodLink "HedgeMessages$PostedMessages" 42 yX7_post ∈ lw_tbl := in_t5 (List.mem_of_getElem? (i := 24) rfl)
theorem wm5_25 : Cond.instanceMethod yX7_post ∈ lw_tbl := in_t5 (List.mem_of_getElem? (i := 25) rfl)
theorem wm5_26 : Cond.selects "HedgeMessages$PostedMessages" yX7_post yX7_post ∈ lw_tbl := in_t5 (List.mem_of_getElem? (i := 26) rfl)
theorem wm5_27 : Cond.code yX7_post prog_9_method_4_code 4 (Option.none : Option Jvm.ClassFile.FieldType) ∈ lw_tbl := in_t5 (List.mem_of_getElem? (i := 27) rfl)
theorem wm5_28 : Cond.methodLink "HedgeMessages$PostedMessages" 38 yX8_set ∈ lw_tbl := in_t5 (List.mem_of_getElem? (i := 28) rfl)
theorem wm5_29 : Cond.methodLink "HedgeMessages$Hedge" 210 yX5_writeLetters ∈ lw_tbl := in_t5 (List.mem_of_getElem? (i := 29) rfl)
theorem wm5_31 : Cond.instanceMethod yX5_writeLetters ∈ lw_tbl := in_t5 (List.mem_of_getElem? (i := 31) rfl)
theorem wm5_32 : Cond.code yX5_writeLetters prog_7_method_45_code 4 (Option.none : Option Jvm.ClassFile.FieldType) ∈ lw_tbl := in_t5 (List.mem_of_getElem? (i := 32) rfl)
theorem wm5_33 : Cond.methodLink "HedgeMessages$Hedge" 143 yX4_isWriting ∈ lw_tbl := in_t5 (List.mem_of_getElem? (i := 33) rfl)
theorem wm5_34 : Cond.methodLink "HedgeMessages$Hedge" 237 yX5_startNext ∈ lw_tbl := in_t5 (List.mem_of_getElem? (i := 34) rfl)
theorem wm5_36 : Cond.instanceMethod yX5_startNext ∈ lw_tbl := in_t5 (List.mem_of_getElem? (i := 36) rfl)
theorem wm5_37 : Cond.code yX5_startNext prog_7_method_46_code 4 (Option.some Jvm.ClassFile.FieldType.boolean) ∈ lw_tbl := in_t5 (List.mem_of_getElem? (i := 37) rfl)
theorem wm5_38 : Cond.methodLink "HedgeMessages$Hedge" 185 yX4_lengthOf ∈ lw_tbl := in_t5 (List.mem_of_getElem? (i := 38) rfl)
theorem wm5_39 : Cond.instanceMethod yX4_lengthOf ∈ lw_tbl := in_t5 (List.mem_of_getElem? (i := 39) rfl)
theorem wm5_40 : Cond.selects "HedgeMessages$Gardener" yX4_lengthOf yX4_lengthOf ∈ lw_tbl := in_t5 (List.mem_of_getElem? (i := 40) rfl)
theorem wm5_41 : Cond.code yX4_lengthOf prog_6_method_7_code 2 (Option.some Jvm.ClassFile.FieldType.int) ∈ lw_tbl := in_t5 (List.mem_of_getElem? (i := 41) rfl)
theorem wm5_42 : Cond.methodLink "HedgeMessages$Gardener" 55 yX4_hasPending ∈ lw_tbl := in_t5 (List.mem_of_getElem? (i := 42) rfl)
theorem wm5_43 : Cond.methodLink "HedgeMessages$Gardener" 59 yX8_get ∈ lw_tbl := in_t5 (List.mem_of_getElem? (i := 43) rfl)
theorem wm5_44 : Cond.methodLink "HedgeMessages$Hedge" 188 yX5_findStart ∈ lw_tbl := in_t5 (List.mem_of_getElem? (i := 44) rfl)
theorem wm5_45 : Cond.instanceMethod yX5_findStart ∈ lw_tbl := in_t5 (List.mem_of_getElem? (i := 45) rfl)
theorem wm5_46 : Cond.selects "HedgeMessages$Hedge" yX5_findStart yX5_findStart ∈ lw_tbl := in_t5 (List.mem_of_getElem? (i := 46) rfl)
theorem wm5_47 : Cond.code yX5_findStart prog_7_method_19_code 4 (Option.some Jvm.ClassFile.FieldType.int) ∈ lw_tbl := in_t5 (List.mem_of_getElem? (i := 47) rfl)
theorem wm5_48 : Cond.methodLink "HedgeMessages$Hedge" 251 yX8_copyPart ∈ lw_tbl := in_t5 (List.mem_of_getElem? (i := 48) rfl)
theorem wm5_49 : Cond.methodLink "HedgeMessages$Hedge" 255 yX4_dequeue ∈ lw_tbl := in_t5 (List.mem_of_getElem? (i := 49) rfl)
theorem wm5_50 : Cond.methodLink "HedgeMessages$Hedge" 243 yX7_post ∈ lw_tbl := in_t5 (List.mem_of_getElem? (i := 50) rfl)
theorem wm5_51 : Cond.methodLink "HedgeMessages$Hedge" 247 yX4_stopWriting ∈ lw_tbl := in_t5 (List.mem_of_getElem? (i := 51) rfl)
theorem wm5_52 : Cond.methodLink "HedgeMessages$Hedge" 213 yX5_grow ∈ lw_tbl := in_t5 (List.mem_of_getElem? (i := 52) rfl)
theorem wm5_54 : Cond.instanceMethod yX5_grow ∈ lw_tbl := in_t5 (List.mem_of_getElem? (i := 54) rfl)
theorem wm5_55 : Cond.code yX5_grow prog_7_method_47_code 4 (Option.none : Option Jvm.ClassFile.FieldType) ∈ lw_tbl := in_t5 (List.mem_of_getElem? (i := 55) rfl)
theorem wm5_56 : Cond.methodLink "HedgeMessages$Hedge" 216 yX5_prune ∈ lw_tbl := in_t5 (List.mem_of_getElem? (i := 56) rfl)
theorem wm5_58 : Cond.instanceMethod yX5_prune ∈ lw_tbl := in_t5 (List.mem_of_getElem? (i := 58) rfl)
theorem wm5_59 : Cond.code yX5_prune prog_7_method_48_code 2 (Option.none : Option Jvm.ClassFile.FieldType) ∈ lw_tbl := in_t5 (List.mem_of_getElem? (i := 59) rfl)
theorem wm5_60 : Cond.methodLink "HedgeMessages$Hedge" 219 yX5_failInProgress ∈ lw_tbl := in_t5 (List.mem_of_getElem? (i := 60) rfl)
theorem wm5_62 : Cond.instanceMethod yX5_failInProgress ∈ lw_tbl := in_t5 (List.mem_of_getElem? (i := 62) rfl)
theorem wm5_63 : Cond.code yX5_failInProgress prog_7_method_49_code 3 (Option.none : Option Jvm.ClassFile.FieldType) ∈ lw_tbl := in_t5 (List.mem_of_getElem? (i := 63) rfl)
theorem wm5_64 : Cond.methodLink "HedgeMessages$Hedge" 258 yX5_lostTwig ∈ lw_tbl := in_t5 (List.mem_of_getElem? (i := 64) rfl)
theorem wm5_66 : Cond.instanceMethod yX5_lostTwig ∈ lw_tbl := in_t5 (List.mem_of_getElem? (i := 66) rfl)
theorem wm5_67 : Cond.code yX5_lostTwig prog_7_method_51_code 4 (Option.some Jvm.ClassFile.FieldType.boolean) ∈ lw_tbl := in_t5 (List.mem_of_getElem? (i := 67) rfl)
theorem wm5_68 : Cond.methodLink "HedgeMessages$Hedge" 262 yX5_fail ∈ lw_tbl := in_t5 (List.mem_of_getElem? (i := 68) rfl)
theorem wm5_70 : Cond.instanceMethod yX5_fail ∈ lw_tbl := in_t5 (List.mem_of_getElem? (i := 70) rfl)
theorem wm5_71 : Cond.code yX5_fail prog_7_method_52_code 5 (Option.none : Option Jvm.ClassFile.FieldType) ∈ lw_tbl := in_t5 (List.mem_of_getElem? (i := 71) rfl)
theorem wm5_72 : Cond.methodLink "HedgeMessages$Hedge" 222 yX5_failPosted ∈ lw_tbl := in_t5 (List.mem_of_getElem? (i := 72) rfl)
theorem wm5_74 : Cond.instanceMethod yX5_failPosted ∈ lw_tbl := in_t5 (List.mem_of_getElem? (i := 74) rfl)
theorem wm5_75 : Cond.code yX5_failPosted prog_7_method_50_code 5 (Option.none : Option Jvm.ClassFile.FieldType) ∈ lw_tbl := in_t5 (List.mem_of_getElem? (i := 75) rfl)
theorem wm5_77 : Cond.methodLink "HedgeMessagesLaw" 194 yL_letterAt ∈ lw_tbl := in_t5 (List.mem_of_getElem? (i := 77) rfl)
theorem wm5_78 : Cond.static yL_letterAt ∈ lw_tbl := in_t5 (List.mem_of_getElem? (i := 78) rfl)
theorem wm5_80 : Cond.classLink "HedgeMessagesLaw" 31 "java/lang/IndexOutOfBoundsException" ∈ lw_tbl := in_t5 (List.mem_of_getElem? (i := 80) rfl)
theorem wm5_81 : Cond.methodLink "HedgeMessagesLaw" 28 yX10_letterAt ∈ lw_tbl := in_t5 (List.mem_of_getElem? (i := 81) rfl)
theorem wm5_82 : Cond.instanceMethod yX10_letterAt ∈ lw_tbl := in_t5 (List.mem_of_getElem? (i := 82) rfl)
theorem wm5_83 : Cond.selects "HedgeMessages" yX10_letterAt yX10_letterAt ∈ lw_tbl := in_t5 (List.mem_of_getElem? (i := 83) rfl)
theorem wm5_84 : Cond.code yX10_letterAt prog_1_method_14_code 2 (Option.some Jvm.ClassFile.FieldType.int) ∈ lw_tbl := in_t5 (List.mem_of_getElem? (i := 84) rfl)
theorem wm5_85 : Cond.methodLink "HedgeMessages" 148 yX10_requireSlot ∈ lw_tbl := in_t5 (List.mem_of_getElem? (i := 85) rfl)
theorem wm5_87 : Cond.instanceMethod yX10_requireSlot ∈ lw_tbl := in_t5 (List.mem_of_getElem? (i := 87) rfl)
theorem wm5_88 : Cond.code yX10_requireSlot prog_1_method_65_code 2 (Option.none : Option Jvm.ClassFile.FieldType) ∈ lw_tbl := in_t5 (List.mem_of_getElem? (i := 88) rfl)
theorem wm5_89 : Cond.classLink "HedgeMessages" 357 "java/lang/IndexOutOfBoundsException" ∈ lw_tbl := in_t5 (List.mem_of_getElem? (i := 89) rfl)
theorem wm5_90 : Cond.instantiable "java/lang/IndexOutOfBoundsException" 6 ∈ lw_tbl := in_t5 (List.mem_of_getElem? (i := 90) rfl)
theorem wm5_91 : Cond.castable "java/lang/IndexOutOfBoundsException" "java/lang/IndexOutOfBoundsException" ∈ lw_tbl := in_t5 (List.mem_of_getElem? (i := 91) rfl)
theorem wm5_92 : Cond.selects "java/lang/IndexOutOfBoundsException" ({ cls := "java/lang/Throwable", name := "fillInStackTrace", desc := "(I)Ljava/lang/Throwable;" } : Jvm.MethodName) ({ cls := "java/lang/Throwable", name := "fillInStackTrace", desc := "(I)Ljava/lang/Throwable;" } : Jvm.MethodName) ∈ lw_tbl := in_t5 (List.mem_of_getElem? (i := 92) rfl)
theorem wm5_93 : Cond.lays "java/lang/IndexOutOfBoundsException" "java/lang/Throwable" "cause" "Ljava/lang/Throwable;" ∈ lw_tbl := in_t5 (List.mem_of_getElem? (i := 93) rfl)
theorem wm5_94 : Cond.lays "java/lang/IndexOutOfBoundsException" "java/lang/Throwable" "stackTrace" "[Ljava/lang/StackTraceElement;" ∈ lw_tbl := in_t5 (List.mem_of_getElem? (i := 94) rfl)
theorem wm5_95 : Cond.lays "java/lang/IndexOutOfBoundsException" "java/lang/Throwable" "suppressedExceptions" "Ljava/util/List;" ∈ lw_tbl := in_t5 (List.mem_of_getElem? (i := 95) rfl)
theorem wm5_96 : Cond.lays "java/lang/IndexOutOfBoundsException" "java/lang/Throwable" "detailMessage" "Ljava/lang/String;" ∈ lw_tbl := in_t5 (List.mem_of_getElem? (i := 96) rfl)
theorem wm5_97 : Cond.lays "java/lang/IndexOutOfBoundsException" "java/lang/Throwable" "backtrace" "Ljava/lang/Object;" ∈ lw_tbl := in_t5 (List.mem_of_getElem? (i := 97) rfl)
theorem wm5_99 : Cond.methodLink "HedgeMessages" 361 ({ cls := "java/lang/IndexOutOfBoundsException", name := "<init>", desc := "(Ljava/lang/String;)V" } : Jvm.MethodName) ∈ lw_tbl := in_t5 (List.mem_of_getElem? (i := 99) rfl)
theorem wm5_100 : Cond.instanceMethod ({ cls := "java/lang/IndexOutOfBoundsException", name := "<init>", desc := "(Ljava/lang/String;)V" } : Jvm.MethodName) ∈ lw_tbl := in_t5 (List.mem_of_getElem? (i := 100) rfl)
theorem wm5_101 : Cond.code ({ cls := "java/lang/IndexOutOfBoundsException", name := "<init>", desc := "(Ljava/lang/String;)V" } : Jvm.MethodName) prog_18_method_2_code 2 (Option.none : Option Jvm.ClassFile.FieldType) ∈ lw_tbl := in_t5 (List.mem_of_getElem? (i := 101) rfl)
theorem wm5_102 : Cond.methodLink "java/lang/IndexOutOfBoundsException" 7 ({ cls := "java/lang/RuntimeException", name := "<init>", desc := "(Ljava/lang/String;)V" } : Jvm.MethodName) ∈ lw_tbl := in_t5 (List.mem_of_getElem? (i := 102) rfl)
theorem wm5_103 : Cond.lays "java/lang/IndexOutOfBoundsException" "java/lang/Throwable" "depth" "I" ∈ lw_tbl := in_t5 (List.mem_of_getElem? (i := 103) rfl)
theorem wm5_105 : Cond.methodLink "HedgeMessages" 151 yX5_hasTwig ∈ lw_tbl := in_t5 (List.mem_of_getElem? (i := 105) rfl)
theorem wm5_106 : Cond.methodLink "HedgeMessagesLaw" 197 yL_ownerAt ∈ lw_tbl := in_t5 (List.mem_of_getElem? (i := 106) rfl)
theorem wm5_107 : Cond.static yL_ownerAt ∈ lw_tbl := in_t5 (List.mem_of_getElem? (i := 107) rfl)
theorem wm5_109 : Cond.methodLink "HedgeMessagesLaw" 33 yX10_ownerAt ∈ lw_tbl := in_t5 (List.mem_of_getElem? (i := 109) rfl)
theorem wm5_110 : Cond.instanceMethod yX10_ownerAt ∈ lw_tbl := in_t5 (List.mem_of_getElem? (i := 110) rfl)
theorem wm5_111 : Cond.selects "HedgeMessages" yX10_ownerAt yX10_ownerAt ∈ lw_tbl := in_t5 (List.mem_of_getElem? (i := 111) rfl)
theorem wm5_112 : Cond.code yX10_ownerAt prog_1_method_15_code 2 (Option.some Jvm.ClassFile.FieldType.int) ∈ lw_tbl := in_t5 (List.mem_of_getElem? (i := 112) rfl)
theorem wm5_113 : Cond.methodLink "HedgeMessagesLaw" 200 yL_lengthAt ∈ lw_tbl := in_t5 (List.mem_of_getElem? (i := 113) rfl)
theorem wm5_114 : Cond.static yL_lengthAt ∈ lw_tbl := in_t5 (List.mem_of_getElem? (i := 114) rfl)
theorem wm5_116 : Cond.methodLink "HedgeMessagesLaw" 36 yX10_lengthAt ∈ lw_tbl := in_t5 (List.mem_of_getElem? (i := 116) rfl)
theorem wm5_117 : Cond.instanceMethod yX10_lengthAt ∈ lw_tbl := in_t5 (List.mem_of_getElem? (i := 117) rfl)
theorem wm5_118 : Cond.selects "HedgeMessages" yX10_lengthAt yX10_lengthAt ∈ lw_tbl := in_t5 (List.mem_of_getElem? (i := 118) rfl)
theorem wm5_119 : Cond.code yX10_lengthAt prog_1_method_16_code 2 (Option.some Jvm.ClassFile.FieldType.int) ∈ lw_tbl := in_t5 (List.mem_of_getElem? (i := 119) rfl)
theorem wm5_120 : Cond.methodLink "HedgeMessagesLaw" 203 yL_isReserved ∈ lw_tbl := in_t5 (List.mem_of_getElem? (i := 120) rfl)
theorem wm5_121 : Cond.static yL_isReserved ∈ lw_tbl := in_t5 (List.mem_of_getElem? (i := 121) rfl)
theorem wm5_123 : Cond.methodLink "HedgeMessagesLaw" 39 yX10_isReserved ∈ lw_tbl := in_t5 (List.mem_of_getElem? (i := 123) rfl)
theorem wm5_124 : Cond.instanceMethod yX10_isReserved ∈ lw_tbl := in_t5 (List.mem_of_getElem? (i := 124) rfl)
theorem wm5_125 : Cond.selects "HedgeMessages" yX10_isReserved yX10_isReserved ∈ lw_tbl := in_t5 (List.mem_of_getElem? (i := 125) rfl)
theorem wm5_126 : Cond.code yX10_isReserved prog_1_method_17_code 2 (Option.some Jvm.ClassFile.FieldType.boolean) ∈ lw_tbl := in_t5 (List.mem_of_getElem? (i := 126) rfl)
theorem wm5_127 : Cond.methodLink "HedgeMessages" 167 yX5_isBooked ∈ lw_tbl := in_t5 (List.mem_of_getElem? (i := 127) rfl)
theorem wm5_128 : Cond.methodLink "HedgeMessagesLaw" 206 yL_nestDays ∈ lw_tbl := in_t5 (List.mem_of_getElem? (i := 128) rfl)
theorem wm5_129 : Cond.static yL_nestDays ∈ lw_tbl := in_t5 (List.mem_of_getElem? (i := 129) rfl)
theorem wm5_131 : Cond.methodLink "HedgeMessagesLaw" 43 yX10_nestDays ∈ lw_tbl := in_t5 (List.mem_of_getElem? (i := 131) rfl)
theorem wm5_132 : Cond.instanceMethod yX10_nestDays ∈ lw_tbl := in_t5 (List.mem_of_getElem? (i := 132) rfl)
theorem wm5_133 : Cond.selects "HedgeMessages" yX10_nestDays yX10_nestDays ∈ lw_tbl := in_t5 (List.mem_of_getElem? (i := 133) rfl)
theorem wm5_134 : Cond.code yX10_nestDays prog_1_method_18_code 2 (Option.some Jvm.ClassFile.FieldType.int) ∈ lw_tbl := in_t5 (List.mem_of_getElem? (i := 134) rfl)
theorem wm5_135 : Cond.methodLink "HedgeMessagesLaw" 209 yL_isProtected ∈ lw_tbl := in_t5 (List.mem_of_getElem? (i := 135) rfl)
theorem wm5_136 : Cond.static yL_isProtected ∈ lw_tbl := in_t5 (List.mem_of_getElem? (i := 136) rfl)
theorem wm5_138 : Cond.methodLink "HedgeMessagesLaw" 46 yX10_isProtected ∈ lw_tbl := in_t5 (List.mem_of_getElem? (i := 138) rfl)
theorem wm5_139 : Cond.instanceMethod yX10_isProtected ∈ lw_tbl := in_t5 (List.mem_of_getElem? (i := 139) rfl)
theorem wm5_140 : Cond.selects "HedgeMessages" yX10_isProtected yX10_isProtected ∈ lw_tbl := in_t5 (List.mem_of_getElem? (i := 140) rfl)
theorem wm5_141 : Cond.code yX10_isProtected prog_1_method_19_code 2 (Option.some Jvm.ClassFile.FieldType.boolean) ∈ lw_tbl := in_t5 (List.mem_of_getElem? (i := 141) rfl)
theorem wm5_142 : Cond.methodLink "HedgeMessages" 173 yX5_isGuarded ∈ lw_tbl := in_t5 (List.mem_of_getElem? (i := 142) rfl)
theorem wm5_143 : Cond.methodLink "HedgeMessagesLaw" 216 yL_pendingCount ∈ lw_tbl := in_t5 (List.mem_of_getElem? (i := 143) rfl)
theorem wm5_144 : Cond.static yL_pendingCount ∈ lw_tbl := in_t5 (List.mem_of_getElem? (i := 144) rfl)
theorem wm5_146 : Cond.methodLink "HedgeMessagesLaw" 49 yX10_pendingCount ∈ lw_tbl := in_t5 (List.mem_of_getElem? (i := 146) rfl)
theorem wm5_147 : Cond.instanceMethod yX10_pendingCount ∈ lw_tbl := in_t5 (List.mem_of_getElem? (i := 147) rfl)
theorem wm5_148 : Cond.selects "HedgeMessages" yX10_pendingCount yX10_pendingCount ∈ lw_tbl := in_t5 (List.mem_of_getElem? (i := 148) rfl)
theorem wm5_149 : Cond.code yX10_pendingCount prog_1_method_21_code 2 (Option.some Jvm.ClassFile.FieldType.int) ∈ lw_tbl := in_t5 (List.mem_of_getElem? (i := 149) rfl)
theorem wm5_150 : Cond.methodLink "HedgeMessages" 179 yX10_requireGardener ∈ lw_tbl := in_t5 (List.mem_of_getElem? (i := 150) rfl)
theorem wm5_151 : Cond.static yX10_requireGardener ∈ lw_tbl := in_t5 (List.mem_of_getElem? (i := 151) rfl)
theorem wm5_152 : Cond.code yX10_requireGardener prog_1_method_66_code 1 (Option.none : Option Jvm.ClassFile.FieldType) ∈ lw_tbl := in_t5 (List.mem_of_getElem? (i := 152) rfl)
theorem wm5_154 : Cond.methodLink "HedgeMessagesLaw" 219 yL_pendingLetter ∈ lw_tbl := in_t5 (List.mem_of_getElem? (i := 154) rfl)
theorem wm5_155 : Cond.static yL_pendingLetter ∈ lw_tbl := in_t5 (List.mem_of_getElem? (i := 155) rfl)
theorem wm5_157 : Cond.methodLink "HedgeMessagesLaw" 52 yX10_pendingLetter ∈ lw_tbl := in_t5 (List.mem_of_getElem? (i := 157) rfl)
theorem wm5_158 : Cond.instanceMethod yX10_pendingLetter ∈ lw_tbl := in_t5 (List.mem_of_getElem? (i := 158) rfl)
theorem wm5_159 : Cond.selects "HedgeMessages" yX10_pendingLetter yX10_pendingLetter ∈ lw_tbl := in_t5 (List.mem_of_getElem? (i := 159) rfl)
theorem wm5_160 : Cond.code yX10_pendingLetter prog_1_method_22_code 4 (Option.some Jvm.ClassFile.FieldType.int) ∈ lw_tbl := in_t5 (List.mem_of_getElem? (i := 160) rfl)
theorem wm5_161 : Cond.methodLink "HedgeMessages" 191 yX4_letterOf ∈ lw_tbl := in_t5 (List.mem_of_getElem? (i := 161) rfl)
theorem wm5_162 : Cond.instanceMethod yX4_letterOf ∈ lw_tbl := in_t5 (List.mem_of_getElem? (i := 162) rfl)
theorem wm5_163 : Cond.selects "HedgeMessages$Gardener" yX4_letterOf yX4_letterOf ∈ lw_tbl := in_t5 (List.mem_of_getElem? (i := 163) rfl)
theorem wm5_164 : Cond.code yX4_letterOf prog_6_method_8_code 3 (Option.some Jvm.ClassFile.FieldType.int) ∈ lw_tbl := in_t5 (List.mem_of_getElem? (i := 164) rfl)
theorem wm5_165 : Cond.methodLink "HedgeMessages$Gardener" 63 yX4_lengthOf ∈ lw_tbl := in_t5 (List.mem_of_getElem? (i := 165) rfl)
theorem wm5_166 : Cond.methodLink "HedgeMessagesLaw" 223 yL_lettersWritten ∈ lw_tbl := in_t5 (List.mem_of_getElem? (i := 166) rfl)
theorem wm5_167 : Cond.static yL_lettersWritten ∈ lw_tbl := in_t5 (List.mem_of_getElem? (i := 167) rfl)
theorem wm5_169 : Cond.methodLink "HedgeMessagesLaw" 56 yX10_lettersWritten ∈ lw_tbl := in_t5 (List.mem_of_getElem? (i := 169) rfl)
theorem wm5_170 : Cond.instanceMethod yX10_lettersWritten ∈ lw_tbl := in_t5 (List.mem_of_getElem? (i := 170) rfl)
theorem wm5_171 : Cond.selects "HedgeMessages" yX10_lettersWritten yX10_lettersWritten ∈ lw_tbl := in_t5 (List.mem_of_getElem? (i := 171) rfl)
theorem wm5_172 : Cond.code yX10_lettersWritten prog_1_method_23_code 2 (Option.some Jvm.ClassFile.FieldType.int) ∈ lw_tbl := in_t5 (List.mem_of_getElem? (i := 172) rfl)
theorem wm5_173 : Cond.methodLink "HedgeMessagesLaw" 226 yL_startSlot ∈ lw_tbl := in_t5 (List.mem_of_getElem? (i := 173) rfl)
theorem wm5_174 : Cond.static yL_startSlot ∈ lw_tbl := in_t5 (List.mem_of_getElem? (i := 174) rfl)
theorem wm5_176 : Cond.methodLink "HedgeMessagesLaw" 59 yX10_startSlot ∈ lw_tbl := in_t5 (List.mem_of_getElem? (i := 176) rfl)
theorem wm5_177 : Cond.instanceMethod yX10_startSlot ∈ lw_tbl := in_t5 (List.mem_of_getElem? (i := 177) rfl)
theorem wm5_178 : Cond.selects "HedgeMessages" yX10_startSlot yX10_startSlot ∈ lw_tbl := in_t5 (List.mem_of_getElem? (i := 178) rfl)
theorem wm5_179 : Cond.code yX10_startSlot prog_1_method_24_code 3 (Option.some Jvm.ClassFile.FieldType.int) ∈ lw_tbl := in_t5 (List.mem_of_getElem? (i := 179) rfl)
theorem wm5_180 : Cond.methodLink "HedgeMessages" 198 yX4_isWriting ∈ lw_tbl := in_t5 (List.mem_of_getElem? (i := 180) rfl)
theorem wm5_181 : Cond.methodLink "HedgeMessagesLaw" 229 yL_postedCount ∈ lw_tbl := in_t5 (List.mem_of_getElem? (i := 181) rfl)
theorem wm5_182 : Cond.static yL_postedCount ∈ lw_tbl := in_t5 (List.mem_of_getElem? (i := 182) rfl)
theorem wm5_184 : Cond.methodLink "HedgeMessagesLaw" 62 yX10_postedCount ∈ lw_tbl := in_t5 (List.mem_of_getElem? (i := 184) rfl)
theorem wm5_185 : Cond.instanceMethod yX10_postedCount ∈ lw_tbl := in_t5 (List.mem_of_getElem? (i := 185) rfl)
theorem wm5_186 : Cond.selects "HedgeMessages" yX10_postedCount yX10_postedCount ∈ lw_tbl := in_t5 (List.mem_of_getElem? (i := 186) rfl)
theorem wm5_187 : Cond.code yX10_postedCount prog_1_method_25_code 2 (Option.some Jvm.ClassFile.FieldType.int) ∈ lw_tbl := in_t5 (List.mem_of_getElem? (i := 187) rfl)
theorem wm5_188 : Cond.methodLink "HedgeMessages" 209 yX7_countOf ∈ lw_tbl := in_t5 (List.mem_of_getElem? (i := 188) rfl)
theorem wm5_189 : Cond.instanceMethod yX7_countOf ∈ lw_tbl := in_t5 (List.mem_of_getElem? (i := 189) rfl)
theorem wm5_190 : Cond.selects "HedgeMessages$PostedMessages" yX7_countOf yX7_countOf ∈ lw_tbl := in_t5 (List.mem_of_getElem? (i := 190) rfl)
theorem wm5_191 : Cond.code yX7_countOf prog_9_method_3_code 4 (Option.some Jvm.ClassFile.FieldType.int) ∈ lw_tbl := in_t5 (List.mem_of_getElem? (i := 191) rfl)
theorem wm5_192 : Cond.methodLink "HedgeMessagesLaw" 232 yL_nextStartSlot ∈ lw_tbl := in_t5 (List.mem_of_getElem? (i := 192) rfl)
theorem wm5_193 : Cond.static yL_nextStartSlot ∈ lw_tbl := in_t5 (List.mem_of_getElem? (i := 193) rfl)
theorem wm5_195 : Cond.methodLink "HedgeMessagesLaw" 65 yX10_nextStartSlot ∈ lw_tbl := in_t5 (List.mem_of_getElem? (i := 195) rfl)
theorem wm5_196 : Cond.instanceMethod yX10_nextStartSlot ∈ lw_tbl := in_t5 (List.mem_of_getElem? (i := 196) rfl)
theorem wm5_197 : Cond.selects "HedgeMessages" yX10_nextStartSlot yX10_nextStartSlot ∈ lw_tbl := in_t5 (List.mem_of_getElem? (i := 197) rfl)
theorem wm5_198 : Cond.code yX10_nextStartSlot prog_1_method_26_code 2 (Option.some Jvm.ClassFile.FieldType.int) ∈ lw_tbl := in_t5 (List.mem_of_getElem? (i := 198) rfl)
theorem wm5_199 : Cond.methodLink "HedgeMessages" 214 yX4_lengthOf ∈ lw_tbl := in_t5 (List.mem_of_getElem? (i := 199) rfl)
theorem wm5_200 : Cond.methodLink "HedgeMessages" 217 yX5_findStart ∈ lw_tbl := in_t5 (List.mem_of_getElem? (i := 200) rfl)
theorem wm5_201 : Cond.methodLink "HedgeMessagesLaw" 243 yL_plantReason ∈ lw_tbl := in_t5 (List.mem_of_getElem? (i := 201) rfl)
theorem wm5_202 : Cond.static yL_plantReason ∈ lw_tbl := in_t5 (List.mem_of_getElem? (i := 202) rfl)
theorem wm5_204 : Cond.methodLink "HedgeMessagesLaw" 68 yX10_plantReason ∈ lw_tbl := in_t5 (List.mem_of_getElem? (i := 204) rfl)
theorem wm5_205 : Cond.instanceMethod yX10_plantReason ∈ lw_tbl := in_t5 (List.mem_of_getElem? (i := 205) rfl)
theorem wm5_206 : Cond.selects "HedgeMessages" yX10_plantReason yX10_plantReason ∈ lw_tbl := in_t5 (List.mem_of_getElem? (i := 206) rfl)
theorem wm5_207 : Cond.code yX10_plantReason prog_1_method_29_code 2 (Option.some Jvm.ClassFile.FieldType.int) ∈ lw_tbl := in_t5 (List.mem_of_getElem? (i := 207) rfl)
theorem wm5_208 : Cond.methodLink "HedgeMessages" 226 yX5_reasonNotToPlant ∈ lw_tbl := in_t5 (List.mem_of_getElem? (i := 208) rfl)
theorem wm5_209 : Cond.methodLink "HedgeMessagesLaw" 246 yL_removeReason ∈ lw_tbl := in_t5 (List.mem_of_getElem? (i := 209) rfl)
theorem wm5_210 : Cond.static yL_removeReason ∈ lw_tbl := in_t5 (List.mem_of_getElem? (i := 210) rfl)
theorem wm5_212 : Cond.methodLink "HedgeMessagesLaw" 71 yX10_removeReason ∈ lw_tbl := in_t5 (List.mem_of_getElem? (i := 212) rfl)
theorem wm5_213 : Cond.instanceMethod yX10_removeReason ∈ lw_tbl := in_t5 (List.mem_of_getElem? (i := 213) rfl)
theorem wm5_214 : Cond.selects "HedgeMessages" yX10_removeReason yX10_removeReason ∈ lw_tbl := in_t5 (List.mem_of_getElem? (i := 214) rfl)
theorem wm5_215 : Cond.code yX10_removeReason prog_1_method_30_code 2 (Option.some Jvm.ClassFile.FieldType.int) ∈ lw_tbl := in_t5 (List.mem_of_getElem? (i := 215) rfl)
theorem wm5_216 : Cond.methodLink "HedgeMessages" 229 yX5_reasonNotToRemove ∈ lw_tbl := in_t5 (List.mem_of_getElem? (i := 216) rfl)
theorem wm5_217 : Cond.methodLink "HedgeMessagesLaw" 249 yL_trimReason ∈ lw_tbl := in_t5 (List.mem_of_getElem? (i := 217) rfl)
theorem wm5_218 : Cond.static yL_trimReason ∈ lw_tbl := in_t5 (List.mem_of_getElem? (i := 218) rfl)
theorem wm5_220 : Cond.methodLink "HedgeMessagesLaw" 74 yX10_trimReason ∈ lw_tbl := in_t5 (List.mem_of_getElem? (i := 220) rfl)
theorem wm5_221 : Cond.instanceMethod yX10_trimReason ∈ lw_tbl := in_t5 (List.mem_of_getElem? (i := 221) rfl)
theorem wm5_222 : Cond.selects "HedgeMessages" yX10_trimReason yX10_trimReason ∈ lw_tbl := in_t5 (List.mem_of_getElem? (i := 222) rfl)
theorem wm5_223 : Cond.code yX10_trimReason prog_1_method_31_code 2 (Option.some Jvm.ClassFile.FieldType.int) ∈ lw_tbl := in_t5 (List.mem_of_getElem? (i := 223) rfl)
theorem wm5_224 : Cond.methodLink "HedgeMessages" 232 yX5_reasonNotToTrim ∈ lw_tbl := in_t5 (List.mem_of_getElem? (i := 224) rfl)
theorem wm5_225 : Cond.methodLink "HedgeMessagesLaw" 252 yL_writeReason ∈ lw_tbl := in_t5 (List.mem_of_getElem? (i := 225) rfl)
theorem wm5_226 : Cond.static yL_writeReason ∈ lw_tbl := in_t5 (List.mem_of_getElem? (i := 226) rfl)
theorem wm5_228 : Cond.methodLink "HedgeMessagesLaw" 77 yX10_writeReason ∈ lw_tbl := in_t5 (List.mem_of_getElem? (i := 228) rfl)
theorem wm5_229 : Cond.instanceMethod yX10_writeReason ∈ lw_tbl := in_t5 (List.mem_of_getElem? (i := 229) rfl)
theorem wm5_230 : Cond.selects "HedgeMessages" yX10_writeReason yX10_writeReason ∈ lw_tbl := in_t5 (List.mem_of_getElem? (i := 230) rfl)
theorem wm5_231 : Cond.code yX10_writeReason prog_1_method_32_code 2 (Option.some Jvm.ClassFile.FieldType.int) ∈ lw_tbl := in_t5 (List.mem_of_getElem? (i := 231) rfl)
theorem wm5_232 : Cond.methodLink "HedgeMessages" 235 yX5_reasonNotToWrite ∈ lw_tbl := in_t5 (List.mem_of_getElem? (i := 232) rfl)
theorem wm5_233 : Cond.instanceMethod yX5_reasonNotToWrite ∈ lw_tbl := in_t5 (List.mem_of_getElem? (i := 233) rfl)
theorem wm5_234 : Cond.selects "HedgeMessages$Hedge" yX5_reasonNotToWrite yX5_reasonNotToWrite ∈ lw_tbl := in_t5 (List.mem_of_getElem? (i := 234) rfl)
theorem wm5_235 : Cond.code yX5_reasonNotToWrite prog_7_method_31_code 3 (Option.some Jvm.ClassFile.FieldType.int) ∈ lw_tbl := in_t5 (List.mem_of_getElem? (i := 235) rfl)
theorem wm5_236 : Cond.methodLink "HedgeMessagesLaw" 255 yL_keepReason ∈ lw_tbl := in_t5 (List.mem_of_getElem? (i := 236) rfl)
theorem wm5_237 : Cond.static yL_keepReason ∈ lw_tbl := in_t5 (List.mem_of_getElem? (i := 237) rfl)
theorem wm5_239 : Cond.methodLink "HedgeMessagesLaw" 80 yX10_keepReason ∈ lw_tbl := in_t5 (List.mem_of_getElem? (i := 239) rfl)
theorem wm6_0 : Cond.instanceMethod yX10_keepReason ∈ lw_tbl := in_t6 (List.mem_of_getElem? (i := 0) rfl)
theorem wm6_1 : Cond.selects "HedgeMessages" yX10_keepReason yX10_keepReason ∈ lw_tbl := in_t6 (List.mem_of_getElem? (i := 1) rfl)
theorem wm6_2 : Cond.code yX10_keepReason prog_1_method_33_code 2 (Option.some Jvm.ClassFile.FieldType.int) ∈ lw_tbl := in_t6 (List.mem_of_getElem? (i := 2) rfl)
theorem wm6_3 : Cond.methodLink "HedgeMessages" 238 yX5_reasonNotToPrune ∈ lw_tbl := in_t6 (List.mem_of_getElem? (i := 3) rfl)
theorem wm6_4 : Cond.methodLink "HedgeMessagesLaw" 262 yL_daysUntilPruned ∈ lw_tbl := in_t6 (List.mem_of_getElem? (i := 4) rfl)
theorem wm6_5 : Cond.static yL_daysUntilPruned ∈ lw_tbl := in_t6 (List.mem_of_getElem? (i := 5) rfl)
theorem wm6_7 : Cond.methodLink "HedgeMessagesLaw" 83 yX10_daysUntilPruned ∈ lw_tbl := in_t6 (List.mem_of_getElem? (i := 7) rfl)
theorem wm6_8 : Cond.instanceMethod yX10_daysUntilPruned ∈ lw_tbl := in_t6 (List.mem_of_getElem? (i := 8) rfl)
theorem wm6_9 : Cond.selects "HedgeMessages" yX10_daysUntilPruned yX10_daysUntilPruned ∈ lw_tbl := in_t6 (List.mem_of_getElem? (i := 9) rfl)
theorem wm6_10 : Cond.code yX10_daysUntilPruned prog_1_method_35_code 3 (Option.some Jvm.ClassFile.FieldType.int) ∈ lw_tbl := in_t6 (List.mem_of_getElem? (i := 10) rfl)
theorem wm6_11 : Cond.methodLink "HedgeMessagesLaw" 265 yL_deliveredAfter ∈ lw_tbl := in_t6 (List.mem_of_getElem? (i := 11) rfl)
theorem wm6_12 : Cond.static yL_deliveredAfter ∈ lw_tbl := in_t6 (List.mem_of_getElem? (i := 12) rfl)
theorem wm6_14 : Cond.methodLink "HedgeMessagesLaw" 86 yX10_deliveredAfter ∈ lw_tbl := in_t6 (List.mem_of_getElem? (i := 14) rfl)
theorem wm6_15 : Cond.instanceMethod yX10_deliveredAfter ∈ lw_tbl := in_t6 (List.mem_of_getElem? (i := 15) rfl)
theorem wm6_16 : Cond.selects "HedgeMessages" yX10_deliveredAfter yX10_deliveredAfter ∈ lw_tbl := in_t6 (List.mem_of_getElem? (i := 16) rfl)
theorem wm6_17 : Cond.code yX10_deliveredAfter prog_1_method_36_code 3 (Option.some Jvm.ClassFile.FieldType.int) ∈ lw_tbl := in_t6 (List.mem_of_getElem? (i := 17) rfl)
theorem wm6_18 : Cond.methodLink "HedgeMessages" 247 yX10_requireDays ∈ lw_tbl := in_t6 (List.mem_of_getElem? (i := 18) rfl)
theorem wm6_19 : Cond.static yX10_requireDays ∈ lw_tbl := in_t6 (List.mem_of_getElem? (i := 19) rfl)
theorem wm6_20 : Cond.code yX10_requireDays prog_1_method_67_code 2 (Option.none : Option Jvm.ClassFile.FieldType) ∈ lw_tbl := in_t6 (List.mem_of_getElem? (i := 20) rfl)
theorem wm6_22 : Cond.methodLink "HedgeMessages" 250 yX10_foresee ∈ lw_tbl := in_t6 (List.mem_of_getElem? (i := 22) rfl)
theorem wm6_24 : Cond.instanceMethod yX10_foresee ∈ lw_tbl := in_t6 (List.mem_of_getElem? (i := 24) rfl)
theorem wm6_25 : Cond.code yX10_foresee prog_1_method_70_code 3 (Option.none : Option Jvm.ClassFile.FieldType) ∈ lw_tbl := in_t6 (List.mem_of_getElem? (i := 25) rfl)
theorem wm6_26 : Cond.methodLink "HedgeMessagesLaw" 269 yL_pendingAfter ∈ lw_tbl := in_t6 (List.mem_of_getElem? (i := 26) rfl)
theorem wm6_27 : Cond.static yL_pendingAfter ∈ lw_tbl := in_t6 (List.mem_of_getElem? (i := 27) rfl)
theorem wm6_29 : Cond.methodLink "HedgeMessagesLaw" 90 yX10_pendingAfter ∈ lw_tbl := in_t6 (List.mem_of_getElem? (i := 29) rfl)
theorem wm6_30 : Cond.instanceMethod yX10_pendingAfter ∈ lw_tbl := in_t6 (List.mem_of_getElem? (i := 30) rfl)
theorem wm6_31 : Cond.selects "HedgeMessages" yX10_pendingAfter yX10_pendingAfter ∈ lw_tbl := in_t6 (List.mem_of_getElem? (i := 31) rfl)
theorem wm6_32 : Cond.code yX10_pendingAfter prog_1_method_37_code 3 (Option.some Jvm.ClassFile.FieldType.int) ∈ lw_tbl := in_t6 (List.mem_of_getElem? (i := 32) rfl)
theorem wm6_33 : Cond.methodLink "HedgeMessagesLaw" 276 yL_leastWorkLimit ∈ lw_tbl := in_t6 (List.mem_of_getElem? (i := 33) rfl)
theorem wm6_34 : Cond.static yL_leastWorkLimit ∈ lw_tbl := in_t6 (List.mem_of_getElem? (i := 34) rfl)
theorem wm6_36 : Cond.methodLink "HedgeMessagesLaw" 93 yX10_leastWorkLimit ∈ lw_tbl := in_t6 (List.mem_of_getElem? (i := 36) rfl)
theorem wm6_37 : Cond.instanceMethod yX10_leastWorkLimit ∈ lw_tbl := in_t6 (List.mem_of_getElem? (i := 37) rfl)
theorem wm6_38 : Cond.selects "HedgeMessages" yX10_leastWorkLimit yX10_leastWorkLimit ∈ lw_tbl := in_t6 (List.mem_of_getElem? (i := 38) rfl)
theorem wm6_39 : Cond.code yX10_leastWorkLimit prog_1_method_39_code 4 (Option.some Jvm.ClassFile.FieldType.int) ∈ lw_tbl := in_t6 (List.mem_of_getElem? (i := 39) rfl)
theorem wm6_40 : Cond.methodLink "HedgeMessages" 259 yX10_suffices ∈ lw_tbl := in_t6 (List.mem_of_getElem? (i := 40) rfl)
theorem wm6_42 : Cond.instanceMethod yX10_suffices ∈ lw_tbl := in_t6 (List.mem_of_getElem? (i := 42) rfl)
theorem wm6_43 : Cond.code yX10_suffices prog_1_method_71_code 5 (Option.some Jvm.ClassFile.FieldType.boolean) ∈ lw_tbl := in_t6 (List.mem_of_getElem? (i := 43) rfl)
theorem wm6_44 : Cond.methodLink "HedgeMessages" 397 yX5_hasMessages ∈ lw_tbl := in_t6 (List.mem_of_getElem? (i := 44) rfl)
theorem wm6_45 : Cond.instanceMethod yX5_hasMessages ∈ lw_tbl := in_t6 (List.mem_of_getElem? (i := 45) rfl)
theorem wm6_46 : Cond.selects "HedgeMessages$Hedge" yX5_hasMessages yX5_hasMessages ∈ lw_tbl := in_t6 (List.mem_of_getElem? (i := 46) rfl)
theorem wm6_47 : Cond.code yX5_hasMessages prog_7_method_20_code 3 (Option.some Jvm.ClassFile.FieldType.boolean) ∈ lw_tbl := in_t6 (List.mem_of_getElem? (i := 47) rfl)
theorem wm6_48 : Cond.methodLink "HedgeMessages$Hedge" 147 yX7_countOf ∈ lw_tbl := in_t6 (List.mem_of_getElem? (i := 48) rfl)
theorem wm6_49 : Cond.methodLink "HedgeMessagesLaw" 279 yL_messagesQueued ∈ lw_tbl := in_t6 (List.mem_of_getElem? (i := 49) rfl)
theorem wm6_50 : Cond.static yL_messagesQueued ∈ lw_tbl := in_t6 (List.mem_of_getElem? (i := 50) rfl)
theorem wm6_52 : Cond.methodLink "HedgeMessagesLaw" 96 yX10_messagesQueued ∈ lw_tbl := in_t6 (List.mem_of_getElem? (i := 52) rfl)
theorem wm6_53 : Cond.instanceMethod yX10_messagesQueued ∈ lw_tbl := in_t6 (List.mem_of_getElem? (i := 53) rfl)
theorem wm6_54 : Cond.selects "HedgeMessages" yX10_messagesQueued yX10_messagesQueued ∈ lw_tbl := in_t6 (List.mem_of_getElem? (i := 54) rfl)
theorem wm6_55 : Cond.code yX10_messagesQueued prog_1_method_40_code 2 (Option.some Jvm.ClassFile.FieldType.int) ∈ lw_tbl := in_t6 (List.mem_of_getElem? (i := 55) rfl)
theorem wm6_56 : Cond.methodLink "HedgeMessagesLaw" 282 yL_messagesDelivered ∈ lw_tbl := in_t6 (List.mem_of_getElem? (i := 56) rfl)
theorem wm6_57 : Cond.static yL_messagesDelivered ∈ lw_tbl := in_t6 (List.mem_of_getElem? (i := 57) rfl)
theorem wm6_59 : Cond.methodLink "HedgeMessagesLaw" 99 yX10_messagesDelivered ∈ lw_tbl := in_t6 (List.mem_of_getElem? (i := 59) rfl)
theorem wm6_60 : Cond.instanceMethod yX10_messagesDelivered ∈ lw_tbl := in_t6 (List.mem_of_getElem? (i := 60) rfl)
theorem wm6_61 : Cond.selects "HedgeMessages" yX10_messagesDelivered yX10_messagesDelivered ∈ lw_tbl := in_t6 (List.mem_of_getElem? (i := 61) rfl)
theorem wm6_62 : Cond.code yX10_messagesDelivered prog_1_method_41_code 2 (Option.some Jvm.ClassFile.FieldType.int) ∈ lw_tbl := in_t6 (List.mem_of_getElem? (i := 62) rfl)
theorem wm6_63 : Cond.methodLink "HedgeMessagesLaw" 285 yL_messagesFailed ∈ lw_tbl := in_t6 (List.mem_of_getElem? (i := 63) rfl)
theorem wm6_64 : Cond.static yL_messagesFailed ∈ lw_tbl := in_t6 (List.mem_of_getElem? (i := 64) rfl)
theorem wm6_66 : Cond.methodLink "HedgeMessagesLaw" 102 yX10_messagesFailed ∈ lw_tbl := in_t6 (List.mem_of_getElem? (i := 66) rfl)
theorem wm6_67 : Cond.instanceMethod yX10_messagesFailed ∈ lw_tbl := in_t6 (List.mem_of_getElem? (i := 67) rfl)
theorem wm6_68 : Cond.selects "HedgeMessages" yX10_messagesFailed yX10_messagesFailed ∈ lw_tbl := in_t6 (List.mem_of_getElem? (i := 68) rfl)
theorem wm6_69 : Cond.code yX10_messagesFailed prog_1_method_42_code 2 (Option.some Jvm.ClassFile.FieldType.int) ∈ lw_tbl := in_t6 (List.mem_of_getElem? (i := 69) rfl)
theorem wm6_70 : Cond.methodLink "HedgeMessagesLaw" 288 yL_messagesDropped ∈ lw_tbl := in_t6 (List.mem_of_getElem? (i := 70) rfl)
theorem wm6_71 : Cond.static yL_messagesDropped ∈ lw_tbl := in_t6 (List.mem_of_getElem? (i := 71) rfl)
theorem wm6_73 : Cond.methodLink "HedgeMessagesLaw" 105 yX10_messagesDropped ∈ lw_tbl := in_t6 (List.mem_of_getElem? (i := 73) rfl)
theorem wm6_74 : Cond.instanceMethod yX10_messagesDropped ∈ lw_tbl := in_t6 (List.mem_of_getElem? (i := 74) rfl)
theorem wm6_75 : Cond.selects "HedgeMessages" yX10_messagesDropped yX10_messagesDropped ∈ lw_tbl := in_t6 (List.mem_of_getElem? (i := 75) rfl)
theorem wm6_76 : Cond.code yX10_messagesDropped prog_1_method_43_code 2 (Option.some Jvm.ClassFile.FieldType.int) ∈ lw_tbl := in_t6 (List.mem_of_getElem? (i := 76) rfl)
theorem wm6_77 : Cond.methodLink "HedgeMessagesLaw" 325 yL_plant ∈ lw_tbl := in_t6 (List.mem_of_getElem? (i := 77) rfl)
theorem wm6_78 : Cond.static yL_plant ∈ lw_tbl := in_t6 (List.mem_of_getElem? (i := 78) rfl)
theorem wm6_80 : Cond.methodLink "HedgeMessagesLaw" 108 yX10_plant ∈ lw_tbl := in_t6 (List.mem_of_getElem? (i := 80) rfl)
theorem wm6_81 : Cond.instanceMethod yX10_plant ∈ lw_tbl := in_t6 (List.mem_of_getElem? (i := 81) rfl)
theorem wm6_82 : Cond.selects "HedgeMessages" yX10_plant yX10_plant ∈ lw_tbl := in_t6 (List.mem_of_getElem? (i := 82) rfl)
theorem wm6_83 : Cond.code yX10_plant prog_1_method_52_code 3 (Option.some Jvm.ClassFile.FieldType.int) ∈ lw_tbl := in_t6 (List.mem_of_getElem? (i := 83) rfl)
theorem wm6_84 : Cond.methodLink "HedgeMessages" 298 yX10_isLetter ∈ lw_tbl := in_t6 (List.mem_of_getElem? (i := 84) rfl)
theorem wm6_87 : Cond.methodLink "HedgeMessagesLaw" 328 yL_remove ∈ lw_tbl := in_t6 (List.mem_of_getElem? (i := 87) rfl)
theorem wm6_88 : Cond.static yL_remove ∈ lw_tbl := in_t6 (List.mem_of_getElem? (i := 88) rfl)
theorem wm6_90 : Cond.methodLink "HedgeMessagesLaw" 111 yX10_remove ∈ lw_tbl := in_t6 (List.mem_of_getElem? (i := 90) rfl)
theorem wm6_91 : Cond.instanceMethod yX10_remove ∈ lw_tbl := in_t6 (List.mem_of_getElem? (i := 91) rfl)
theorem wm6_92 : Cond.selects "HedgeMessages" yX10_remove yX10_remove ∈ lw_tbl := in_t6 (List.mem_of_getElem? (i := 92) rfl)
theorem wm6_93 : Cond.code yX10_remove prog_1_method_53_code 3 (Option.some Jvm.ClassFile.FieldType.int) ∈ lw_tbl := in_t6 (List.mem_of_getElem? (i := 93) rfl)
theorem wm6_95 : Cond.methodLink "HedgeMessagesLaw" 331 yL_trim ∈ lw_tbl := in_t6 (List.mem_of_getElem? (i := 95) rfl)
theorem wm6_96 : Cond.static yL_trim ∈ lw_tbl := in_t6 (List.mem_of_getElem? (i := 96) rfl)
theorem wm6_98 : Cond.methodLink "HedgeMessagesLaw" 114 yX10_trim ∈ lw_tbl := in_t6 (List.mem_of_getElem? (i := 98) rfl)
theorem wm6_99 : Cond.instanceMethod yX10_trim ∈ lw_tbl := in_t6 (List.mem_of_getElem? (i := 99) rfl)
theorem wm6_100 : Cond.selects "HedgeMessages" yX10_trim yX10_trim ∈ lw_tbl := in_t6 (List.mem_of_getElem? (i := 100) rfl)
theorem wm6_101 : Cond.code yX10_trim prog_1_method_54_code 3 (Option.some Jvm.ClassFile.FieldType.int) ∈ lw_tbl := in_t6 (List.mem_of_getElem? (i := 101) rfl)
theorem wm6_104 : Cond.methodLink "HedgeMessagesLaw" 334 yL_addNest ∈ lw_tbl := in_t6 (List.mem_of_getElem? (i := 104) rfl)
theorem wm6_105 : Cond.static yL_addNest ∈ lw_tbl := in_t6 (List.mem_of_getElem? (i := 105) rfl)
theorem wm6_107 : Cond.methodLink "HedgeMessagesLaw" 117 yX10_addNest ∈ lw_tbl := in_t6 (List.mem_of_getElem? (i := 107) rfl)
theorem wm6_108 : Cond.instanceMethod yX10_addNest ∈ lw_tbl := in_t6 (List.mem_of_getElem? (i := 108) rfl)
theorem wm6_109 : Cond.selects "HedgeMessages" yX10_addNest yX10_addNest ∈ lw_tbl := in_t6 (List.mem_of_getElem? (i := 109) rfl)
theorem wm6_110 : Cond.code yX10_addNest prog_1_method_55_code 3 (Option.some Jvm.ClassFile.FieldType.int) ∈ lw_tbl := in_t6 (List.mem_of_getElem? (i := 110) rfl)
theorem wm6_113 : Cond.methodLink "HedgeMessagesLaw" 337 yL_queueMessage ∈ lw_tbl := in_t6 (List.mem_of_getElem? (i := 113) rfl)
theorem wm6_114 : Cond.static yL_queueMessage ∈ lw_tbl := in_t6 (List.mem_of_getElem? (i := 114) rfl)
theorem wm6_116 : Cond.methodLink "HedgeMessagesLaw" 120 yX10_queueMessage ∈ lw_tbl := in_t6 (List.mem_of_getElem? (i := 116) rfl)
theorem wm6_117 : Cond.instanceMethod yX10_queueMessage ∈ lw_tbl := in_t6 (List.mem_of_getElem? (i := 117) rfl)
theorem wm6_118 : Cond.selects "HedgeMessages" yX10_queueMessage yX10_queueMessage ∈ lw_tbl := in_t6 (List.mem_of_getElem? (i := 118) rfl)
theorem wm6_119 : Cond.code yX10_queueMessage prog_1_method_56_code 2 (Option.some Jvm.ClassFile.FieldType.int) ∈ lw_tbl := in_t6 (List.mem_of_getElem? (i := 119) rfl)
theorem wm6_120 : Cond.methodLink "HedgeMessages" 336 yX9_isOneWord ∈ lw_tbl := in_t6 (List.mem_of_getElem? (i := 120) rfl)
theorem wm6_121 : Cond.instanceMethod yX9_isOneWord ∈ lw_tbl := in_t6 (List.mem_of_getElem? (i := 121) rfl)
theorem wm6_122 : Cond.selects "HedgeMessages$Text" yX9_isOneWord yX9_isOneWord ∈ lw_tbl := in_t6 (List.mem_of_getElem? (i := 122) rfl)
theorem wm6_123 : Cond.code yX9_isOneWord prog_11_method_3_code 2 (Option.some Jvm.ClassFile.FieldType.boolean) ∈ lw_tbl := in_t6 (List.mem_of_getElem? (i := 123) rfl)
theorem wm6_126 : Cond.methodLink "HedgeMessagesLaw" 340 yL_cancelMessage ∈ lw_tbl := in_t6 (List.mem_of_getElem? (i := 126) rfl)
theorem wm6_127 : Cond.static yL_cancelMessage ∈ lw_tbl := in_t6 (List.mem_of_getElem? (i := 127) rfl)
theorem wm6_129 : Cond.methodLink "HedgeMessagesLaw" 123 yX10_cancelMessage ∈ lw_tbl := in_t6 (List.mem_of_getElem? (i := 129) rfl)
theorem wm6_130 : Cond.instanceMethod yX10_cancelMessage ∈ lw_tbl := in_t6 (List.mem_of_getElem? (i := 130) rfl)
theorem wm6_131 : Cond.selects "HedgeMessages" yX10_cancelMessage yX10_cancelMessage ∈ lw_tbl := in_t6 (List.mem_of_getElem? (i := 131) rfl)
theorem wm6_132 : Cond.code yX10_cancelMessage prog_1_method_57_code 4 (Option.some Jvm.ClassFile.FieldType.int) ∈ lw_tbl := in_t6 (List.mem_of_getElem? (i := 132) rfl)
theorem wm6_134 : Cond.methodLink "HedgeMessagesLaw" 343 yL_setWorkLimit ∈ lw_tbl := in_t6 (List.mem_of_getElem? (i := 134) rfl)
theorem wm6_135 : Cond.static yL_setWorkLimit ∈ lw_tbl := in_t6 (List.mem_of_getElem? (i := 135) rfl)
theorem wm6_137 : Cond.methodLink "HedgeMessagesLaw" 126 yX10_setWorkLimit ∈ lw_tbl := in_t6 (List.mem_of_getElem? (i := 137) rfl)
theorem wm6_138 : Cond.instanceMethod yX10_setWorkLimit ∈ lw_tbl := in_t6 (List.mem_of_getElem? (i := 138) rfl)
theorem wm6_139 : Cond.selects "HedgeMessages" yX10_setWorkLimit yX10_setWorkLimit ∈ lw_tbl := in_t6 (List.mem_of_getElem? (i := 139) rfl)
theorem wm6_140 : Cond.code yX10_setWorkLimit prog_1_method_58_code 3 (Option.some Jvm.ClassFile.FieldType.int) ∈ lw_tbl := in_t6 (List.mem_of_getElem? (i := 140) rfl)
theorem wm6_142 : Cond.methodLink "HedgeMessagesLaw" 346 yL_endDays ∈ lw_tbl := in_t6 (List.mem_of_getElem? (i := 142) rfl)
theorem wm6_143 : Cond.static yL_endDays ∈ lw_tbl := in_t6 (List.mem_of_getElem? (i := 143) rfl)
theorem wm6_145 : Cond.methodLink "HedgeMessagesLaw" 129 yX10_endDays ∈ lw_tbl := in_t6 (List.mem_of_getElem? (i := 145) rfl)
theorem wm6_146 : Cond.instanceMethod yX10_endDays ∈ lw_tbl := in_t6 (List.mem_of_getElem? (i := 146) rfl)
theorem wm6_147 : Cond.selects "HedgeMessages" yX10_endDays yX10_endDays ∈ lw_tbl := in_t6 (List.mem_of_getElem? (i := 147) rfl)
theorem wm6_148 : Cond.code yX10_endDays prog_1_method_59_code 4 (Option.some Jvm.ClassFile.FieldType.int) ∈ lw_tbl := in_t6 (List.mem_of_getElem? (i := 148) rfl)
theorem wm6_149 : Cond.methodLink "HedgeMessagesLaw" 349 yL_undo ∈ lw_tbl := in_t6 (List.mem_of_getElem? (i := 149) rfl)
theorem wm6_150 : Cond.static yL_undo ∈ lw_tbl := in_t6 (List.mem_of_getElem? (i := 150) rfl)
theorem wm6_152 : Cond.methodLink "HedgeMessagesLaw" 132 yX10_undo ∈ lw_tbl := in_t6 (List.mem_of_getElem? (i := 152) rfl)
theorem wm6_153 : Cond.instanceMethod yX10_undo ∈ lw_tbl := in_t6 (List.mem_of_getElem? (i := 153) rfl)
theorem wm6_154 : Cond.selects "HedgeMessages" yX10_undo yX10_undo ∈ lw_tbl := in_t6 (List.mem_of_getElem? (i := 154) rfl)
theorem wm6_155 : Cond.code yX10_undo prog_1_method_60_code 1 (Option.some Jvm.ClassFile.FieldType.int) ∈ lw_tbl := in_t6 (List.mem_of_getElem? (i := 155) rfl)
theorem wm6_157 : Cond.methodLink "HedgeMessages" 370 yX6_takeBack ∈ lw_tbl := in_t6 (List.mem_of_getElem? (i := 157) rfl)
theorem wm6_158 : Cond.instanceMethod yX6_takeBack ∈ lw_tbl := in_t6 (List.mem_of_getElem? (i := 158) rfl)
theorem wm6_159 : Cond.selects "HedgeMessages$History" yX6_takeBack yX6_takeBack ∈ lw_tbl := in_t6 (List.mem_of_getElem? (i := 159) rfl)
theorem wm6_160 : Cond.code yX6_takeBack prog_8_method_4_code 3 (Option.none : Option Jvm.ClassFile.FieldType) ∈ lw_tbl := in_t6 (List.mem_of_getElem? (i := 160) rfl)
theorem wm6_161 : Cond.methodLink "HedgeMessagesLaw" 356 yL_restore ∈ lw_tbl := in_t6 (List.mem_of_getElem? (i := 161) rfl)
theorem wm6_162 : Cond.static yL_restore ∈ lw_tbl := in_t6 (List.mem_of_getElem? (i := 162) rfl)
theorem wm6_164 : Cond.methodLink "HedgeMessagesLaw" 135 yX10_restore ∈ lw_tbl := in_t6 (List.mem_of_getElem? (i := 164) rfl)
theorem wm6_165 : Cond.instanceMethod yX10_restore ∈ lw_tbl := in_t6 (List.mem_of_getElem? (i := 165) rfl)
theorem wm6_166 : Cond.selects "HedgeMessages" yX10_restore yX10_restore ∈ lw_tbl := in_t6 (List.mem_of_getElem? (i := 166) rfl)
theorem wm6_167 : Cond.code yX10_restore prog_1_method_62_code 1 (Option.some Jvm.ClassFile.FieldType.int) ∈ lw_tbl := in_t6 (List.mem_of_getElem? (i := 167) rfl)
theorem wm6_169 : Cond.classLink "HedgeMessagesLaw" 139 "HedgeMessagesModel" ∈ lw_tbl := in_t6 (List.mem_of_getElem? (i := 169) rfl)
theorem wm6_170 : Cond.instantiable "HedgeMessagesModel" 23 ∈ lw_tbl := in_t6 (List.mem_of_getElem? (i := 170) rfl)
theorem wm6_171 : Cond.methodLink "HedgeMessagesLaw" 141 yX11_init ∈ lw_tbl := in_t6 (List.mem_of_getElem? (i := 171) rfl)
theorem wm6_172 : Cond.instanceMethod yX11_init ∈ lw_tbl := in_t6 (List.mem_of_getElem? (i := 172) rfl)
theorem wm6_173 : Cond.code yX11_init prog_13_method_1_code 3 (Option.none : Option Jvm.ClassFile.FieldType) ∈ lw_tbl := in_t6 (List.mem_of_getElem? (i := 173) rfl)
theorem wm6_174 : Cond.methodLink "HedgeMessagesModel" 1 ({ cls := "java/lang/Object", name := "<init>", desc := "()V" } : Jvm.MethodName) ∈ lw_tbl := in_t6 (List.mem_of_getElem? (i := 174) rfl)
theorem wm6_176 : Cond.methodLink "HedgeMessagesModel" 43 yJ0_length_8abf5 ∈ lw_tbl := in_t6 (List.mem_of_getElem? (i := 176) rfl)
theorem wm6_177 : Cond.methodLink "HedgeMessagesModel" 49 yJ0_charAt_5068e ∈ lw_tbl := in_t6 (List.mem_of_getElem? (i := 177) rfl)
theorem wm6_178 : Cond.methodLink "HedgeMessagesModel" 55 yX11_load ∈ lw_tbl := in_t6 (List.mem_of_getElem? (i := 178) rfl)
theorem wm6_179 : Cond.instanceMethod yX11_load ∈ lw_tbl := in_t6 (List.mem_of_getElem? (i := 179) rfl)
theorem wm6_180 : Cond.selects "HedgeMessagesModel" yX11_load yX11_load ∈ lw_tbl := in_t6 (List.mem_of_getElem? (i := 180) rfl)
theorem wm6_181 : Cond.code yX11_load prog_13_method_88_code 2 (Option.some Jvm.ClassFile.FieldType.int) ∈ lw_tbl := in_t6 (List.mem_of_getElem? (i := 181) rfl)
theorem wm6_182 : Cond.methodLink "HedgeMessagesModel" 61 yX11_copies ∈ lw_tbl := in_t6 (List.mem_of_getElem? (i := 182) rfl)
theorem wm6_183 : Cond.static yX11_copies ∈ lw_tbl := in_t6 (List.mem_of_getElem? (i := 183) rfl)
theorem wm6_184 : Cond.code yX11_copies prog_13_method_8_code 5 (Option.none : Option Jvm.ClassFile.FieldType) ∈ lw_tbl := in_t6 (List.mem_of_getElem? (i := 184) rfl)
theorem wm6_185 : Cond.methodLink "HedgeMessagesModel" 308 yX11_startsText ∈ lw_tbl := in_t6 (List.mem_of_getElem? (i := 185) rfl)
theorem wm6_187 : Cond.instanceMethod yX11_startsText ∈ lw_tbl := in_t6 (List.mem_of_getElem? (i := 187) rfl)
theorem wm6_188 : Cond.code yX11_startsText prog_13_method_79_code 1 (Option.none : Option Jvm.ClassFile.FieldType) ∈ lw_tbl := in_t6 (List.mem_of_getElem? (i := 188) rfl)
theorem wm6_189 : Cond.methodLink "HedgeMessagesModel" 311 yX11_hedgeLine ∈ lw_tbl := in_t6 (List.mem_of_getElem? (i := 189) rfl)
theorem wm6_191 : Cond.instanceMethod yX11_hedgeLine ∈ lw_tbl := in_t6 (List.mem_of_getElem? (i := 191) rfl)
theorem wm6_192 : Cond.code yX11_hedgeLine prog_13_method_83_code 1 (Option.none : Option Jvm.ClassFile.FieldType) ∈ lw_tbl := in_t6 (List.mem_of_getElem? (i := 192) rfl)
theorem wm6_194 : Cond.methodLink "HedgeMessagesModel" 274 yX11_sees ∈ lw_tbl := in_t6 (List.mem_of_getElem? (i := 194) rfl)
theorem wm6_196 : Cond.instanceMethod yX11_sees ∈ lw_tbl := in_t6 (List.mem_of_getElem? (i := 196) rfl)
theorem wm6_197 : Cond.code yX11_sees prog_13_method_72_code 4 (Option.some Jvm.ClassFile.FieldType.boolean) ∈ lw_tbl := in_t6 (List.mem_of_getElem? (i := 197) rfl)
theorem wm6_198 : Cond.methodLink "HedgeMessagesModel" 250 yX11_next ∈ lw_tbl := in_t6 (List.mem_of_getElem? (i := 198) rfl)
theorem wm6_200 : Cond.instanceMethod yX11_next ∈ lw_tbl := in_t6 (List.mem_of_getElem? (i := 200) rfl)
theorem wm6_201 : Cond.code yX11_next prog_13_method_70_code 1 (Option.some Jvm.ClassFile.FieldType.int) ∈ lw_tbl := in_t6 (List.mem_of_getElem? (i := 201) rfl)
theorem wm6_202 : Cond.methodLink "HedgeMessagesModel" 231 yX11_byteAt ∈ lw_tbl := in_t6 (List.mem_of_getElem? (i := 202) rfl)
theorem wm6_204 : Cond.instanceMethod yX11_byteAt ∈ lw_tbl := in_t6 (List.mem_of_getElem? (i := 204) rfl)
theorem wm6_205 : Cond.code yX11_byteAt prog_13_method_69_code 2 (Option.some Jvm.ClassFile.FieldType.int) ∈ lw_tbl := in_t6 (List.mem_of_getElem? (i := 205) rfl)
theorem wm6_206 : Cond.constantLong "HedgeMessagesModel" 240 (97 : Int64) ∈ lw_tbl := in_t6 (List.mem_of_getElem? (i := 206) rfl)
theorem wm6_207 : Cond.constantLong "HedgeMessagesModel" 242 (122 : Int64) ∈ lw_tbl := in_t6 (List.mem_of_getElem? (i := 207) rfl)
theorem wm6_208 : Cond.methodLink "HedgeMessagesModel" 65 yX11_in ∈ lw_tbl := in_t6 (List.mem_of_getElem? (i := 208) rfl)
theorem wm6_209 : Cond.static yX11_in ∈ lw_tbl := in_t6 (List.mem_of_getElem? (i := 209) rfl)
theorem wm6_210 : Cond.code yX11_in prog_13_method_3_code 6 (Option.some Jvm.ClassFile.FieldType.boolean) ∈ lw_tbl := in_t6 (List.mem_of_getElem? (i := 210) rfl)
theorem wm6_211 : Cond.methodLink "HedgeMessagesModel" 253 yX11_must ∈ lw_tbl := in_t6 (List.mem_of_getElem? (i := 211) rfl)
theorem wm6_213 : Cond.instanceMethod yX11_must ∈ lw_tbl := in_t6 (List.mem_of_getElem? (i := 213) rfl)
theorem wm6_214 : Cond.code yX11_must prog_13_method_71_code 3 (Option.none : Option Jvm.ClassFile.FieldType) ∈ lw_tbl := in_t6 (List.mem_of_getElem? (i := 214) rfl)
theorem wm6_215 : Cond.methodLink "HedgeMessagesModel" 261 yX11_goesPast ∈ lw_tbl := in_t6 (List.mem_of_getElem? (i := 215) rfl)
theorem wm6_217 : Cond.instanceMethod yX11_goesPast ∈ lw_tbl := in_t6 (List.mem_of_getElem? (i := 217) rfl)
theorem wm6_218 : Cond.code yX11_goesPast prog_13_method_73_code 1 (Option.none : Option Jvm.ClassFile.FieldType) ∈ lw_tbl := in_t6 (List.mem_of_getElem? (i := 218) rfl)
theorem wm6_219 : Cond.methodLink "HedgeMessagesModel" 278 yX11_number ∈ lw_tbl := in_t6 (List.mem_of_getElem? (i := 219) rfl)
theorem wm6_221 : Cond.instanceMethod yX11_number ∈ lw_tbl := in_t6 (List.mem_of_getElem? (i := 221) rfl)
theorem wm6_222 : Cond.code yX11_number prog_13_method_75_code 4 (Option.some Jvm.ClassFile.FieldType.int) ∈ lw_tbl := in_t6 (List.mem_of_getElem? (i := 222) rfl)
theorem wm6_223 : Cond.constantLong "HedgeMessagesModel" 257 (48 : Int64) ∈ lw_tbl := in_t6 (List.mem_of_getElem? (i := 223) rfl)
theorem wm6_224 : Cond.constantLong "HedgeMessagesModel" 259 (57 : Int64) ∈ lw_tbl := in_t6 (List.mem_of_getElem? (i := 224) rfl)
theorem wm6_225 : Cond.methodLink "HedgeMessagesModel" 281 yX11_semicolon ∈ lw_tbl := in_t6 (List.mem_of_getElem? (i := 225) rfl)
theorem wm6_227 : Cond.instanceMethod yX11_semicolon ∈ lw_tbl := in_t6 (List.mem_of_getElem? (i := 227) rfl)
theorem wm6_228 : Cond.code yX11_semicolon prog_13_method_74_code 1 (Option.none : Option Jvm.ClassFile.FieldType) ∈ lw_tbl := in_t6 (List.mem_of_getElem? (i := 228) rfl)
theorem wm6_229 : Cond.methodLink "HedgeMessagesModel" 314 yX11_statement ∈ lw_tbl := in_t6 (List.mem_of_getElem? (i := 229) rfl)
theorem wm6_231 : Cond.instanceMethod yX11_statement ∈ lw_tbl := in_t6 (List.mem_of_getElem? (i := 231) rfl)
theorem wm6_232 : Cond.code yX11_statement prog_13_method_87_code 2 (Option.none : Option Jvm.ClassFile.FieldType) ∈ lw_tbl := in_t6 (List.mem_of_getElem? (i := 232) rfl)
theorem wm6_234 : Cond.methodLink "HedgeMessagesModel" 295 yX11_twigLine ∈ lw_tbl := in_t6 (List.mem_of_getElem? (i := 234) rfl)
theorem wm6_236 : Cond.instanceMethod yX11_twigLine ∈ lw_tbl := in_t6 (List.mem_of_getElem? (i := 236) rfl)
theorem wm6_237 : Cond.code yX11_twigLine prog_13_method_84_code 5 (Option.none : Option Jvm.ClassFile.FieldType) ∈ lw_tbl := in_t6 (List.mem_of_getElem? (i := 237) rfl)
theorem wm6_238 : Cond.methodLink "HedgeMessagesModel" 84 yX11_hasTwig ∈ lw_tbl := in_t6 (List.mem_of_getElem? (i := 238) rfl)
theorem wm7_0 : Cond.instanceMethod yX11_hasTwig ∈ lw_tbl := in_t7 (List.mem_of_getElem? (i := 0) rfl)
theorem wm7_1 : Cond.code yX11_hasTwig prog_13_method_15_code 2 (Option.some Jvm.ClassFile.FieldType.boolean) ∈ lw_tbl := in_t7 (List.mem_of_getElem? (i := 1) rfl)
theorem wm7_2 : Cond.methodLink "HedgeMessagesModel" 69 yX11_of ∈ lw_tbl := in_t7 (List.mem_of_getElem? (i := 2) rfl)
theorem wm7_4 : Cond.instanceMethod yX11_of ∈ lw_tbl := in_t7 (List.mem_of_getElem? (i := 4) rfl)
theorem wm7_5 : Cond.code yX11_of prog_13_method_11_code 3 (Option.some Jvm.ClassFile.FieldType.int) ∈ lw_tbl := in_t7 (List.mem_of_getElem? (i := 5) rfl)
theorem wm7_6 : Cond.methodLink "HedgeMessagesModel" 284 yX11_letterHere ∈ lw_tbl := in_t7 (List.mem_of_getElem? (i := 6) rfl)
theorem wm7_8 : Cond.instanceMethod yX11_letterHere ∈ lw_tbl := in_t7 (List.mem_of_getElem? (i := 8) rfl)
theorem wm7_9 : Cond.code yX11_letterHere prog_13_method_76_code 2 (Option.some Jvm.ClassFile.FieldType.int) ∈ lw_tbl := in_t7 (List.mem_of_getElem? (i := 9) rfl)
theorem wm7_10 : Cond.methodLink "HedgeMessagesModel" 143 yX11_twigComes ∈ lw_tbl := in_t7 (List.mem_of_getElem? (i := 10) rfl)
theorem wm7_12 : Cond.instanceMethod yX11_twigComes ∈ lw_tbl := in_t7 (List.mem_of_getElem? (i := 12) rfl)
theorem wm7_13 : Cond.code yX11_twigComes prog_13_method_20_code 6 (Option.none : Option Jvm.ClassFile.FieldType) ∈ lw_tbl := in_t7 (List.mem_of_getElem? (i := 13) rfl)
theorem wm7_14 : Cond.methodLink "HedgeMessagesModel" 87 yX11_puts ∈ lw_tbl := in_t7 (List.mem_of_getElem? (i := 14) rfl)
theorem wm7_16 : Cond.instanceMethod yX11_puts ∈ lw_tbl := in_t7 (List.mem_of_getElem? (i := 16) rfl)
theorem wm7_17 : Cond.code yX11_puts prog_13_method_12_code 4 (Option.none : Option Jvm.ClassFile.FieldType) ∈ lw_tbl := in_t7 (List.mem_of_getElem? (i := 17) rfl)
theorem wm7_19 : Cond.methodLink "HedgeMessagesModel" 300 yX11_nestLine ∈ lw_tbl := in_t7 (List.mem_of_getElem? (i := 19) rfl)
theorem wm7_21 : Cond.instanceMethod yX11_nestLine ∈ lw_tbl := in_t7 (List.mem_of_getElem? (i := 21) rfl)
theorem wm7_22 : Cond.code yX11_nestLine prog_13_method_85_code 3 (Option.none : Option Jvm.ClassFile.FieldType) ∈ lw_tbl := in_t7 (List.mem_of_getElem? (i := 22) rfl)
theorem wm7_23 : Cond.methodLink "HedgeMessagesModel" 77 yX11_hasNest ∈ lw_tbl := in_t7 (List.mem_of_getElem? (i := 23) rfl)
theorem wm7_25 : Cond.instanceMethod yX11_hasNest ∈ lw_tbl := in_t7 (List.mem_of_getElem? (i := 25) rfl)
theorem wm7_26 : Cond.code yX11_hasNest prog_13_method_16_code 2 (Option.some Jvm.ClassFile.FieldType.boolean) ∈ lw_tbl := in_t7 (List.mem_of_getElem? (i := 26) rfl)
theorem wm7_27 : Cond.methodLink "HedgeMessagesModel" 73 yX11_isSlot ∈ lw_tbl := in_t7 (List.mem_of_getElem? (i := 27) rfl)
theorem wm7_29 : Cond.instanceMethod yX11_isSlot ∈ lw_tbl := in_t7 (List.mem_of_getElem? (i := 29) rfl)
theorem wm7_30 : Cond.code yX11_isSlot prog_13_method_13_code 2 (Option.some Jvm.ClassFile.FieldType.boolean) ∈ lw_tbl := in_t7 (List.mem_of_getElem? (i := 30) rfl)
theorem wm7_31 : Cond.methodLink "HedgeMessagesModel" 209 yX11_nests ∈ lw_tbl := in_t7 (List.mem_of_getElem? (i := 31) rfl)
theorem wm7_33 : Cond.instanceMethod yX11_nests ∈ lw_tbl := in_t7 (List.mem_of_getElem? (i := 33) rfl)
theorem wm7_34 : Cond.code yX11_nests prog_13_method_18_code 3 (Option.some Jvm.ClassFile.FieldType.int) ∈ lw_tbl := in_t7 (List.mem_of_getElem? (i := 34) rfl)
theorem wm7_35 : Cond.methodLink "HedgeMessagesModel" 80 yX11_truth ∈ lw_tbl := in_t7 (List.mem_of_getElem? (i := 35) rfl)
theorem wm7_36 : Cond.static yX11_truth ∈ lw_tbl := in_t7 (List.mem_of_getElem? (i := 36) rfl)
theorem wm7_37 : Cond.code yX11_truth prog_13_method_4_code 1 (Option.some Jvm.ClassFile.FieldType.int) ∈ lw_tbl := in_t7 (List.mem_of_getElem? (i := 37) rfl)
theorem wm7_39 : Cond.methodLink "HedgeMessagesModel" 305 yX11_messageLine ∈ lw_tbl := in_t7 (List.mem_of_getElem? (i := 39) rfl)
theorem wm7_41 : Cond.instanceMethod yX11_messageLine ∈ lw_tbl := in_t7 (List.mem_of_getElem? (i := 41) rfl)
theorem wm7_42 : Cond.code yX11_messageLine prog_13_method_86_code 3 (Option.none : Option Jvm.ClassFile.FieldType) ∈ lw_tbl := in_t7 (List.mem_of_getElem? (i := 42) rfl)
theorem wm7_43 : Cond.methodLink "HedgeMessagesModel" 287 yX11_wordHere ∈ lw_tbl := in_t7 (List.mem_of_getElem? (i := 43) rfl)
theorem wm7_45 : Cond.instanceMethod yX11_wordHere ∈ lw_tbl := in_t7 (List.mem_of_getElem? (i := 45) rfl)
theorem wm7_46 : Cond.code yX11_wordHere prog_13_method_78_code 2 (Option.none : Option Jvm.ClassFile.FieldType) ∈ lw_tbl := in_t7 (List.mem_of_getElem? (i := 46) rfl)
theorem wm7_47 : Cond.constantLong "HedgeMessagesModel" 264 (12 : Int64) ∈ lw_tbl := in_t7 (List.mem_of_getElem? (i := 47) rfl)
theorem wm7_48 : Cond.methodLink "HedgeMessagesModel" 266 yX11_takesWord ∈ lw_tbl := in_t7 (List.mem_of_getElem? (i := 48) rfl)
theorem wm7_50 : Cond.instanceMethod yX11_takesWord ∈ lw_tbl := in_t7 (List.mem_of_getElem? (i := 50) rfl)
theorem wm7_51 : Cond.code yX11_takesWord prog_13_method_77_code 4 (Option.none : Option Jvm.ClassFile.FieldType) ∈ lw_tbl := in_t7 (List.mem_of_getElem? (i := 51) rfl)
theorem wm7_52 : Cond.methodLink "HedgeMessagesModel" 290 yX11_messageNow ∈ lw_tbl := in_t7 (List.mem_of_getElem? (i := 52) rfl)
theorem wm7_54 : Cond.instanceMethod yX11_messageNow ∈ lw_tbl := in_t7 (List.mem_of_getElem? (i := 54) rfl)
theorem wm7_55 : Cond.code yX11_messageNow prog_13_method_61_code 4 (Option.some Jvm.ClassFile.FieldType.boolean) ∈ lw_tbl := in_t7 (List.mem_of_getElem? (i := 55) rfl)
theorem wm7_56 : Cond.methodLink "HedgeMessagesModel" 114 yX11_waitingAt ∈ lw_tbl := in_t7 (List.mem_of_getElem? (i := 56) rfl)
theorem wm7_57 : Cond.static yX11_waitingAt ∈ lw_tbl := in_t7 (List.mem_of_getElem? (i := 57) rfl)
theorem wm7_58 : Cond.code yX11_waitingAt prog_13_method_25_code 2 (Option.some Jvm.ClassFile.FieldType.int) ∈ lw_tbl := in_t7 (List.mem_of_getElem? (i := 58) rfl)
theorem wm7_59 : Cond.methodLink "HedgeMessagesModel" 317 yX11_endsText ∈ lw_tbl := in_t7 (List.mem_of_getElem? (i := 59) rfl)
theorem wm7_61 : Cond.instanceMethod yX11_endsText ∈ lw_tbl := in_t7 (List.mem_of_getElem? (i := 61) rfl)
theorem wm7_62 : Cond.code yX11_endsText prog_13_method_80_code 1 (Option.some Jvm.ClassFile.FieldType.boolean) ∈ lw_tbl := in_t7 (List.mem_of_getElem? (i := 62) rfl)
theorem wm7_63 : Cond.methodLink "HedgeMessagesModel" 221 yX11_passes ∈ lw_tbl := in_t7 (List.mem_of_getElem? (i := 63) rfl)
theorem wm7_65 : Cond.instanceMethod yX11_passes ∈ lw_tbl := in_t7 (List.mem_of_getElem? (i := 65) rfl)
theorem wm7_66 : Cond.code yX11_passes prog_13_method_5_code 2 (Option.some Jvm.ClassFile.FieldType.boolean) ∈ lw_tbl := in_t7 (List.mem_of_getElem? (i := 66) rfl)
theorem wm7_67 : Cond.fieldLink "HedgeMessagesModel" 7 "HedgeMessagesModel" "s" "[I" ∈ lw_tbl := in_t7 (List.mem_of_getElem? (i := 67) rfl)
theorem wm7_68 : Cond.fieldLink "HedgeMessagesModel" 13 "HedgeMessagesModel" "saved" "[I" ∈ lw_tbl := in_t7 (List.mem_of_getElem? (i := 68) rfl)
theorem wm7_69 : Cond.fieldLink "HedgeMessagesModel" 16 "HedgeMessagesModel" "held" "[I" ∈ lw_tbl := in_t7 (List.mem_of_getElem? (i := 69) rfl)
theorem wm7_70 : Cond.fieldLink "HedgeMessagesModel" 19 "HedgeMessagesModel" "aside" "[I" ∈ lw_tbl := in_t7 (List.mem_of_getElem? (i := 70) rfl)
theorem wm7_71 : Cond.fieldLink "HedgeMessagesModel" 22 "HedgeMessagesModel" "past" "[I" ∈ lw_tbl := in_t7 (List.mem_of_getElem? (i := 71) rfl)
theorem wm7_72 : Cond.fieldLink "HedgeMessagesModel" 321 "HedgeMessagesModel" "pastMany" "I" ∈ lw_tbl := in_t7 (List.mem_of_getElem? (i := 72) rfl)
theorem wm7_73 : Cond.fieldLink "HedgeMessagesModel" 58 "HedgeMessagesModel" "thrown" "I" ∈ lw_tbl := in_t7 (List.mem_of_getElem? (i := 73) rfl)
theorem wm7_74 : Cond.fieldLink "HedgeMessagesModel" 442 "HedgeMessagesModel" "isSaved" "Z" ∈ lw_tbl := in_t7 (List.mem_of_getElem? (i := 74) rfl)
theorem wm7_75 : Cond.fieldLink "HedgeMessagesModel" 200 "HedgeMessagesModel" "answer" "I" ∈ lw_tbl := in_t7 (List.mem_of_getElem? (i := 75) rfl)
theorem wm7_76 : Cond.fieldLink "HedgeMessagesModel" 25 "HedgeMessagesModel" "word" "[I" ∈ lw_tbl := in_t7 (List.mem_of_getElem? (i := 76) rfl)
theorem wm7_77 : Cond.fieldLink "HedgeMessagesModel" 28 "HedgeMessagesModel" "buffer" "[I" ∈ lw_tbl := in_t7 (List.mem_of_getElem? (i := 77) rfl)
theorem wm7_78 : Cond.fieldLink "HedgeMessagesModel" 53 "HedgeMessagesModel" "length" "I" ∈ lw_tbl := in_t7 (List.mem_of_getElem? (i := 78) rfl)
theorem wm7_79 : Cond.fieldLink "HedgeMessagesModel" 228 "HedgeMessagesModel" "at" "I" ∈ lw_tbl := in_t7 (List.mem_of_getElem? (i := 79) rfl)
theorem wm7_80 : Cond.fieldLink "HedgeMessagesModel" 234 "HedgeMessagesModel" "begin" "I" ∈ lw_tbl := in_t7 (List.mem_of_getElem? (i := 80) rfl)
theorem wm7_81 : Cond.fieldLink "HedgeMessagesModel" 237 "HedgeMessagesModel" "wordLong" "I" ∈ lw_tbl := in_t7 (List.mem_of_getElem? (i := 81) rfl)
theorem wm7_82 : Cond.fieldLink "HedgeMessagesModel" 244 "HedgeMessagesModel" "error" "I" ∈ lw_tbl := in_t7 (List.mem_of_getElem? (i := 82) rfl)
theorem wm7_83 : Cond.fieldLink "HedgeMessagesModel" 247 "HedgeMessagesModel" "errorAt" "I" ∈ lw_tbl := in_t7 (List.mem_of_getElem? (i := 83) rfl)
theorem wm7_84 : Cond.fieldLink "HedgeMessagesModel" 269 "HedgeMessagesModel" "toldError" "I" ∈ lw_tbl := in_t7 (List.mem_of_getElem? (i := 84) rfl)
theorem wm7_85 : Cond.fieldLink "HedgeMessagesModel" 31 "HedgeMessagesModel" "toldAt" "I" ∈ lw_tbl := in_t7 (List.mem_of_getElem? (i := 85) rfl)
theorem wm7_86 : Cond.fieldLink "HedgeMessagesModel" 35 "HedgeMessagesModel" "told" "[I" ∈ lw_tbl := in_t7 (List.mem_of_getElem? (i := 86) rfl)
theorem wm7_87 : Cond.fieldLink "HedgeMessagesModel" 348 "HedgeMessagesModel" "toldMany" "I" ∈ lw_tbl := in_t7 (List.mem_of_getElem? (i := 87) rfl)
theorem wm7_88 : Cond.fieldLink "HedgeMessagesModel" 38 "HedgeMessagesModel" "output" "[I" ∈ lw_tbl := in_t7 (List.mem_of_getElem? (i := 88) rfl)
theorem wm7_89 : Cond.fieldLink "HedgeMessagesModel" 446 "HedgeMessagesModel" "outputLong" "I" ∈ lw_tbl := in_t7 (List.mem_of_getElem? (i := 89) rfl)
theorem wm7_90 : Cond.laysFinal "HedgeMessagesModel" "HedgeMessagesModel" "s" "[I" ∈ lw_tbl := in_t7 (List.mem_of_getElem? (i := 90) rfl)
theorem wm7_92 : Cond.laysFinal "HedgeMessagesModel" "HedgeMessagesModel" "saved" "[I" ∈ lw_tbl := in_t7 (List.mem_of_getElem? (i := 92) rfl)
theorem wm7_94 : Cond.laysFinal "HedgeMessagesModel" "HedgeMessagesModel" "held" "[I" ∈ lw_tbl := in_t7 (List.mem_of_getElem? (i := 94) rfl)
theorem wm7_96 : Cond.laysFinal "HedgeMessagesModel" "HedgeMessagesModel" "aside" "[I" ∈ lw_tbl := in_t7 (List.mem_of_getElem? (i := 96) rfl)
theorem wm7_98 : Cond.laysFinal "HedgeMessagesModel" "HedgeMessagesModel" "past" "[I" ∈ lw_tbl := in_t7 (List.mem_of_getElem? (i := 98) rfl)
theorem wm7_100 : Cond.lays "HedgeMessagesModel" "HedgeMessagesModel" "pastMany" "I" ∈ lw_tbl := in_t7 (List.mem_of_getElem? (i := 100) rfl)
theorem wm7_102 : Cond.lays "HedgeMessagesModel" "HedgeMessagesModel" "thrown" "I" ∈ lw_tbl := in_t7 (List.mem_of_getElem? (i := 102) rfl)
theorem wm7_104 : Cond.lays "HedgeMessagesModel" "HedgeMessagesModel" "isSaved" "Z" ∈ lw_tbl := in_t7 (List.mem_of_getElem? (i := 104) rfl)
theorem wm7_106 : Cond.lays "HedgeMessagesModel" "HedgeMessagesModel" "answer" "I" ∈ lw_tbl := in_t7 (List.mem_of_getElem? (i := 106) rfl)
theorem wm7_108 : Cond.laysFinal "HedgeMessagesModel" "HedgeMessagesModel" "word" "[I" ∈ lw_tbl := in_t7 (List.mem_of_getElem? (i := 108) rfl)
theorem wm7_110 : Cond.laysFinal "HedgeMessagesModel" "HedgeMessagesModel" "buffer" "[I" ∈ lw_tbl := in_t7 (List.mem_of_getElem? (i := 110) rfl)
theorem wm7_112 : Cond.lays "HedgeMessagesModel" "HedgeMessagesModel" "length" "I" ∈ lw_tbl := in_t7 (List.mem_of_getElem? (i := 112) rfl)
theorem wm7_114 : Cond.lays "HedgeMessagesModel" "HedgeMessagesModel" "at" "I" ∈ lw_tbl := in_t7 (List.mem_of_getElem? (i := 114) rfl)
theorem wm7_116 : Cond.lays "HedgeMessagesModel" "HedgeMessagesModel" "begin" "I" ∈ lw_tbl := in_t7 (List.mem_of_getElem? (i := 116) rfl)
theorem wm7_118 : Cond.lays "HedgeMessagesModel" "HedgeMessagesModel" "wordLong" "I" ∈ lw_tbl := in_t7 (List.mem_of_getElem? (i := 118) rfl)
theorem wm7_120 : Cond.lays "HedgeMessagesModel" "HedgeMessagesModel" "error" "I" ∈ lw_tbl := in_t7 (List.mem_of_getElem? (i := 120) rfl)
theorem wm7_122 : Cond.lays "HedgeMessagesModel" "HedgeMessagesModel" "errorAt" "I" ∈ lw_tbl := in_t7 (List.mem_of_getElem? (i := 122) rfl)
theorem wm7_124 : Cond.lays "HedgeMessagesModel" "HedgeMessagesModel" "toldError" "I" ∈ lw_tbl := in_t7 (List.mem_of_getElem? (i := 124) rfl)
theorem wm7_126 : Cond.lays "HedgeMessagesModel" "HedgeMessagesModel" "toldAt" "I" ∈ lw_tbl := in_t7 (List.mem_of_getElem? (i := 126) rfl)
theorem wm7_128 : Cond.laysFinal "HedgeMessagesModel" "HedgeMessagesModel" "told" "[I" ∈ lw_tbl := in_t7 (List.mem_of_getElem? (i := 128) rfl)
theorem wm7_130 : Cond.lays "HedgeMessagesModel" "HedgeMessagesModel" "toldMany" "I" ∈ lw_tbl := in_t7 (List.mem_of_getElem? (i := 130) rfl)
theorem wm7_132 : Cond.laysFinal "HedgeMessagesModel" "HedgeMessagesModel" "output" "[I" ∈ lw_tbl := in_t7 (List.mem_of_getElem? (i := 132) rfl)
theorem wm7_134 : Cond.lays "HedgeMessagesModel" "HedgeMessagesModel" "outputLong" "I" ∈ lw_tbl := in_t7 (List.mem_of_getElem? (i := 134) rfl)
theorem wm7_137 : Cond.methodLink "HedgeMessagesLaw" 148 yX11_thrown ∈ lw_tbl := in_t7 (List.mem_of_getElem? (i := 137) rfl)
theorem wm7_138 : Cond.instanceMethod yX11_thrown ∈ lw_tbl := in_t7 (List.mem_of_getElem? (i := 138) rfl)
theorem wm7_139 : Cond.selects "HedgeMessagesModel" yX11_thrown yX11_thrown ∈ lw_tbl := in_t7 (List.mem_of_getElem? (i := 139) rfl)
theorem wm7_140 : Cond.code yX11_thrown prog_13_method_2_code 1 (Option.some Jvm.ClassFile.FieldType.int) ∈ lw_tbl := in_t7 (List.mem_of_getElem? (i := 140) rfl)
theorem wm7_141 : Cond.methodLink "HedgeMessagesLaw" 147 yX11_append ∈ lw_tbl := in_t7 (List.mem_of_getElem? (i := 141) rfl)
theorem wm7_142 : Cond.instanceMethod yX11_append ∈ lw_tbl := in_t7 (List.mem_of_getElem? (i := 142) rfl)
theorem wm7_143 : Cond.selects "HedgeMessagesModel" yX11_append yX11_append ∈ lw_tbl := in_t7 (List.mem_of_getElem? (i := 143) rfl)
theorem wm7_144 : Cond.code yX11_append prog_13_method_67_code 6 (Option.some Jvm.ClassFile.FieldType.int) ∈ lw_tbl := in_t7 (List.mem_of_getElem? (i := 144) rfl)
theorem wm7_145 : Cond.methodLink "HedgeMessagesModel" 225 yX11_four ∈ lw_tbl := in_t7 (List.mem_of_getElem? (i := 145) rfl)
theorem wm7_147 : Cond.instanceMethod yX11_four ∈ lw_tbl := in_t7 (List.mem_of_getElem? (i := 147) rfl)
theorem wm7_148 : Cond.code yX11_four prog_13_method_66_code 3 (Option.none : Option Jvm.ClassFile.FieldType) ∈ lw_tbl := in_t7 (List.mem_of_getElem? (i := 148) rfl)
theorem wm7_149 : Cond.methodLink "HedgeMessagesLaw" 154 yX11_truncate ∈ lw_tbl := in_t7 (List.mem_of_getElem? (i := 149) rfl)
theorem wm7_150 : Cond.instanceMethod yX11_truncate ∈ lw_tbl := in_t7 (List.mem_of_getElem? (i := 150) rfl)
theorem wm7_151 : Cond.selects "HedgeMessagesModel" yX11_truncate yX11_truncate ∈ lw_tbl := in_t7 (List.mem_of_getElem? (i := 151) rfl)
theorem wm7_152 : Cond.code yX11_truncate prog_13_method_68_code 2 (Option.some Jvm.ClassFile.FieldType.int) ∈ lw_tbl := in_t7 (List.mem_of_getElem? (i := 152) rfl)
theorem wm7_153 : Cond.methodLink "HedgeMessagesLaw" 165 yX11_errorCode ∈ lw_tbl := in_t7 (List.mem_of_getElem? (i := 153) rfl)
theorem wm7_154 : Cond.instanceMethod yX11_errorCode ∈ lw_tbl := in_t7 (List.mem_of_getElem? (i := 154) rfl)
theorem wm7_155 : Cond.selects "HedgeMessagesModel" yX11_errorCode yX11_errorCode ∈ lw_tbl := in_t7 (List.mem_of_getElem? (i := 155) rfl)
theorem wm7_156 : Cond.code yX11_errorCode prog_13_method_81_code 1 (Option.some Jvm.ClassFile.FieldType.int) ∈ lw_tbl := in_t7 (List.mem_of_getElem? (i := 156) rfl)
theorem wm7_157 : Cond.methodLink "HedgeMessagesLaw" 169 yX11_errorPosition ∈ lw_tbl := in_t7 (List.mem_of_getElem? (i := 157) rfl)
theorem wm7_158 : Cond.instanceMethod yX11_errorPosition ∈ lw_tbl := in_t7 (List.mem_of_getElem? (i := 158) rfl)
theorem wm7_159 : Cond.selects "HedgeMessagesModel" yX11_errorPosition yX11_errorPosition ∈ lw_tbl := in_t7 (List.mem_of_getElem? (i := 159) rfl)
theorem wm7_160 : Cond.code yX11_errorPosition prog_13_method_82_code 1 (Option.some Jvm.ClassFile.FieldType.int) ∈ lw_tbl := in_t7 (List.mem_of_getElem? (i := 160) rfl)
theorem wm7_161 : Cond.methodLink "HedgeMessagesLaw" 158 yX11_load ∈ lw_tbl := in_t7 (List.mem_of_getElem? (i := 161) rfl)
theorem wm7_162 : Cond.methodLink "HedgeMessagesLaw" 161 yX11_executeCommands ∈ lw_tbl := in_t7 (List.mem_of_getElem? (i := 162) rfl)
theorem wm7_163 : Cond.instanceMethod yX11_executeCommands ∈ lw_tbl := in_t7 (List.mem_of_getElem? (i := 163) rfl)
theorem wm7_164 : Cond.selects "HedgeMessagesModel" yX11_executeCommands yX11_executeCommands ∈ lw_tbl := in_t7 (List.mem_of_getElem? (i := 164) rfl)
theorem wm7_165 : Cond.code yX11_executeCommands prog_13_method_97_code 2 (Option.some Jvm.ClassFile.FieldType.int) ∈ lw_tbl := in_t7 (List.mem_of_getElem? (i := 165) rfl)
theorem wm7_166 : Cond.methodLink "HedgeMessagesModel" 375 yX11_readsOne ∈ lw_tbl := in_t7 (List.mem_of_getElem? (i := 166) rfl)
theorem wm7_168 : Cond.instanceMethod yX11_readsOne ∈ lw_tbl := in_t7 (List.mem_of_getElem? (i := 168) rfl)
theorem wm7_169 : Cond.code yX11_readsOne prog_13_method_94_code 2 (Option.none : Option Jvm.ClassFile.FieldType) ∈ lw_tbl := in_t7 (List.mem_of_getElem? (i := 169) rfl)
theorem wm7_170 : Cond.methodLink "HedgeMessagesModel" 345 yX11_commandHere ∈ lw_tbl := in_t7 (List.mem_of_getElem? (i := 170) rfl)
theorem wm7_172 : Cond.instanceMethod yX11_commandHere ∈ lw_tbl := in_t7 (List.mem_of_getElem? (i := 172) rfl)
theorem wm7_173 : Cond.code yX11_commandHere prog_13_method_90_code 1 (Option.some Jvm.ClassFile.FieldType.int) ∈ lw_tbl := in_t7 (List.mem_of_getElem? (i := 173) rfl)
theorem wm7_177 : Cond.methodLink "HedgeMessagesModel" 336 yX11_otherCommand ∈ lw_tbl := in_t7 (List.mem_of_getElem? (i := 177) rfl)
theorem wm7_179 : Cond.instanceMethod yX11_otherCommand ∈ lw_tbl := in_t7 (List.mem_of_getElem? (i := 179) rfl)
theorem wm7_180 : Cond.code yX11_otherCommand prog_13_method_89_code 1 (Option.some Jvm.ClassFile.FieldType.int) ∈ lw_tbl := in_t7 (List.mem_of_getElem? (i := 180) rfl)
theorem wm7_184 : Cond.methodLink "HedgeMessagesModel" 351 yX11_partsOf ∈ lw_tbl := in_t7 (List.mem_of_getElem? (i := 184) rfl)
theorem wm7_186 : Cond.instanceMethod yX11_partsOf ∈ lw_tbl := in_t7 (List.mem_of_getElem? (i := 186) rfl)
theorem wm7_187 : Cond.code yX11_partsOf prog_13_method_93_code 3 (Option.none : Option Jvm.ClassFile.FieldType) ∈ lw_tbl := in_t7 (List.mem_of_getElem? (i := 187) rfl)
theorem wm7_188 : Cond.methodLink "HedgeMessagesModel" 339 yX11_wordOf ∈ lw_tbl := in_t7 (List.mem_of_getElem? (i := 188) rfl)
theorem wm7_190 : Cond.instanceMethod yX11_wordOf ∈ lw_tbl := in_t7 (List.mem_of_getElem? (i := 190) rfl)
theorem wm7_191 : Cond.code yX11_wordOf prog_13_method_91_code 3 (Option.none : Option Jvm.ClassFile.FieldType) ∈ lw_tbl := in_t7 (List.mem_of_getElem? (i := 191) rfl)
theorem wm7_192 : Cond.methodLink "HedgeMessagesModel" 342 yX11_slotParts ∈ lw_tbl := in_t7 (List.mem_of_getElem? (i := 192) rfl)
theorem wm7_194 : Cond.instanceMethod yX11_slotParts ∈ lw_tbl := in_t7 (List.mem_of_getElem? (i := 194) rfl)
theorem wm7_195 : Cond.code yX11_slotParts prog_13_method_92_code 3 (Option.none : Option Jvm.ClassFile.FieldType) ∈ lw_tbl := in_t7 (List.mem_of_getElem? (i := 195) rfl)
theorem wm7_196 : Cond.methodLink "HedgeMessagesModel" 378 yX11_keeps ∈ lw_tbl := in_t7 (List.mem_of_getElem? (i := 196) rfl)
theorem wm7_198 : Cond.instanceMethod yX11_keeps ∈ lw_tbl := in_t7 (List.mem_of_getElem? (i := 198) rfl)
theorem wm7_199 : Cond.code yX11_keeps prog_13_method_96_code 3 (Option.none : Option Jvm.ClassFile.FieldType) ∈ lw_tbl := in_t7 (List.mem_of_getElem? (i := 199) rfl)
theorem wm7_200 : Cond.methodLink "HedgeMessagesModel" 382 yX11_doesOne ∈ lw_tbl := in_t7 (List.mem_of_getElem? (i := 200) rfl)
theorem wm7_202 : Cond.instanceMethod yX11_doesOne ∈ lw_tbl := in_t7 (List.mem_of_getElem? (i := 202) rfl)
theorem wm7_203 : Cond.code yX11_doesOne prog_13_method_95_code 5 (Option.some Jvm.ClassFile.FieldType.boolean) ∈ lw_tbl := in_t7 (List.mem_of_getElem? (i := 203) rfl)
theorem wm7_204 : Cond.methodLink "HedgeMessagesModel" 354 yX11_plantNow ∈ lw_tbl := in_t7 (List.mem_of_getElem? (i := 204) rfl)
theorem wm7_206 : Cond.instanceMethod yX11_plantNow ∈ lw_tbl := in_t7 (List.mem_of_getElem? (i := 206) rfl)
theorem wm7_207 : Cond.code yX11_plantNow prog_13_method_56_code 3 (Option.some Jvm.ClassFile.FieldType.boolean) ∈ lw_tbl := in_t7 (List.mem_of_getElem? (i := 207) rfl)
theorem wm7_208 : Cond.methodLink "HedgeMessagesModel" 194 yX11_whyNotPlant ∈ lw_tbl := in_t7 (List.mem_of_getElem? (i := 208) rfl)
theorem wm7_210 : Cond.instanceMethod yX11_whyNotPlant ∈ lw_tbl := in_t7 (List.mem_of_getElem? (i := 210) rfl)
theorem wm7_211 : Cond.code yX11_whyNotPlant prog_13_method_50_code 2 (Option.some Jvm.ClassFile.FieldType.int) ∈ lw_tbl := in_t7 (List.mem_of_getElem? (i := 211) rfl)
theorem wm7_212 : Cond.methodLink "HedgeMessagesModel" 102 yX11_isReservedAt ∈ lw_tbl := in_t7 (List.mem_of_getElem? (i := 212) rfl)
theorem wm7_214 : Cond.instanceMethod yX11_isReservedAt ∈ lw_tbl := in_t7 (List.mem_of_getElem? (i := 214) rfl)
theorem wm7_215 : Cond.code yX11_isReservedAt prog_13_method_28_code 3 (Option.some Jvm.ClassFile.FieldType.boolean) ∈ lw_tbl := in_t7 (List.mem_of_getElem? (i := 215) rfl)
theorem wm7_216 : Cond.methodLink "HedgeMessagesModel" 95 yX11_postAt ∈ lw_tbl := in_t7 (List.mem_of_getElem? (i := 216) rfl)
theorem wm7_217 : Cond.static yX11_postAt ∈ lw_tbl := in_t7 (List.mem_of_getElem? (i := 217) rfl)
theorem wm7_218 : Cond.code yX11_postAt prog_13_method_24_code 1 (Option.some Jvm.ClassFile.FieldType.int) ∈ lw_tbl := in_t7 (List.mem_of_getElem? (i := 218) rfl)
theorem wm7_219 : Cond.methodLink "HedgeMessagesModel" 98 yX11_reserves ∈ lw_tbl := in_t7 (List.mem_of_getElem? (i := 219) rfl)
theorem wm7_221 : Cond.instanceMethod yX11_reserves ∈ lw_tbl := in_t7 (List.mem_of_getElem? (i := 221) rfl)
theorem wm7_222 : Cond.code yX11_reserves prog_13_method_27_code 3 (Option.some Jvm.ClassFile.FieldType.boolean) ∈ lw_tbl := in_t7 (List.mem_of_getElem? (i := 222) rfl)
theorem wm7_223 : Cond.methodLink "HedgeMessagesModel" 91 yX11_progressOf ∈ lw_tbl := in_t7 (List.mem_of_getElem? (i := 223) rfl)
theorem wm7_224 : Cond.static yX11_progressOf ∈ lw_tbl := in_t7 (List.mem_of_getElem? (i := 224) rfl)
theorem wm7_225 : Cond.code yX11_progressOf prog_13_method_23_code 1 (Option.some Jvm.ClassFile.FieldType.int) ∈ lw_tbl := in_t7 (List.mem_of_getElem? (i := 225) rfl)
theorem wm7_226 : Cond.methodLink "HedgeMessagesModel" 173 yX11_activeNow ∈ lw_tbl := in_t7 (List.mem_of_getElem? (i := 226) rfl)
theorem wm7_228 : Cond.instanceMethod yX11_activeNow ∈ lw_tbl := in_t7 (List.mem_of_getElem? (i := 228) rfl)
theorem wm7_229 : Cond.code yX11_activeNow prog_13_method_22_code 1 (Option.some Jvm.ClassFile.FieldType.int) ∈ lw_tbl := in_t7 (List.mem_of_getElem? (i := 229) rfl)
theorem wm7_230 : Cond.methodLink "HedgeMessagesModel" 197 yX11_twigs ∈ lw_tbl := in_t7 (List.mem_of_getElem? (i := 230) rfl)
theorem wm7_232 : Cond.instanceMethod yX11_twigs ∈ lw_tbl := in_t7 (List.mem_of_getElem? (i := 232) rfl)
theorem wm7_233 : Cond.code yX11_twigs prog_13_method_19_code 3 (Option.some Jvm.ClassFile.FieldType.int) ∈ lw_tbl := in_t7 (List.mem_of_getElem? (i := 233) rfl)
theorem wm7_234 : Cond.methodLink "HedgeMessagesModel" 357 yX11_removeNow ∈ lw_tbl := in_t7 (List.mem_of_getElem? (i := 234) rfl)
theorem wm7_236 : Cond.instanceMethod yX11_removeNow ∈ lw_tbl := in_t7 (List.mem_of_getElem? (i := 236) rfl)
theorem wm7_237 : Cond.code yX11_removeNow prog_13_method_57_code 2 (Option.some Jvm.ClassFile.FieldType.boolean) ∈ lw_tbl := in_t7 (List.mem_of_getElem? (i := 237) rfl)
theorem wm7_238 : Cond.methodLink "HedgeMessagesModel" 203 yX11_whyNotRemove ∈ lw_tbl := in_t7 (List.mem_of_getElem? (i := 238) rfl)
theorem wm8_0 : Cond.instanceMethod yX11_whyNotRemove ∈ lw_tbl := in_t8 (List.mem_of_getElem? (i := 0) rfl)
theorem wm8_1 : Cond.code yX11_whyNotRemove prog_13_method_52_code 3 (Option.some Jvm.ClassFile.FieldType.int) ∈ lw_tbl := in_t8 (List.mem_of_getElem? (i := 1) rfl)
theorem wm8_2 : Cond.methodLink "HedgeMessagesModel" 191 yX11_whyNotTouch ∈ lw_tbl := in_t8 (List.mem_of_getElem? (i := 2) rfl)
theorem wm8_4 : Cond.instanceMethod yX11_whyNotTouch ∈ lw_tbl := in_t8 (List.mem_of_getElem? (i := 4) rfl)
theorem wm8_5 : Cond.code yX11_whyNotTouch prog_13_method_51_code 2 (Option.some Jvm.ClassFile.FieldType.int) ∈ lw_tbl := in_t8 (List.mem_of_getElem? (i := 5) rfl)
theorem wm8_6 : Cond.methodLink "HedgeMessagesModel" 158 yX11_isSafe ∈ lw_tbl := in_t8 (List.mem_of_getElem? (i := 6) rfl)
theorem wm8_8 : Cond.instanceMethod yX11_isSafe ∈ lw_tbl := in_t8 (List.mem_of_getElem? (i := 8) rfl)
theorem wm8_9 : Cond.code yX11_isSafe prog_13_method_17_code 2 (Option.some Jvm.ClassFile.FieldType.boolean) ∈ lw_tbl := in_t8 (List.mem_of_getElem? (i := 9) rfl)
theorem wm8_10 : Cond.methodLink "HedgeMessagesModel" 124 yX11_twigGoes ∈ lw_tbl := in_t8 (List.mem_of_getElem? (i := 10) rfl)
theorem wm8_12 : Cond.instanceMethod yX11_twigGoes ∈ lw_tbl := in_t8 (List.mem_of_getElem? (i := 12) rfl)
theorem wm8_13 : Cond.code yX11_twigGoes prog_13_method_21_code 3 (Option.none : Option Jvm.ClassFile.FieldType) ∈ lw_tbl := in_t8 (List.mem_of_getElem? (i := 13) rfl)
theorem wm8_14 : Cond.methodLink "HedgeMessagesModel" 360 yX11_trimNow ∈ lw_tbl := in_t8 (List.mem_of_getElem? (i := 14) rfl)
theorem wm8_16 : Cond.instanceMethod yX11_trimNow ∈ lw_tbl := in_t8 (List.mem_of_getElem? (i := 16) rfl)
theorem wm8_17 : Cond.code yX11_trimNow prog_13_method_58_code 3 (Option.some Jvm.ClassFile.FieldType.boolean) ∈ lw_tbl := in_t8 (List.mem_of_getElem? (i := 17) rfl)
theorem wm8_18 : Cond.methodLink "HedgeMessagesModel" 206 yX11_whyNotTrim ∈ lw_tbl := in_t8 (List.mem_of_getElem? (i := 18) rfl)
theorem wm8_20 : Cond.instanceMethod yX11_whyNotTrim ∈ lw_tbl := in_t8 (List.mem_of_getElem? (i := 20) rfl)
theorem wm8_21 : Cond.code yX11_whyNotTrim prog_13_method_53_code 3 (Option.some Jvm.ClassFile.FieldType.int) ∈ lw_tbl := in_t8 (List.mem_of_getElem? (i := 21) rfl)
theorem wm8_22 : Cond.methodLink "HedgeMessagesModel" 153 yJ9_max_7cf53 ∈ lw_tbl := in_t8 (List.mem_of_getElem? (i := 22) rfl)
theorem wm8_23 : Cond.static yJ9_max_7cf53 ∈ lw_tbl := in_t8 (List.mem_of_getElem? (i := 23) rfl)
theorem wm8_24 : Cond.code yJ9_max_7cf53 prog_19_method_65_code 2 (Option.some Jvm.ClassFile.FieldType.int) ∈ lw_tbl := in_t8 (List.mem_of_getElem? (i := 24) rfl)
theorem wm8_25 : Cond.methodLink "HedgeMessagesModel" 363 yX11_nestNow ∈ lw_tbl := in_t8 (List.mem_of_getElem? (i := 25) rfl)
theorem wm8_27 : Cond.instanceMethod yX11_nestNow ∈ lw_tbl := in_t8 (List.mem_of_getElem? (i := 27) rfl)
theorem wm8_28 : Cond.code yX11_nestNow prog_13_method_60_code 3 (Option.some Jvm.ClassFile.FieldType.boolean) ∈ lw_tbl := in_t8 (List.mem_of_getElem? (i := 28) rfl)
theorem wm8_29 : Cond.methodLink "HedgeMessagesModel" 212 yX11_canNest ∈ lw_tbl := in_t8 (List.mem_of_getElem? (i := 29) rfl)
theorem wm8_31 : Cond.instanceMethod yX11_canNest ∈ lw_tbl := in_t8 (List.mem_of_getElem? (i := 31) rfl)
theorem wm8_32 : Cond.code yX11_canNest prog_13_method_59_code 2 (Option.some Jvm.ClassFile.FieldType.boolean) ∈ lw_tbl := in_t8 (List.mem_of_getElem? (i := 32) rfl)
theorem wm8_33 : Cond.methodLink "HedgeMessagesModel" 366 yX11_cancelNow ∈ lw_tbl := in_t8 (List.mem_of_getElem? (i := 33) rfl)
theorem wm8_35 : Cond.instanceMethod yX11_cancelNow ∈ lw_tbl := in_t8 (List.mem_of_getElem? (i := 35) rfl)
theorem wm8_36 : Cond.code yX11_cancelNow prog_13_method_62_code 3 (Option.some Jvm.ClassFile.FieldType.boolean) ∈ lw_tbl := in_t8 (List.mem_of_getElem? (i := 36) rfl)
theorem wm8_37 : Cond.methodLink "HedgeMessagesModel" 120 yX11_waitsNoMore ∈ lw_tbl := in_t8 (List.mem_of_getElem? (i := 37) rfl)
theorem wm8_39 : Cond.instanceMethod yX11_waitsNoMore ∈ lw_tbl := in_t8 (List.mem_of_getElem? (i := 39) rfl)
theorem wm8_40 : Cond.code yX11_waitsNoMore prog_13_method_35_code 5 (Option.none : Option Jvm.ClassFile.FieldType) ∈ lw_tbl := in_t8 (List.mem_of_getElem? (i := 40) rfl)
theorem wm8_41 : Cond.methodLink "HedgeMessagesModel" 369 yX11_workNow ∈ lw_tbl := in_t8 (List.mem_of_getElem? (i := 41) rfl)
theorem wm8_43 : Cond.instanceMethod yX11_workNow ∈ lw_tbl := in_t8 (List.mem_of_getElem? (i := 43) rfl)
theorem wm8_44 : Cond.code yX11_workNow prog_13_method_63_code 2 (Option.some Jvm.ClassFile.FieldType.boolean) ∈ lw_tbl := in_t8 (List.mem_of_getElem? (i := 44) rfl)
theorem wm8_45 : Cond.methodLink "HedgeMessagesModel" 372 yX11_endNow ∈ lw_tbl := in_t8 (List.mem_of_getElem? (i := 45) rfl)
theorem wm8_47 : Cond.instanceMethod yX11_endNow ∈ lw_tbl := in_t8 (List.mem_of_getElem? (i := 47) rfl)
theorem wm8_48 : Cond.code yX11_endNow prog_13_method_65_code 3 (Option.some Jvm.ClassFile.FieldType.boolean) ∈ lw_tbl := in_t8 (List.mem_of_getElem? (i := 48) rfl)
theorem wm8_49 : Cond.methodLink "HedgeMessagesModel" 215 yX11_delivered ∈ lw_tbl := in_t8 (List.mem_of_getElem? (i := 49) rfl)
theorem wm8_51 : Cond.instanceMethod yX11_delivered ∈ lw_tbl := in_t8 (List.mem_of_getElem? (i := 51) rfl)
theorem wm8_52 : Cond.code yX11_delivered prog_13_method_64_code 1 (Option.some Jvm.ClassFile.FieldType.int) ∈ lw_tbl := in_t8 (List.mem_of_getElem? (i := 52) rfl)
theorem wm8_53 : Cond.methodLink "HedgeMessagesModel" 218 yX11_goBy ∈ lw_tbl := in_t8 (List.mem_of_getElem? (i := 53) rfl)
theorem wm8_55 : Cond.instanceMethod yX11_goBy ∈ lw_tbl := in_t8 (List.mem_of_getElem? (i := 55) rfl)
theorem wm8_56 : Cond.code yX11_goBy prog_13_method_49_code 3 (Option.none : Option Jvm.ClassFile.FieldType) ∈ lw_tbl := in_t8 (List.mem_of_getElem? (i := 56) rfl)
theorem wm8_57 : Cond.methodLink "HedgeMessagesModel" 188 yX11_dayOnce ∈ lw_tbl := in_t8 (List.mem_of_getElem? (i := 57) rfl)
theorem wm8_59 : Cond.instanceMethod yX11_dayOnce ∈ lw_tbl := in_t8 (List.mem_of_getElem? (i := 59) rfl)
theorem wm8_60 : Cond.code yX11_dayOnce prog_13_method_48_code 2 (Option.none : Option Jvm.ClassFile.FieldType) ∈ lw_tbl := in_t8 (List.mem_of_getElem? (i := 60) rfl)
theorem wm8_61 : Cond.methodLink "HedgeMessagesModel" 176 yX11_delivers ∈ lw_tbl := in_t8 (List.mem_of_getElem? (i := 61) rfl)
theorem wm8_63 : Cond.instanceMethod yX11_delivers ∈ lw_tbl := in_t8 (List.mem_of_getElem? (i := 63) rfl)
theorem wm8_64 : Cond.code yX11_delivers prog_13_method_40_code 4 (Option.none : Option Jvm.ClassFile.FieldType) ∈ lw_tbl := in_t8 (List.mem_of_getElem? (i := 64) rfl)
theorem wm8_65 : Cond.methodLink "HedgeMessagesModel" 128 yX11_clearsTwigs ∈ lw_tbl := in_t8 (List.mem_of_getElem? (i := 65) rfl)
theorem wm8_67 : Cond.instanceMethod yX11_clearsTwigs ∈ lw_tbl := in_t8 (List.mem_of_getElem? (i := 67) rfl)
theorem wm8_68 : Cond.code yX11_clearsTwigs prog_13_method_39_code 5 (Option.none : Option Jvm.ClassFile.FieldType) ∈ lw_tbl := in_t8 (List.mem_of_getElem? (i := 68) rfl)
theorem wm8_69 : Cond.methodLink "HedgeMessagesModel" 131 yX11_postGoes ∈ lw_tbl := in_t8 (List.mem_of_getElem? (i := 69) rfl)
theorem wm8_71 : Cond.instanceMethod yX11_postGoes ∈ lw_tbl := in_t8 (List.mem_of_getElem? (i := 71) rfl)
theorem wm8_72 : Cond.code yX11_postGoes prog_13_method_38_code 3 (Option.none : Option Jvm.ClassFile.FieldType) ∈ lw_tbl := in_t8 (List.mem_of_getElem? (i := 72) rfl)
theorem wm8_73 : Cond.methodLink "HedgeMessagesModel" 179 yX11_writesAll ∈ lw_tbl := in_t8 (List.mem_of_getElem? (i := 73) rfl)
theorem wm8_75 : Cond.instanceMethod yX11_writesAll ∈ lw_tbl := in_t8 (List.mem_of_getElem? (i := 75) rfl)
theorem wm8_76 : Cond.code yX11_writesAll prog_13_method_42_code 2 (Option.none : Option Jvm.ClassFile.FieldType) ∈ lw_tbl := in_t8 (List.mem_of_getElem? (i := 76) rfl)
theorem wm8_77 : Cond.methodLink "HedgeMessagesModel" 150 yX11_writes ∈ lw_tbl := in_t8 (List.mem_of_getElem? (i := 77) rfl)
theorem wm8_79 : Cond.instanceMethod yX11_writes ∈ lw_tbl := in_t8 (List.mem_of_getElem? (i := 79) rfl)
theorem wm8_80 : Cond.code yX11_writes prog_13_method_41_code 4 (Option.some Jvm.ClassFile.FieldType.boolean) ∈ lw_tbl := in_t8 (List.mem_of_getElem? (i := 80) rfl)
theorem wm8_81 : Cond.methodLink "HedgeMessagesModel" 134 yX11_isInProgress ∈ lw_tbl := in_t8 (List.mem_of_getElem? (i := 81) rfl)
theorem wm8_83 : Cond.instanceMethod yX11_isInProgress ∈ lw_tbl := in_t8 (List.mem_of_getElem? (i := 83) rfl)
theorem wm8_84 : Cond.code yX11_isInProgress prog_13_method_26_code 2 (Option.some Jvm.ClassFile.FieldType.boolean) ∈ lw_tbl := in_t8 (List.mem_of_getElem? (i := 84) rfl)
theorem wm8_85 : Cond.methodLink "HedgeMessagesModel" 137 yX11_startOfNext ∈ lw_tbl := in_t8 (List.mem_of_getElem? (i := 85) rfl)
theorem wm8_87 : Cond.instanceMethod yX11_startOfNext ∈ lw_tbl := in_t8 (List.mem_of_getElem? (i := 87) rfl)
theorem wm8_88 : Cond.code yX11_startOfNext prog_13_method_33_code 2 (Option.some Jvm.ClassFile.FieldType.int) ∈ lw_tbl := in_t8 (List.mem_of_getElem? (i := 88) rfl)
theorem wm8_89 : Cond.methodLink "HedgeMessagesModel" 117 yX11_startFor ∈ lw_tbl := in_t8 (List.mem_of_getElem? (i := 89) rfl)
theorem wm8_91 : Cond.instanceMethod yX11_startFor ∈ lw_tbl := in_t8 (List.mem_of_getElem? (i := 91) rfl)
theorem wm8_92 : Cond.code yX11_startFor prog_13_method_32_code 3 (Option.some Jvm.ClassFile.FieldType.int) ∈ lw_tbl := in_t8 (List.mem_of_getElem? (i := 92) rfl)
theorem wm8_93 : Cond.methodLink "HedgeMessagesModel" 111 yX11_fits ∈ lw_tbl := in_t8 (List.mem_of_getElem? (i := 93) rfl)
theorem wm8_95 : Cond.instanceMethod yX11_fits ∈ lw_tbl := in_t8 (List.mem_of_getElem? (i := 95) rfl)
theorem wm8_96 : Cond.code yX11_fits prog_13_method_31_code 4 (Option.some Jvm.ClassFile.FieldType.boolean) ∈ lw_tbl := in_t8 (List.mem_of_getElem? (i := 96) rfl)
theorem wm8_97 : Cond.methodLink "HedgeMessagesModel" 105 yX11_isFree ∈ lw_tbl := in_t8 (List.mem_of_getElem? (i := 97) rfl)
theorem wm8_99 : Cond.instanceMethod yX11_isFree ∈ lw_tbl := in_t8 (List.mem_of_getElem? (i := 99) rfl)
theorem wm8_100 : Cond.code yX11_isFree prog_13_method_29_code 2 (Option.some Jvm.ClassFile.FieldType.boolean) ∈ lw_tbl := in_t8 (List.mem_of_getElem? (i := 100) rfl)
theorem wm8_101 : Cond.methodLink "HedgeMessagesModel" 108 yX11_isBorder ∈ lw_tbl := in_t8 (List.mem_of_getElem? (i := 101) rfl)
theorem wm8_103 : Cond.instanceMethod yX11_isBorder ∈ lw_tbl := in_t8 (List.mem_of_getElem? (i := 103) rfl)
theorem wm8_104 : Cond.code yX11_isBorder prog_13_method_30_code 2 (Option.some Jvm.ClassFile.FieldType.boolean) ∈ lw_tbl := in_t8 (List.mem_of_getElem? (i := 104) rfl)
theorem wm8_105 : Cond.methodLink "HedgeMessagesModel" 140 yX11_begins ∈ lw_tbl := in_t8 (List.mem_of_getElem? (i := 105) rfl)
theorem wm8_107 : Cond.instanceMethod yX11_begins ∈ lw_tbl := in_t8 (List.mem_of_getElem? (i := 107) rfl)
theorem wm8_108 : Cond.code yX11_begins prog_13_method_36_code 6 (Option.none : Option Jvm.ClassFile.FieldType) ∈ lw_tbl := in_t8 (List.mem_of_getElem? (i := 108) rfl)
theorem wm8_109 : Cond.methodLink "HedgeMessagesModel" 147 yX11_posts ∈ lw_tbl := in_t8 (List.mem_of_getElem? (i := 109) rfl)
theorem wm8_111 : Cond.instanceMethod yX11_posts ∈ lw_tbl := in_t8 (List.mem_of_getElem? (i := 111) rfl)
theorem wm8_112 : Cond.code yX11_posts prog_13_method_37_code 5 (Option.none : Option Jvm.ClassFile.FieldType) ∈ lw_tbl := in_t8 (List.mem_of_getElem? (i := 112) rfl)
theorem wm8_113 : Cond.methodLink "HedgeMessagesModel" 182 yX11_growsAll ∈ lw_tbl := in_t8 (List.mem_of_getElem? (i := 113) rfl)
theorem wm8_115 : Cond.instanceMethod yX11_growsAll ∈ lw_tbl := in_t8 (List.mem_of_getElem? (i := 115) rfl)
theorem wm8_116 : Cond.code yX11_growsAll prog_13_method_43_code 2 (Option.none : Option Jvm.ClassFile.FieldType) ∈ lw_tbl := in_t8 (List.mem_of_getElem? (i := 116) rfl)
theorem wm8_117 : Cond.methodLink "HedgeMessagesModel" 185 yX11_inspects ∈ lw_tbl := in_t8 (List.mem_of_getElem? (i := 117) rfl)
theorem wm8_119 : Cond.instanceMethod yX11_inspects ∈ lw_tbl := in_t8 (List.mem_of_getElem? (i := 119) rfl)
theorem wm8_120 : Cond.code yX11_inspects prog_13_method_47_code 3 (Option.none : Option Jvm.ClassFile.FieldType) ∈ lw_tbl := in_t8 (List.mem_of_getElem? (i := 120) rfl)
theorem wm8_121 : Cond.methodLink "HedgeMessagesModel" 164 yX11_wouldPrune ∈ lw_tbl := in_t8 (List.mem_of_getElem? (i := 121) rfl)
theorem wm8_123 : Cond.instanceMethod yX11_wouldPrune ∈ lw_tbl := in_t8 (List.mem_of_getElem? (i := 123) rfl)
theorem wm8_124 : Cond.code yX11_wouldPrune prog_13_method_44_code 2 (Option.some Jvm.ClassFile.FieldType.boolean) ∈ lw_tbl := in_t8 (List.mem_of_getElem? (i := 124) rfl)
theorem wm8_125 : Cond.methodLink "HedgeMessagesModel" 167 yX11_lostTwig ∈ lw_tbl := in_t8 (List.mem_of_getElem? (i := 125) rfl)
theorem wm8_127 : Cond.instanceMethod yX11_lostTwig ∈ lw_tbl := in_t8 (List.mem_of_getElem? (i := 127) rfl)
theorem wm8_128 : Cond.code yX11_lostTwig prog_13_method_45_code 4 (Option.some Jvm.ClassFile.FieldType.boolean) ∈ lw_tbl := in_t8 (List.mem_of_getElem? (i := 128) rfl)
theorem wm8_129 : Cond.methodLink "HedgeMessagesModel" 170 yX11_fails ∈ lw_tbl := in_t8 (List.mem_of_getElem? (i := 129) rfl)
theorem wm8_131 : Cond.instanceMethod yX11_fails ∈ lw_tbl := in_t8 (List.mem_of_getElem? (i := 131) rfl)
theorem wm8_132 : Cond.code yX11_fails prog_13_method_46_code 4 (Option.none : Option Jvm.ClassFile.FieldType) ∈ lw_tbl := in_t8 (List.mem_of_getElem? (i := 132) rfl)
theorem wm8_133 : Cond.methodLink "HedgeMessagesModel" 161 yX11_waits ∈ lw_tbl := in_t8 (List.mem_of_getElem? (i := 133) rfl)
theorem wm8_135 : Cond.instanceMethod yX11_waits ∈ lw_tbl := in_t8 (List.mem_of_getElem? (i := 135) rfl)
theorem wm8_136 : Cond.code yX11_waits prog_13_method_34_code 5 (Option.none : Option Jvm.ClassFile.FieldType) ∈ lw_tbl := in_t8 (List.mem_of_getElem? (i := 136) rfl)
theorem wm8_137 : Cond.methodLink "HedgeMessagesLaw" 173 yX11_slotCount ∈ lw_tbl := in_t8 (List.mem_of_getElem? (i := 137) rfl)
theorem wm8_138 : Cond.instanceMethod yX11_slotCount ∈ lw_tbl := in_t8 (List.mem_of_getElem? (i := 138) rfl)
theorem wm8_139 : Cond.selects "HedgeMessagesModel" yX11_slotCount yX11_slotCount ∈ lw_tbl := in_t8 (List.mem_of_getElem? (i := 139) rfl)
theorem wm8_140 : Cond.code yX11_slotCount prog_13_method_98_code 1 (Option.some Jvm.ClassFile.FieldType.int) ∈ lw_tbl := in_t8 (List.mem_of_getElem? (i := 140) rfl)
theorem wm8_141 : Cond.methodLink "HedgeMessagesLaw" 177 yX11_day ∈ lw_tbl := in_t8 (List.mem_of_getElem? (i := 141) rfl)
theorem wm8_142 : Cond.instanceMethod yX11_day ∈ lw_tbl := in_t8 (List.mem_of_getElem? (i := 142) rfl)
theorem wm8_143 : Cond.selects "HedgeMessagesModel" yX11_day yX11_day ∈ lw_tbl := in_t8 (List.mem_of_getElem? (i := 143) rfl)
theorem wm8_144 : Cond.code yX11_day prog_13_method_99_code 1 (Option.some Jvm.ClassFile.FieldType.int) ∈ lw_tbl := in_t8 (List.mem_of_getElem? (i := 144) rfl)
theorem wm8_145 : Cond.methodLink "HedgeMessagesLaw" 181 yX11_activeGardener ∈ lw_tbl := in_t8 (List.mem_of_getElem? (i := 145) rfl)
theorem wm8_146 : Cond.instanceMethod yX11_activeGardener ∈ lw_tbl := in_t8 (List.mem_of_getElem? (i := 146) rfl)
theorem wm8_147 : Cond.selects "HedgeMessagesModel" yX11_activeGardener yX11_activeGardener ∈ lw_tbl := in_t8 (List.mem_of_getElem? (i := 147) rfl)
theorem wm8_148 : Cond.code yX11_activeGardener prog_13_method_100_code 1 (Option.some Jvm.ClassFile.FieldType.int) ∈ lw_tbl := in_t8 (List.mem_of_getElem? (i := 148) rfl)
theorem wm8_149 : Cond.methodLink "HedgeMessagesLaw" 185 yX11_workLimit ∈ lw_tbl := in_t8 (List.mem_of_getElem? (i := 149) rfl)
theorem wm8_150 : Cond.instanceMethod yX11_workLimit ∈ lw_tbl := in_t8 (List.mem_of_getElem? (i := 150) rfl)
theorem wm8_151 : Cond.selects "HedgeMessagesModel" yX11_workLimit yX11_workLimit ∈ lw_tbl := in_t8 (List.mem_of_getElem? (i := 151) rfl)
theorem wm8_152 : Cond.code yX11_workLimit prog_13_method_101_code 1 (Option.some Jvm.ClassFile.FieldType.int) ∈ lw_tbl := in_t8 (List.mem_of_getElem? (i := 152) rfl)
theorem wm8_153 : Cond.methodLink "HedgeMessagesLaw" 189 yX11_actionsLeft ∈ lw_tbl := in_t8 (List.mem_of_getElem? (i := 153) rfl)
theorem wm8_154 : Cond.instanceMethod yX11_actionsLeft ∈ lw_tbl := in_t8 (List.mem_of_getElem? (i := 154) rfl)
theorem wm8_155 : Cond.selects "HedgeMessagesModel" yX11_actionsLeft yX11_actionsLeft ∈ lw_tbl := in_t8 (List.mem_of_getElem? (i := 155) rfl)
theorem wm8_156 : Cond.code yX11_actionsLeft prog_13_method_102_code 1 (Option.some Jvm.ClassFile.FieldType.int) ∈ lw_tbl := in_t8 (List.mem_of_getElem? (i := 156) rfl)
theorem wm8_157 : Cond.methodLink "HedgeMessagesLaw" 193 yX11_twigCount ∈ lw_tbl := in_t8 (List.mem_of_getElem? (i := 157) rfl)
theorem wm8_158 : Cond.instanceMethod yX11_twigCount ∈ lw_tbl := in_t8 (List.mem_of_getElem? (i := 158) rfl)
theorem wm8_159 : Cond.selects "HedgeMessagesModel" yX11_twigCount yX11_twigCount ∈ lw_tbl := in_t8 (List.mem_of_getElem? (i := 159) rfl)
theorem wm8_160 : Cond.code yX11_twigCount prog_13_method_103_code 1 (Option.some Jvm.ClassFile.FieldType.int) ∈ lw_tbl := in_t8 (List.mem_of_getElem? (i := 160) rfl)
theorem wm8_161 : Cond.methodLink "HedgeMessagesLaw" 196 yX11_letterAt ∈ lw_tbl := in_t8 (List.mem_of_getElem? (i := 161) rfl)
theorem wm8_162 : Cond.instanceMethod yX11_letterAt ∈ lw_tbl := in_t8 (List.mem_of_getElem? (i := 162) rfl)
theorem wm8_163 : Cond.selects "HedgeMessagesModel" yX11_letterAt yX11_letterAt ∈ lw_tbl := in_t8 (List.mem_of_getElem? (i := 163) rfl)
theorem wm8_164 : Cond.code yX11_letterAt prog_13_method_104_code 2 (Option.some Jvm.ClassFile.FieldType.int) ∈ lw_tbl := in_t8 (List.mem_of_getElem? (i := 164) rfl)
theorem wm8_165 : Cond.methodLink "HedgeMessagesLaw" 199 yX11_ownerAt ∈ lw_tbl := in_t8 (List.mem_of_getElem? (i := 165) rfl)
theorem wm8_166 : Cond.instanceMethod yX11_ownerAt ∈ lw_tbl := in_t8 (List.mem_of_getElem? (i := 166) rfl)
theorem wm8_167 : Cond.selects "HedgeMessagesModel" yX11_ownerAt yX11_ownerAt ∈ lw_tbl := in_t8 (List.mem_of_getElem? (i := 167) rfl)
theorem wm8_168 : Cond.code yX11_ownerAt prog_13_method_105_code 2 (Option.some Jvm.ClassFile.FieldType.int) ∈ lw_tbl := in_t8 (List.mem_of_getElem? (i := 168) rfl)
theorem wm8_169 : Cond.methodLink "HedgeMessagesLaw" 202 yX11_lengthAt ∈ lw_tbl := in_t8 (List.mem_of_getElem? (i := 169) rfl)
theorem wm8_170 : Cond.instanceMethod yX11_lengthAt ∈ lw_tbl := in_t8 (List.mem_of_getElem? (i := 170) rfl)
theorem wm8_171 : Cond.selects "HedgeMessagesModel" yX11_lengthAt yX11_lengthAt ∈ lw_tbl := in_t8 (List.mem_of_getElem? (i := 171) rfl)
theorem wm8_172 : Cond.code yX11_lengthAt prog_13_method_106_code 2 (Option.some Jvm.ClassFile.FieldType.int) ∈ lw_tbl := in_t8 (List.mem_of_getElem? (i := 172) rfl)
theorem wm8_173 : Cond.methodLink "HedgeMessagesLaw" 205 yX11_isReserved ∈ lw_tbl := in_t8 (List.mem_of_getElem? (i := 173) rfl)
theorem wm8_174 : Cond.instanceMethod yX11_isReserved ∈ lw_tbl := in_t8 (List.mem_of_getElem? (i := 174) rfl)
theorem wm8_175 : Cond.selects "HedgeMessagesModel" yX11_isReserved yX11_isReserved ∈ lw_tbl := in_t8 (List.mem_of_getElem? (i := 175) rfl)
theorem wm8_176 : Cond.code yX11_isReserved prog_13_method_107_code 2 (Option.some Jvm.ClassFile.FieldType.boolean) ∈ lw_tbl := in_t8 (List.mem_of_getElem? (i := 176) rfl)
theorem wm8_177 : Cond.methodLink "HedgeMessagesLaw" 208 yX11_nestDays ∈ lw_tbl := in_t8 (List.mem_of_getElem? (i := 177) rfl)
theorem wm8_178 : Cond.instanceMethod yX11_nestDays ∈ lw_tbl := in_t8 (List.mem_of_getElem? (i := 178) rfl)
theorem wm8_179 : Cond.selects "HedgeMessagesModel" yX11_nestDays yX11_nestDays ∈ lw_tbl := in_t8 (List.mem_of_getElem? (i := 179) rfl)
theorem wm8_180 : Cond.code yX11_nestDays prog_13_method_108_code 2 (Option.some Jvm.ClassFile.FieldType.int) ∈ lw_tbl := in_t8 (List.mem_of_getElem? (i := 180) rfl)
theorem wm8_181 : Cond.methodLink "HedgeMessagesLaw" 211 yX11_isProtected ∈ lw_tbl := in_t8 (List.mem_of_getElem? (i := 181) rfl)
theorem wm8_182 : Cond.instanceMethod yX11_isProtected ∈ lw_tbl := in_t8 (List.mem_of_getElem? (i := 182) rfl)
theorem wm8_183 : Cond.selects "HedgeMessagesModel" yX11_isProtected yX11_isProtected ∈ lw_tbl := in_t8 (List.mem_of_getElem? (i := 183) rfl)
theorem wm8_184 : Cond.code yX11_isProtected prog_13_method_109_code 2 (Option.some Jvm.ClassFile.FieldType.boolean) ∈ lw_tbl := in_t8 (List.mem_of_getElem? (i := 184) rfl)
theorem wm8_185 : Cond.methodLink "HedgeMessagesLaw" 215 yX11_nestCount ∈ lw_tbl := in_t8 (List.mem_of_getElem? (i := 185) rfl)
theorem wm8_186 : Cond.instanceMethod yX11_nestCount ∈ lw_tbl := in_t8 (List.mem_of_getElem? (i := 186) rfl)
theorem wm8_187 : Cond.selects "HedgeMessagesModel" yX11_nestCount yX11_nestCount ∈ lw_tbl := in_t8 (List.mem_of_getElem? (i := 187) rfl)
theorem wm8_188 : Cond.code yX11_nestCount prog_13_method_110_code 1 (Option.some Jvm.ClassFile.FieldType.int) ∈ lw_tbl := in_t8 (List.mem_of_getElem? (i := 188) rfl)
theorem wm8_189 : Cond.methodLink "HedgeMessagesLaw" 218 yX11_pendingCount ∈ lw_tbl := in_t8 (List.mem_of_getElem? (i := 189) rfl)
theorem wm8_190 : Cond.instanceMethod yX11_pendingCount ∈ lw_tbl := in_t8 (List.mem_of_getElem? (i := 190) rfl)
theorem wm8_191 : Cond.selects "HedgeMessagesModel" yX11_pendingCount yX11_pendingCount ∈ lw_tbl := in_t8 (List.mem_of_getElem? (i := 191) rfl)
theorem wm8_192 : Cond.code yX11_pendingCount prog_13_method_111_code 2 (Option.some Jvm.ClassFile.FieldType.int) ∈ lw_tbl := in_t8 (List.mem_of_getElem? (i := 192) rfl)
theorem wm8_193 : Cond.methodLink "HedgeMessagesModel" 385 yX11_isGardener ∈ lw_tbl := in_t8 (List.mem_of_getElem? (i := 193) rfl)
theorem wm8_194 : Cond.static yX11_isGardener ∈ lw_tbl := in_t8 (List.mem_of_getElem? (i := 194) rfl)
theorem wm8_195 : Cond.code yX11_isGardener prog_13_method_14_code 1 (Option.some Jvm.ClassFile.FieldType.boolean) ∈ lw_tbl := in_t8 (List.mem_of_getElem? (i := 195) rfl)
theorem wm8_196 : Cond.methodLink "HedgeMessagesLaw" 222 yX11_pendingLetter ∈ lw_tbl := in_t8 (List.mem_of_getElem? (i := 196) rfl)
theorem wm8_197 : Cond.instanceMethod yX11_pendingLetter ∈ lw_tbl := in_t8 (List.mem_of_getElem? (i := 197) rfl)
theorem wm8_198 : Cond.selects "HedgeMessagesModel" yX11_pendingLetter yX11_pendingLetter ∈ lw_tbl := in_t8 (List.mem_of_getElem? (i := 198) rfl)
theorem wm8_199 : Cond.code yX11_pendingLetter prog_13_method_112_code 5 (Option.some Jvm.ClassFile.FieldType.int) ∈ lw_tbl := in_t8 (List.mem_of_getElem? (i := 199) rfl)
theorem wm8_200 : Cond.methodLink "HedgeMessagesLaw" 225 yX11_lettersWritten ∈ lw_tbl := in_t8 (List.mem_of_getElem? (i := 200) rfl)
theorem wm8_201 : Cond.instanceMethod yX11_lettersWritten ∈ lw_tbl := in_t8 (List.mem_of_getElem? (i := 201) rfl)
theorem wm8_202 : Cond.selects "HedgeMessagesModel" yX11_lettersWritten yX11_lettersWritten ∈ lw_tbl := in_t8 (List.mem_of_getElem? (i := 202) rfl)
theorem wm8_203 : Cond.code yX11_lettersWritten prog_13_method_113_code 2 (Option.some Jvm.ClassFile.FieldType.int) ∈ lw_tbl := in_t8 (List.mem_of_getElem? (i := 203) rfl)
theorem wm8_204 : Cond.methodLink "HedgeMessagesLaw" 228 yX11_startSlot ∈ lw_tbl := in_t8 (List.mem_of_getElem? (i := 204) rfl)
theorem wm8_205 : Cond.instanceMethod yX11_startSlot ∈ lw_tbl := in_t8 (List.mem_of_getElem? (i := 205) rfl)
theorem wm8_206 : Cond.selects "HedgeMessagesModel" yX11_startSlot yX11_startSlot ∈ lw_tbl := in_t8 (List.mem_of_getElem? (i := 206) rfl)
theorem wm8_207 : Cond.code yX11_startSlot prog_13_method_114_code 2 (Option.some Jvm.ClassFile.FieldType.int) ∈ lw_tbl := in_t8 (List.mem_of_getElem? (i := 207) rfl)
theorem wm8_208 : Cond.methodLink "HedgeMessagesLaw" 231 yX11_postedCount ∈ lw_tbl := in_t8 (List.mem_of_getElem? (i := 208) rfl)
theorem wm8_209 : Cond.instanceMethod yX11_postedCount ∈ lw_tbl := in_t8 (List.mem_of_getElem? (i := 209) rfl)
theorem wm8_210 : Cond.selects "HedgeMessagesModel" yX11_postedCount yX11_postedCount ∈ lw_tbl := in_t8 (List.mem_of_getElem? (i := 210) rfl)
theorem wm8_211 : Cond.code yX11_postedCount prog_13_method_116_code 2 (Option.some Jvm.ClassFile.FieldType.int) ∈ lw_tbl := in_t8 (List.mem_of_getElem? (i := 211) rfl)
theorem wm8_212 : Cond.methodLink "HedgeMessagesModel" 388 yX11_postedOf ∈ lw_tbl := in_t8 (List.mem_of_getElem? (i := 212) rfl)
theorem wm8_214 : Cond.instanceMethod yX11_postedOf ∈ lw_tbl := in_t8 (List.mem_of_getElem? (i := 214) rfl)
theorem wm8_215 : Cond.code yX11_postedOf prog_13_method_115_code 4 (Option.some Jvm.ClassFile.FieldType.int) ∈ lw_tbl := in_t8 (List.mem_of_getElem? (i := 215) rfl)
theorem wm8_216 : Cond.methodLink "HedgeMessagesLaw" 234 yX11_nextStartSlot ∈ lw_tbl := in_t8 (List.mem_of_getElem? (i := 216) rfl)
theorem wm8_217 : Cond.instanceMethod yX11_nextStartSlot ∈ lw_tbl := in_t8 (List.mem_of_getElem? (i := 217) rfl)
theorem wm8_218 : Cond.selects "HedgeMessagesModel" yX11_nextStartSlot yX11_nextStartSlot ∈ lw_tbl := in_t8 (List.mem_of_getElem? (i := 218) rfl)
theorem wm8_219 : Cond.code yX11_nextStartSlot prog_13_method_117_code 2 (Option.some Jvm.ClassFile.FieldType.int) ∈ lw_tbl := in_t8 (List.mem_of_getElem? (i := 219) rfl)
theorem wm8_220 : Cond.methodLink "HedgeMessagesLaw" 238 yX11_longestFreeRun ∈ lw_tbl := in_t8 (List.mem_of_getElem? (i := 220) rfl)
theorem wm8_221 : Cond.instanceMethod yX11_longestFreeRun ∈ lw_tbl := in_t8 (List.mem_of_getElem? (i := 221) rfl)
theorem wm8_222 : Cond.selects "HedgeMessagesModel" yX11_longestFreeRun yX11_longestFreeRun ∈ lw_tbl := in_t8 (List.mem_of_getElem? (i := 222) rfl)
theorem wm8_223 : Cond.code yX11_longestFreeRun prog_13_method_118_code 4 (Option.some Jvm.ClassFile.FieldType.int) ∈ lw_tbl := in_t8 (List.mem_of_getElem? (i := 223) rfl)
theorem wm8_224 : Cond.methodLink "HedgeMessagesLaw" 242 yX11_yardLetterCount ∈ lw_tbl := in_t8 (List.mem_of_getElem? (i := 224) rfl)
theorem wm8_225 : Cond.instanceMethod yX11_yardLetterCount ∈ lw_tbl := in_t8 (List.mem_of_getElem? (i := 225) rfl)
theorem wm8_226 : Cond.selects "HedgeMessagesModel" yX11_yardLetterCount yX11_yardLetterCount ∈ lw_tbl := in_t8 (List.mem_of_getElem? (i := 226) rfl)
theorem wm8_227 : Cond.code yX11_yardLetterCount prog_13_method_119_code 4 (Option.some Jvm.ClassFile.FieldType.int) ∈ lw_tbl := in_t8 (List.mem_of_getElem? (i := 227) rfl)
theorem wm8_228 : Cond.methodLink "HedgeMessagesLaw" 245 yX11_plantReason ∈ lw_tbl := in_t8 (List.mem_of_getElem? (i := 228) rfl)
theorem wm8_229 : Cond.instanceMethod yX11_plantReason ∈ lw_tbl := in_t8 (List.mem_of_getElem? (i := 229) rfl)
theorem wm8_230 : Cond.selects "HedgeMessagesModel" yX11_plantReason yX11_plantReason ∈ lw_tbl := in_t8 (List.mem_of_getElem? (i := 230) rfl)
theorem wm8_231 : Cond.code yX11_plantReason prog_13_method_120_code 2 (Option.some Jvm.ClassFile.FieldType.int) ∈ lw_tbl := in_t8 (List.mem_of_getElem? (i := 231) rfl)
theorem wm8_232 : Cond.methodLink "HedgeMessagesLaw" 248 yX11_removeReason ∈ lw_tbl := in_t8 (List.mem_of_getElem? (i := 232) rfl)
theorem wm8_233 : Cond.instanceMethod yX11_removeReason ∈ lw_tbl := in_t8 (List.mem_of_getElem? (i := 233) rfl)
theorem wm8_234 : Cond.selects "HedgeMessagesModel" yX11_removeReason yX11_removeReason ∈ lw_tbl := in_t8 (List.mem_of_getElem? (i := 234) rfl)
theorem wm8_235 : Cond.code yX11_removeReason prog_13_method_121_code 2 (Option.some Jvm.ClassFile.FieldType.int) ∈ lw_tbl := in_t8 (List.mem_of_getElem? (i := 235) rfl)
theorem wm8_236 : Cond.methodLink "HedgeMessagesLaw" 251 yX11_trimReason ∈ lw_tbl := in_t8 (List.mem_of_getElem? (i := 236) rfl)
theorem wm8_237 : Cond.instanceMethod yX11_trimReason ∈ lw_tbl := in_t8 (List.mem_of_getElem? (i := 237) rfl)
theorem wm8_238 : Cond.selects "HedgeMessagesModel" yX11_trimReason yX11_trimReason ∈ lw_tbl := in_t8 (List.mem_of_getElem? (i := 238) rfl)
theorem wm8_239 : Cond.code yX11_trimReason prog_13_method_122_code 2 (Option.some Jvm.ClassFile.FieldType.int) ∈ lw_tbl := in_t8 (List.mem_of_getElem? (i := 239) rfl)
theorem wm9_0 : Cond.methodLink "HedgeMessagesLaw" 254 yX11_writeReason ∈ lw_tbl := in_t9 (List.mem_of_getElem? (i := 0) rfl)
theorem wm9_1 : Cond.instanceMethod yX11_writeReason ∈ lw_tbl := in_t9 (List.mem_of_getElem? (i := 1) rfl)
theorem wm9_2 : Cond.selects "HedgeMessagesModel" yX11_writeReason yX11_writeReason ∈ lw_tbl := in_t9 (List.mem_of_getElem? (i := 2) rfl)
theorem wm9_3 : Cond.code yX11_writeReason prog_13_method_123_code 2 (Option.some Jvm.ClassFile.FieldType.int) ∈ lw_tbl := in_t9 (List.mem_of_getElem? (i := 3) rfl)
theorem wm9_4 : Cond.methodLink "HedgeMessagesModel" 391 yX11_whyNotWrite ∈ lw_tbl := in_t9 (List.mem_of_getElem? (i := 4) rfl)
theorem wm9_6 : Cond.instanceMethod yX11_whyNotWrite ∈ lw_tbl := in_t9 (List.mem_of_getElem? (i := 6) rfl)
theorem wm9_7 : Cond.code yX11_whyNotWrite prog_13_method_54_code 2 (Option.some Jvm.ClassFile.FieldType.int) ∈ lw_tbl := in_t9 (List.mem_of_getElem? (i := 7) rfl)
theorem wm9_8 : Cond.methodLink "HedgeMessagesLaw" 257 yX11_keepReason ∈ lw_tbl := in_t9 (List.mem_of_getElem? (i := 8) rfl)
theorem wm9_9 : Cond.instanceMethod yX11_keepReason ∈ lw_tbl := in_t9 (List.mem_of_getElem? (i := 9) rfl)
theorem wm9_10 : Cond.selects "HedgeMessagesModel" yX11_keepReason yX11_keepReason ∈ lw_tbl := in_t9 (List.mem_of_getElem? (i := 10) rfl)
theorem wm9_11 : Cond.code yX11_keepReason prog_13_method_124_code 2 (Option.some Jvm.ClassFile.FieldType.int) ∈ lw_tbl := in_t9 (List.mem_of_getElem? (i := 11) rfl)
theorem wm9_12 : Cond.methodLink "HedgeMessagesModel" 394 yX11_whyKept ∈ lw_tbl := in_t9 (List.mem_of_getElem? (i := 12) rfl)
theorem wm9_14 : Cond.instanceMethod yX11_whyKept ∈ lw_tbl := in_t9 (List.mem_of_getElem? (i := 14) rfl)
theorem wm9_15 : Cond.code yX11_whyKept prog_13_method_55_code 2 (Option.some Jvm.ClassFile.FieldType.int) ∈ lw_tbl := in_t9 (List.mem_of_getElem? (i := 15) rfl)
theorem wm9_16 : Cond.methodLink "HedgeMessagesLaw" 261 yX11_daysUntilInspection ∈ lw_tbl := in_t9 (List.mem_of_getElem? (i := 16) rfl)
theorem wm9_17 : Cond.instanceMethod yX11_daysUntilInspection ∈ lw_tbl := in_t9 (List.mem_of_getElem? (i := 17) rfl)
theorem wm9_18 : Cond.selects "HedgeMessagesModel" yX11_daysUntilInspection yX11_daysUntilInspection ∈ lw_tbl := in_t9 (List.mem_of_getElem? (i := 18) rfl)
theorem wm9_19 : Cond.code yX11_daysUntilInspection prog_13_method_125_code 1 (Option.some Jvm.ClassFile.FieldType.int) ∈ lw_tbl := in_t9 (List.mem_of_getElem? (i := 19) rfl)
theorem wm9_20 : Cond.methodLink "HedgeMessagesLaw" 264 yX11_daysUntilPruned ∈ lw_tbl := in_t9 (List.mem_of_getElem? (i := 20) rfl)
theorem wm9_21 : Cond.instanceMethod yX11_daysUntilPruned ∈ lw_tbl := in_t9 (List.mem_of_getElem? (i := 21) rfl)
theorem wm9_22 : Cond.selects "HedgeMessagesModel" yX11_daysUntilPruned yX11_daysUntilPruned ∈ lw_tbl := in_t9 (List.mem_of_getElem? (i := 22) rfl)
theorem wm9_23 : Cond.code yX11_daysUntilPruned prog_13_method_126_code 3 (Option.some Jvm.ClassFile.FieldType.int) ∈ lw_tbl := in_t9 (List.mem_of_getElem? (i := 23) rfl)
theorem wm9_24 : Cond.methodLink "HedgeMessagesModel" 397 yX11_tries ∈ lw_tbl := in_t9 (List.mem_of_getElem? (i := 24) rfl)
theorem wm9_26 : Cond.instanceMethod yX11_tries ∈ lw_tbl := in_t9 (List.mem_of_getElem? (i := 26) rfl)
theorem wm9_27 : Cond.code yX11_tries prog_13_method_9_code 1 (Option.none : Option Jvm.ClassFile.FieldType) ∈ lw_tbl := in_t9 (List.mem_of_getElem? (i := 27) rfl)
theorem wm9_28 : Cond.methodLink "HedgeMessagesModel" 400 yX11_laidBack ∈ lw_tbl := in_t9 (List.mem_of_getElem? (i := 28) rfl)
theorem wm9_30 : Cond.instanceMethod yX11_laidBack ∈ lw_tbl := in_t9 (List.mem_of_getElem? (i := 30) rfl)
theorem wm9_31 : Cond.code yX11_laidBack prog_13_method_10_code 2 (Option.some Jvm.ClassFile.FieldType.int) ∈ lw_tbl := in_t9 (List.mem_of_getElem? (i := 31) rfl)
theorem wm9_32 : Cond.methodLink "HedgeMessagesLaw" 268 yX11_deliveredAfter ∈ lw_tbl := in_t9 (List.mem_of_getElem? (i := 32) rfl)
theorem wm9_33 : Cond.instanceMethod yX11_deliveredAfter ∈ lw_tbl := in_t9 (List.mem_of_getElem? (i := 33) rfl)
theorem wm9_34 : Cond.selects "HedgeMessagesModel" yX11_deliveredAfter yX11_deliveredAfter ∈ lw_tbl := in_t9 (List.mem_of_getElem? (i := 34) rfl)
theorem wm9_35 : Cond.code yX11_deliveredAfter prog_13_method_128_code 4 (Option.some Jvm.ClassFile.FieldType.int) ∈ lw_tbl := in_t9 (List.mem_of_getElem? (i := 35) rfl)
theorem wm9_36 : Cond.methodLink "HedgeMessagesModel" 405 yX11_areDays ∈ lw_tbl := in_t9 (List.mem_of_getElem? (i := 36) rfl)
theorem wm9_37 : Cond.static yX11_areDays ∈ lw_tbl := in_t9 (List.mem_of_getElem? (i := 37) rfl)
theorem wm9_38 : Cond.code yX11_areDays prog_13_method_127_code 1 (Option.some Jvm.ClassFile.FieldType.boolean) ∈ lw_tbl := in_t9 (List.mem_of_getElem? (i := 38) rfl)
theorem wm9_39 : Cond.constantLong "HedgeMessagesModel" 403 (60 : Int64) ∈ lw_tbl := in_t9 (List.mem_of_getElem? (i := 39) rfl)
theorem wm9_40 : Cond.methodLink "HedgeMessagesLaw" 271 yX11_pendingAfter ∈ lw_tbl := in_t9 (List.mem_of_getElem? (i := 40) rfl)
theorem wm9_41 : Cond.instanceMethod yX11_pendingAfter ∈ lw_tbl := in_t9 (List.mem_of_getElem? (i := 41) rfl)
theorem wm9_42 : Cond.selects "HedgeMessagesModel" yX11_pendingAfter yX11_pendingAfter ∈ lw_tbl := in_t9 (List.mem_of_getElem? (i := 42) rfl)
theorem wm9_43 : Cond.code yX11_pendingAfter prog_13_method_129_code 3 (Option.some Jvm.ClassFile.FieldType.int) ∈ lw_tbl := in_t9 (List.mem_of_getElem? (i := 43) rfl)
theorem wm9_44 : Cond.methodLink "HedgeMessagesLaw" 275 yX11_bestNestSlot ∈ lw_tbl := in_t9 (List.mem_of_getElem? (i := 44) rfl)
theorem wm9_45 : Cond.instanceMethod yX11_bestNestSlot ∈ lw_tbl := in_t9 (List.mem_of_getElem? (i := 45) rfl)
theorem wm9_46 : Cond.selects "HedgeMessagesModel" yX11_bestNestSlot yX11_bestNestSlot ∈ lw_tbl := in_t9 (List.mem_of_getElem? (i := 46) rfl)
theorem wm9_47 : Cond.code yX11_bestNestSlot prog_13_method_131_code 4 (Option.some Jvm.ClassFile.FieldType.int) ∈ lw_tbl := in_t9 (List.mem_of_getElem? (i := 47) rfl)
theorem wm9_48 : Cond.methodLink "HedgeMessagesModel" 408 yX11_savedBy ∈ lw_tbl := in_t9 (List.mem_of_getElem? (i := 48) rfl)
theorem wm9_50 : Cond.instanceMethod yX11_savedBy ∈ lw_tbl := in_t9 (List.mem_of_getElem? (i := 50) rfl)
theorem wm9_51 : Cond.code yX11_savedBy prog_13_method_130_code 4 (Option.some Jvm.ClassFile.FieldType.int) ∈ lw_tbl := in_t9 (List.mem_of_getElem? (i := 51) rfl)
theorem wm9_52 : Cond.methodLink "HedgeMessagesLaw" 278 yX11_leastWorkLimit ∈ lw_tbl := in_t9 (List.mem_of_getElem? (i := 52) rfl)
theorem wm9_53 : Cond.instanceMethod yX11_leastWorkLimit ∈ lw_tbl := in_t9 (List.mem_of_getElem? (i := 53) rfl)
theorem wm9_54 : Cond.selects "HedgeMessagesModel" yX11_leastWorkLimit yX11_leastWorkLimit ∈ lw_tbl := in_t9 (List.mem_of_getElem? (i := 54) rfl)
theorem wm9_55 : Cond.code yX11_leastWorkLimit prog_13_method_133_code 4 (Option.some Jvm.ClassFile.FieldType.int) ∈ lw_tbl := in_t9 (List.mem_of_getElem? (i := 55) rfl)
theorem wm9_56 : Cond.methodLink "HedgeMessagesModel" 411 yX11_hasNothingLeft ∈ lw_tbl := in_t9 (List.mem_of_getElem? (i := 56) rfl)
theorem wm9_58 : Cond.instanceMethod yX11_hasNothingLeft ∈ lw_tbl := in_t9 (List.mem_of_getElem? (i := 58) rfl)
theorem wm9_59 : Cond.code yX11_hasNothingLeft prog_13_method_132_code 2 (Option.some Jvm.ClassFile.FieldType.boolean) ∈ lw_tbl := in_t9 (List.mem_of_getElem? (i := 59) rfl)
theorem wm9_60 : Cond.methodLink "HedgeMessagesLaw" 281 yX11_messagesQueued ∈ lw_tbl := in_t9 (List.mem_of_getElem? (i := 60) rfl)
theorem wm9_61 : Cond.instanceMethod yX11_messagesQueued ∈ lw_tbl := in_t9 (List.mem_of_getElem? (i := 61) rfl)
theorem wm9_62 : Cond.selects "HedgeMessagesModel" yX11_messagesQueued yX11_messagesQueued ∈ lw_tbl := in_t9 (List.mem_of_getElem? (i := 62) rfl)
theorem wm9_63 : Cond.code yX11_messagesQueued prog_13_method_135_code 2 (Option.some Jvm.ClassFile.FieldType.int) ∈ lw_tbl := in_t9 (List.mem_of_getElem? (i := 63) rfl)
theorem wm9_64 : Cond.methodLink "HedgeMessagesModel" 414 yX11_counter ∈ lw_tbl := in_t9 (List.mem_of_getElem? (i := 64) rfl)
theorem wm9_66 : Cond.instanceMethod yX11_counter ∈ lw_tbl := in_t9 (List.mem_of_getElem? (i := 66) rfl)
theorem wm9_67 : Cond.code yX11_counter prog_13_method_134_code 3 (Option.some Jvm.ClassFile.FieldType.int) ∈ lw_tbl := in_t9 (List.mem_of_getElem? (i := 67) rfl)
theorem wm9_68 : Cond.methodLink "HedgeMessagesLaw" 284 yX11_messagesDelivered ∈ lw_tbl := in_t9 (List.mem_of_getElem? (i := 68) rfl)
theorem wm9_69 : Cond.instanceMethod yX11_messagesDelivered ∈ lw_tbl := in_t9 (List.mem_of_getElem? (i := 69) rfl)
theorem wm9_70 : Cond.selects "HedgeMessagesModel" yX11_messagesDelivered yX11_messagesDelivered ∈ lw_tbl := in_t9 (List.mem_of_getElem? (i := 70) rfl)
theorem wm9_71 : Cond.code yX11_messagesDelivered prog_13_method_136_code 2 (Option.some Jvm.ClassFile.FieldType.int) ∈ lw_tbl := in_t9 (List.mem_of_getElem? (i := 71) rfl)
theorem wm9_72 : Cond.methodLink "HedgeMessagesLaw" 287 yX11_messagesFailed ∈ lw_tbl := in_t9 (List.mem_of_getElem? (i := 72) rfl)
theorem wm9_73 : Cond.instanceMethod yX11_messagesFailed ∈ lw_tbl := in_t9 (List.mem_of_getElem? (i := 73) rfl)
theorem wm9_74 : Cond.selects "HedgeMessagesModel" yX11_messagesFailed yX11_messagesFailed ∈ lw_tbl := in_t9 (List.mem_of_getElem? (i := 74) rfl)
theorem wm9_75 : Cond.code yX11_messagesFailed prog_13_method_137_code 2 (Option.some Jvm.ClassFile.FieldType.int) ∈ lw_tbl := in_t9 (List.mem_of_getElem? (i := 75) rfl)
theorem wm9_76 : Cond.methodLink "HedgeMessagesLaw" 290 yX11_messagesDropped ∈ lw_tbl := in_t9 (List.mem_of_getElem? (i := 76) rfl)
theorem wm9_77 : Cond.instanceMethod yX11_messagesDropped ∈ lw_tbl := in_t9 (List.mem_of_getElem? (i := 77) rfl)
theorem wm9_78 : Cond.selects "HedgeMessagesModel" yX11_messagesDropped yX11_messagesDropped ∈ lw_tbl := in_t9 (List.mem_of_getElem? (i := 78) rfl)
theorem wm9_79 : Cond.code yX11_messagesDropped prog_13_method_138_code 2 (Option.some Jvm.ClassFile.FieldType.int) ∈ lw_tbl := in_t9 (List.mem_of_getElem? (i := 79) rfl)
theorem wm9_80 : Cond.methodLink "HedgeMessagesLaw" 294 yX11_twigsPlanted ∈ lw_tbl := in_t9 (List.mem_of_getElem? (i := 80) rfl)
theorem wm9_81 : Cond.instanceMethod yX11_twigsPlanted ∈ lw_tbl := in_t9 (List.mem_of_getElem? (i := 81) rfl)
theorem wm9_82 : Cond.selects "HedgeMessagesModel" yX11_twigsPlanted yX11_twigsPlanted ∈ lw_tbl := in_t9 (List.mem_of_getElem? (i := 82) rfl)
theorem wm9_83 : Cond.code yX11_twigsPlanted prog_13_method_139_code 1 (Option.some Jvm.ClassFile.FieldType.int) ∈ lw_tbl := in_t9 (List.mem_of_getElem? (i := 83) rfl)
theorem wm9_84 : Cond.methodLink "HedgeMessagesLaw" 298 yX11_twigsPruned ∈ lw_tbl := in_t9 (List.mem_of_getElem? (i := 84) rfl)
theorem wm9_85 : Cond.instanceMethod yX11_twigsPruned ∈ lw_tbl := in_t9 (List.mem_of_getElem? (i := 85) rfl)
theorem wm9_86 : Cond.selects "HedgeMessagesModel" yX11_twigsPruned yX11_twigsPruned ∈ lw_tbl := in_t9 (List.mem_of_getElem? (i := 86) rfl)
theorem wm9_87 : Cond.code yX11_twigsPruned prog_13_method_140_code 1 (Option.some Jvm.ClassFile.FieldType.int) ∈ lw_tbl := in_t9 (List.mem_of_getElem? (i := 87) rfl)
theorem wm9_88 : Cond.methodLink "HedgeMessagesLaw" 302 yX11_twigsRemoved ∈ lw_tbl := in_t9 (List.mem_of_getElem? (i := 88) rfl)
theorem wm9_89 : Cond.instanceMethod yX11_twigsRemoved ∈ lw_tbl := in_t9 (List.mem_of_getElem? (i := 89) rfl)
theorem wm9_90 : Cond.selects "HedgeMessagesModel" yX11_twigsRemoved yX11_twigsRemoved ∈ lw_tbl := in_t9 (List.mem_of_getElem? (i := 90) rfl)
theorem wm9_91 : Cond.code yX11_twigsRemoved prog_13_method_141_code 1 (Option.some Jvm.ClassFile.FieldType.int) ∈ lw_tbl := in_t9 (List.mem_of_getElem? (i := 91) rfl)
theorem wm9_92 : Cond.methodLink "HedgeMessagesLaw" 306 yX11_twigImbalance ∈ lw_tbl := in_t9 (List.mem_of_getElem? (i := 92) rfl)
theorem wm9_93 : Cond.instanceMethod yX11_twigImbalance ∈ lw_tbl := in_t9 (List.mem_of_getElem? (i := 93) rfl)
theorem wm9_94 : Cond.selects "HedgeMessagesModel" yX11_twigImbalance yX11_twigImbalance ∈ lw_tbl := in_t9 (List.mem_of_getElem? (i := 94) rfl)
theorem wm9_95 : Cond.code yX11_twigImbalance prog_13_method_142_code 1 (Option.some Jvm.ClassFile.FieldType.int) ∈ lw_tbl := in_t9 (List.mem_of_getElem? (i := 95) rfl)
theorem wm9_96 : Cond.methodLink "HedgeMessagesLaw" 310 yX11_messageImbalance ∈ lw_tbl := in_t9 (List.mem_of_getElem? (i := 96) rfl)
theorem wm9_97 : Cond.instanceMethod yX11_messageImbalance ∈ lw_tbl := in_t9 (List.mem_of_getElem? (i := 97) rfl)
theorem wm9_98 : Cond.selects "HedgeMessagesModel" yX11_messageImbalance yX11_messageImbalance ∈ lw_tbl := in_t9 (List.mem_of_getElem? (i := 98) rfl)
theorem wm9_99 : Cond.code yX11_messageImbalance prog_13_method_143_code 3 (Option.some Jvm.ClassFile.FieldType.int) ∈ lw_tbl := in_t9 (List.mem_of_getElem? (i := 99) rfl)
theorem wm9_100 : Cond.methodLink "HedgeMessagesLaw" 314 yX11_wrongLetters ∈ lw_tbl := in_t9 (List.mem_of_getElem? (i := 100) rfl)
theorem wm9_101 : Cond.instanceMethod yX11_wrongLetters ∈ lw_tbl := in_t9 (List.mem_of_getElem? (i := 101) rfl)
theorem wm9_102 : Cond.selects "HedgeMessagesModel" yX11_wrongLetters yX11_wrongLetters ∈ lw_tbl := in_t9 (List.mem_of_getElem? (i := 102) rfl)
theorem wm9_103 : Cond.code yX11_wrongLetters prog_13_method_145_code 4 (Option.some Jvm.ClassFile.FieldType.int) ∈ lw_tbl := in_t9 (List.mem_of_getElem? (i := 103) rfl)
theorem wm9_104 : Cond.methodLink "HedgeMessagesModel" 417 yX11_wrongIn ∈ lw_tbl := in_t9 (List.mem_of_getElem? (i := 104) rfl)
theorem wm9_106 : Cond.instanceMethod yX11_wrongIn ∈ lw_tbl := in_t9 (List.mem_of_getElem? (i := 106) rfl)
theorem wm9_107 : Cond.code yX11_wrongIn prog_13_method_144_code 7 (Option.some Jvm.ClassFile.FieldType.int) ∈ lw_tbl := in_t9 (List.mem_of_getElem? (i := 107) rfl)
theorem wm9_108 : Cond.methodLink "HedgeMessagesLaw" 319 yX11_meanLength ∈ lw_tbl := in_t9 (List.mem_of_getElem? (i := 108) rfl)
theorem wm9_109 : Cond.instanceMethod yX11_meanLength ∈ lw_tbl := in_t9 (List.mem_of_getElem? (i := 109) rfl)
theorem wm9_110 : Cond.selects "HedgeMessagesModel" yX11_meanLength yX11_meanLength ∈ lw_tbl := in_t9 (List.mem_of_getElem? (i := 110) rfl)
theorem wm9_111 : Cond.code yX11_meanLength prog_13_method_146_code 3 (Option.some Jvm.ClassFile.FieldType.float) ∈ lw_tbl := in_t9 (List.mem_of_getElem? (i := 111) rfl)
theorem wm9_112 : Cond.methodLink "HedgeMessagesLaw" 324 yX11_occupancy ∈ lw_tbl := in_t9 (List.mem_of_getElem? (i := 112) rfl)
theorem wm9_113 : Cond.instanceMethod yX11_occupancy ∈ lw_tbl := in_t9 (List.mem_of_getElem? (i := 113) rfl)
theorem wm9_114 : Cond.selects "HedgeMessagesModel" yX11_occupancy yX11_occupancy ∈ lw_tbl := in_t9 (List.mem_of_getElem? (i := 114) rfl)
theorem wm9_115 : Cond.code yX11_occupancy prog_13_method_147_code 1 (Option.some Jvm.ClassFile.FieldType.double) ∈ lw_tbl := in_t9 (List.mem_of_getElem? (i := 115) rfl)
theorem wm9_116 : Cond.methodLink "HedgeMessagesLaw" 327 yX11_plant ∈ lw_tbl := in_t9 (List.mem_of_getElem? (i := 116) rfl)
theorem wm9_117 : Cond.instanceMethod yX11_plant ∈ lw_tbl := in_t9 (List.mem_of_getElem? (i := 117) rfl)
theorem wm9_118 : Cond.selects "HedgeMessagesModel" yX11_plant yX11_plant ∈ lw_tbl := in_t9 (List.mem_of_getElem? (i := 118) rfl)
theorem wm9_119 : Cond.code yX11_plant prog_13_method_150_code 4 (Option.some Jvm.ClassFile.FieldType.int) ∈ lw_tbl := in_t9 (List.mem_of_getElem? (i := 119) rfl)
theorem wm9_120 : Cond.methodLink "HedgeMessagesModel" 421 yX11_passesAll ∈ lw_tbl := in_t9 (List.mem_of_getElem? (i := 120) rfl)
theorem wm9_122 : Cond.instanceMethod yX11_passesAll ∈ lw_tbl := in_t9 (List.mem_of_getElem? (i := 122) rfl)
theorem wm9_123 : Cond.code yX11_passesAll prog_13_method_7_code 4 (Option.some Jvm.ClassFile.FieldType.boolean) ∈ lw_tbl := in_t9 (List.mem_of_getElem? (i := 123) rfl)
theorem wm9_124 : Cond.methodLink "HedgeMessagesModel" 425 yX11_tried ∈ lw_tbl := in_t9 (List.mem_of_getElem? (i := 124) rfl)
theorem wm9_126 : Cond.instanceMethod yX11_tried ∈ lw_tbl := in_t9 (List.mem_of_getElem? (i := 126) rfl)
theorem wm9_127 : Cond.code yX11_tried prog_13_method_149_code 2 (Option.some Jvm.ClassFile.FieldType.boolean) ∈ lw_tbl := in_t9 (List.mem_of_getElem? (i := 127) rfl)
theorem wm9_128 : Cond.methodLink "HedgeMessagesModel" 428 yX11_done ∈ lw_tbl := in_t9 (List.mem_of_getElem? (i := 128) rfl)
theorem wm9_130 : Cond.instanceMethod yX11_done ∈ lw_tbl := in_t9 (List.mem_of_getElem? (i := 130) rfl)
theorem wm9_131 : Cond.code yX11_done prog_13_method_148_code 2 (Option.some Jvm.ClassFile.FieldType.int) ∈ lw_tbl := in_t9 (List.mem_of_getElem? (i := 131) rfl)
theorem wm9_132 : Cond.methodLink "HedgeMessagesLaw" 330 yX11_remove ∈ lw_tbl := in_t9 (List.mem_of_getElem? (i := 132) rfl)
theorem wm9_133 : Cond.instanceMethod yX11_remove ∈ lw_tbl := in_t9 (List.mem_of_getElem? (i := 133) rfl)
theorem wm9_134 : Cond.selects "HedgeMessagesModel" yX11_remove yX11_remove ∈ lw_tbl := in_t9 (List.mem_of_getElem? (i := 134) rfl)
theorem wm9_135 : Cond.code yX11_remove prog_13_method_151_code 2 (Option.some Jvm.ClassFile.FieldType.int) ∈ lw_tbl := in_t9 (List.mem_of_getElem? (i := 135) rfl)
theorem wm9_136 : Cond.methodLink "HedgeMessagesModel" 431 yX11_passesBoth ∈ lw_tbl := in_t9 (List.mem_of_getElem? (i := 136) rfl)
theorem wm9_138 : Cond.instanceMethod yX11_passesBoth ∈ lw_tbl := in_t9 (List.mem_of_getElem? (i := 138) rfl)
theorem wm9_139 : Cond.code yX11_passesBoth prog_13_method_6_code 3 (Option.some Jvm.ClassFile.FieldType.boolean) ∈ lw_tbl := in_t9 (List.mem_of_getElem? (i := 139) rfl)
theorem wm9_140 : Cond.methodLink "HedgeMessagesLaw" 333 yX11_trim ∈ lw_tbl := in_t9 (List.mem_of_getElem? (i := 140) rfl)
theorem wm9_141 : Cond.instanceMethod yX11_trim ∈ lw_tbl := in_t9 (List.mem_of_getElem? (i := 141) rfl)
theorem wm9_142 : Cond.selects "HedgeMessagesModel" yX11_trim yX11_trim ∈ lw_tbl := in_t9 (List.mem_of_getElem? (i := 142) rfl)
theorem wm9_143 : Cond.code yX11_trim prog_13_method_152_code 4 (Option.some Jvm.ClassFile.FieldType.int) ∈ lw_tbl := in_t9 (List.mem_of_getElem? (i := 143) rfl)
theorem wm9_144 : Cond.constantLong "HedgeMessagesModel" 435 (99 : Int64) ∈ lw_tbl := in_t9 (List.mem_of_getElem? (i := 144) rfl)
theorem wm9_145 : Cond.methodLink "HedgeMessagesLaw" 336 yX11_addNest ∈ lw_tbl := in_t9 (List.mem_of_getElem? (i := 145) rfl)
theorem wm9_146 : Cond.instanceMethod yX11_addNest ∈ lw_tbl := in_t9 (List.mem_of_getElem? (i := 146) rfl)
theorem wm9_147 : Cond.selects "HedgeMessagesModel" yX11_addNest yX11_addNest ∈ lw_tbl := in_t9 (List.mem_of_getElem? (i := 147) rfl)
theorem wm9_148 : Cond.code yX11_addNest prog_13_method_153_code 3 (Option.some Jvm.ClassFile.FieldType.int) ∈ lw_tbl := in_t9 (List.mem_of_getElem? (i := 148) rfl)
theorem wm9_149 : Cond.constantLong "HedgeMessagesModel" 437 (30 : Int64) ∈ lw_tbl := in_t9 (List.mem_of_getElem? (i := 149) rfl)
theorem wm9_150 : Cond.methodLink "HedgeMessagesLaw" 339 yX11_queueMessage ∈ lw_tbl := in_t9 (List.mem_of_getElem? (i := 150) rfl)
theorem wm9_151 : Cond.instanceMethod yX11_queueMessage ∈ lw_tbl := in_t9 (List.mem_of_getElem? (i := 151) rfl)
theorem wm9_152 : Cond.selects "HedgeMessagesModel" yX11_queueMessage yX11_queueMessage ∈ lw_tbl := in_t9 (List.mem_of_getElem? (i := 152) rfl)
theorem wm9_153 : Cond.code yX11_queueMessage prog_13_method_155_code 3 (Option.some Jvm.ClassFile.FieldType.int) ∈ lw_tbl := in_t9 (List.mem_of_getElem? (i := 153) rfl)
theorem wm9_154 : Cond.methodLink "HedgeMessagesModel" 439 yX11_isBufferWord ∈ lw_tbl := in_t9 (List.mem_of_getElem? (i := 154) rfl)
theorem wm9_156 : Cond.instanceMethod yX11_isBufferWord ∈ lw_tbl := in_t9 (List.mem_of_getElem? (i := 156) rfl)
theorem wm9_157 : Cond.code yX11_isBufferWord prog_13_method_154_code 3 (Option.some Jvm.ClassFile.FieldType.boolean) ∈ lw_tbl := in_t9 (List.mem_of_getElem? (i := 157) rfl)
theorem wm9_158 : Cond.methodLink "HedgeMessagesLaw" 342 yX11_cancelMessage ∈ lw_tbl := in_t9 (List.mem_of_getElem? (i := 158) rfl)
theorem wm9_159 : Cond.instanceMethod yX11_cancelMessage ∈ lw_tbl := in_t9 (List.mem_of_getElem? (i := 159) rfl)
theorem wm9_160 : Cond.selects "HedgeMessagesModel" yX11_cancelMessage yX11_cancelMessage ∈ lw_tbl := in_t9 (List.mem_of_getElem? (i := 160) rfl)
theorem wm9_161 : Cond.code yX11_cancelMessage prog_13_method_156_code 4 (Option.some Jvm.ClassFile.FieldType.int) ∈ lw_tbl := in_t9 (List.mem_of_getElem? (i := 161) rfl)
theorem wm9_162 : Cond.methodLink "HedgeMessagesLaw" 345 yX11_setWorkLimit ∈ lw_tbl := in_t9 (List.mem_of_getElem? (i := 162) rfl)
theorem wm9_163 : Cond.instanceMethod yX11_setWorkLimit ∈ lw_tbl := in_t9 (List.mem_of_getElem? (i := 163) rfl)
theorem wm9_164 : Cond.selects "HedgeMessagesModel" yX11_setWorkLimit yX11_setWorkLimit ∈ lw_tbl := in_t9 (List.mem_of_getElem? (i := 164) rfl)
theorem wm9_165 : Cond.code yX11_setWorkLimit prog_13_method_157_code 2 (Option.some Jvm.ClassFile.FieldType.int) ∈ lw_tbl := in_t9 (List.mem_of_getElem? (i := 165) rfl)
theorem wm9_166 : Cond.methodLink "HedgeMessagesLaw" 348 yX11_endDays ∈ lw_tbl := in_t9 (List.mem_of_getElem? (i := 166) rfl)
theorem wm9_167 : Cond.instanceMethod yX11_endDays ∈ lw_tbl := in_t9 (List.mem_of_getElem? (i := 167) rfl)
theorem wm9_168 : Cond.selects "HedgeMessagesModel" yX11_endDays yX11_endDays ∈ lw_tbl := in_t9 (List.mem_of_getElem? (i := 168) rfl)
theorem wm9_169 : Cond.code yX11_endDays prog_13_method_158_code 2 (Option.some Jvm.ClassFile.FieldType.int) ∈ lw_tbl := in_t9 (List.mem_of_getElem? (i := 169) rfl)
theorem wm9_170 : Cond.methodLink "HedgeMessagesLaw" 351 yX11_undo ∈ lw_tbl := in_t9 (List.mem_of_getElem? (i := 170) rfl)
theorem wm9_171 : Cond.instanceMethod yX11_undo ∈ lw_tbl := in_t9 (List.mem_of_getElem? (i := 171) rfl)
theorem wm9_172 : Cond.selects "HedgeMessagesModel" yX11_undo yX11_undo ∈ lw_tbl := in_t9 (List.mem_of_getElem? (i := 172) rfl)
theorem wm9_173 : Cond.code yX11_undo prog_13_method_159_code 1 (Option.some Jvm.ClassFile.FieldType.int) ∈ lw_tbl := in_t9 (List.mem_of_getElem? (i := 173) rfl)
theorem wm9_174 : Cond.methodLink "HedgeMessagesLaw" 355 yX11_save ∈ lw_tbl := in_t9 (List.mem_of_getElem? (i := 174) rfl)
theorem wm9_175 : Cond.instanceMethod yX11_save ∈ lw_tbl := in_t9 (List.mem_of_getElem? (i := 175) rfl)
theorem wm9_176 : Cond.selects "HedgeMessagesModel" yX11_save yX11_save ∈ lw_tbl := in_t9 (List.mem_of_getElem? (i := 176) rfl)
theorem wm9_177 : Cond.code yX11_save prog_13_method_160_code 1 (Option.some Jvm.ClassFile.FieldType.int) ∈ lw_tbl := in_t9 (List.mem_of_getElem? (i := 177) rfl)
theorem wm9_178 : Cond.methodLink "HedgeMessagesLaw" 358 yX11_restore ∈ lw_tbl := in_t9 (List.mem_of_getElem? (i := 178) rfl)
theorem wm9_179 : Cond.instanceMethod yX11_restore ∈ lw_tbl := in_t9 (List.mem_of_getElem? (i := 179) rfl)
theorem wm9_180 : Cond.selects "HedgeMessagesModel" yX11_restore yX11_restore ∈ lw_tbl := in_t9 (List.mem_of_getElem? (i := 180) rfl)
theorem wm9_181 : Cond.code yX11_restore prog_13_method_161_code 1 (Option.some Jvm.ClassFile.FieldType.int) ∈ lw_tbl := in_t9 (List.mem_of_getElem? (i := 181) rfl)
theorem wm9_182 : Cond.methodLink "HedgeMessagesLaw" 362 yX11_formatHedge ∈ lw_tbl := in_t9 (List.mem_of_getElem? (i := 182) rfl)
theorem wm9_183 : Cond.instanceMethod yX11_formatHedge ∈ lw_tbl := in_t9 (List.mem_of_getElem? (i := 183) rfl)
theorem wm9_184 : Cond.selects "HedgeMessagesModel" yX11_formatHedge yX11_formatHedge ∈ lw_tbl := in_t9 (List.mem_of_getElem? (i := 184) rfl)
theorem wm9_185 : Cond.code yX11_formatHedge prog_13_method_163_code 2 (Option.some Jvm.ClassFile.FieldType.int) ∈ lw_tbl := in_t9 (List.mem_of_getElem? (i := 185) rfl)
theorem wm9_186 : Cond.methodLink "HedgeMessagesModel" 449 yX11_markOf ∈ lw_tbl := in_t9 (List.mem_of_getElem? (i := 186) rfl)
theorem wm9_188 : Cond.instanceMethod yX11_markOf ∈ lw_tbl := in_t9 (List.mem_of_getElem? (i := 188) rfl)
theorem wm9_189 : Cond.code yX11_markOf prog_13_method_162_code 2 (Option.some Jvm.ClassFile.FieldType.int) ∈ lw_tbl := in_t9 (List.mem_of_getElem? (i := 189) rfl)
theorem wm9_190 : Cond.methodLink "HedgeMessagesLaw" 366 yX11_outputByte ∈ lw_tbl := in_t9 (List.mem_of_getElem? (i := 190) rfl)
theorem wm9_191 : Cond.instanceMethod yX11_outputByte ∈ lw_tbl := in_t9 (List.mem_of_getElem? (i := 191) rfl)
theorem wm9_192 : Cond.selects "HedgeMessagesModel" yX11_outputByte yX11_outputByte ∈ lw_tbl := in_t9 (List.mem_of_getElem? (i := 192) rfl)
theorem wm9_193 : Cond.code yX11_outputByte prog_13_method_164_code 2 (Option.some Jvm.ClassFile.FieldType.int) ∈ lw_tbl := in_t9 (List.mem_of_getElem? (i := 193) rfl)
theorem wm9_194 : Cond.arrayClass Jvm.ClassFile.FieldType.long ∈ lw_tbl := in_t9 (List.mem_of_getElem? (i := 194) rfl)
theorem wm9_196 : Cond.fieldLink "java/lang/String" 9 "java/lang/String" "value" "[B" ∈ lw_tbl := in_t9 (List.mem_of_getElem? (i := 196) rfl)
theorem wm9_197 : Cond.fieldLink "java/lang/String" 15 "java/lang/String" "coder" "B" ∈ lw_tbl := in_t9 (List.mem_of_getElem? (i := 197) rfl)
theorem wm9_198 : Cond.fieldLinkNest "HedgeMessages$CommandList" 66 "HedgeMessages$CommandForm" "word" "Ljava/lang/String;" "HedgeMessages" ∈ lw_tbl := in_t9 (List.mem_of_getElem? (i := 198) rfl)
theorem wm9_199 : Cond.fieldLinkNest "HedgeMessages$CommandList" 74 "HedgeMessages$CommandForm" "low" "I" "HedgeMessages" ∈ lw_tbl := in_t9 (List.mem_of_getElem? (i := 199) rfl)
theorem wm9_200 : Cond.fieldLinkNest "HedgeMessages$CommandList" 77 "HedgeMessages$CommandForm" "high" "I" "HedgeMessages" ∈ lw_tbl := in_t9 (List.mem_of_getElem? (i := 200) rfl)
theorem wm9_201 : Cond.fieldLinkNest "HedgeMessages$CommandList" 91 "HedgeMessages$CommandForm" "second" "I" "HedgeMessages" ∈ lw_tbl := in_t9 (List.mem_of_getElem? (i := 201) rfl)
theorem wm9_202 : Cond.fieldLinkNest "HedgeMessages$CommandList" 106 "HedgeMessages$CommandForm" "secondHigh" "I" "HedgeMessages" ∈ lw_tbl := in_t9 (List.mem_of_getElem? (i := 202) rfl)
theorem wm9_203 : Cond.fieldLink "java/lang/Enum" 7 "java/lang/Enum" "ordinal" "I" ∈ lw_tbl := in_t9 (List.mem_of_getElem? (i := 203) rfl)
/-! ===== what the tables say of each method ===== -/
theorem myX2_formOf : gYV yX2_formOf cX2_formOf 2 (Option.some (Jvm.ClassFile.FieldType.object "HedgeMessages$CommandForm")) 1 := ⟨wm4_153, wm1_8, ⟨by decide, by decide, by decide +kernel⟩, wm4_151, wm4_152⟩
theorem myX2_read : gYV yX2_read cX2_read 4 (Option.some Jvm.ClassFile.FieldType.boolean) 1 := ⟨wm4_117, wm1_8, ⟨by decide, by decide, by decide +kernel⟩, wm4_115, wm4_116⟩
theorem myX2_formNamedBy : gYS yX2_formNamedBy cX2_formNamedBy 3 (Option.some (Jvm.ClassFile.FieldType.object "HedgeMessages$CommandForm")) 1 := ⟨wm4_123, wm1_8, ⟨by decide, by decide, by decide +kernel⟩, wm4_122⟩
theorem myX2_readArguments : gYV yX2_readArguments cX2_readArguments 5 (Option.some Jvm.ClassFile.FieldType.boolean) 3 := ⟨wm4_131, wm1_8, ⟨by decide, by decide, by decide +kernel⟩, wm4_130, in_p1 (q := (yX2_readArguments, 5)) (List.mem_of_getElem? (i := 3) rfl)⟩
theorem myX3_read : gYS yX3_read cX3_read 3 (Option.some Jvm.ClassFile.FieldType.boolean) 2 := ⟨wm4_24, wm1_20, ⟨by decide, by decide, by decide +kernel⟩, wm4_23⟩
theorem myX3_readHedge : gYS yX3_readHedge cX3_readHedge 8 (Option.some Jvm.ClassFile.FieldType.boolean) 2 := ⟨wm4_31, wm1_20, ⟨by decide, by decide, by decide +kernel⟩, wm4_30⟩
theorem myX3_readStatement : gYS yX3_readStatement cX3_readStatement 2 (Option.some Jvm.ClassFile.FieldType.boolean) 2 := ⟨wm4_71, wm1_20, ⟨by decide, by decide, by decide +kernel⟩, wm4_70⟩
theorem myX3_readTwig : gYS yX3_readTwig cX3_readTwig 5 (Option.some Jvm.ClassFile.FieldType.boolean) 2 := ⟨wm4_75, wm1_20, ⟨by decide, by decide, by decide +kernel⟩, wm4_74⟩
theorem myX3_readNest : gYS yX3_readNest cX3_readNest 3 (Option.some Jvm.ClassFile.FieldType.boolean) 2 := ⟨wm4_85, wm1_20, ⟨by decide, by decide, by decide +kernel⟩, wm4_84⟩
theorem myX3_readMessage : gYS yX3_readMessage cX3_readMessage 3 (Option.some Jvm.ClassFile.FieldType.boolean) 2 := ⟨wm4_92, wm1_20, ⟨by decide, by decide, by decide +kernel⟩, wm4_91⟩
theorem myX4_clear : gYV yX4_clear cX4_clear 1 (Option.none : Option Jvm.ClassFile.FieldType) 0 := ⟨wm2_76, wm1_4, ⟨by decide, by decide, by decide +kernel⟩, wm2_74, wm2_75⟩
theorem myX4_copyFrom : gYV yX4_copyFrom cX4_copyFrom 2 (Option.none : Option Jvm.ClassFile.FieldType) 1 := ⟨wm3_130, wm1_4, ⟨by decide, by decide, by decide +kernel⟩, wm3_128, wm3_129⟩
theorem myX4_isWriting : gYV yX4_isWriting cX4_isWriting 1 (Option.some Jvm.ClassFile.FieldType.boolean) 0 := ⟨wm3_89, wm1_4, ⟨by decide, by decide, by decide +kernel⟩, wm3_87, wm3_88⟩
theorem myX4_stopWriting : gYV yX4_stopWriting cX4_stopWriting 1 (Option.none : Option Jvm.ClassFile.FieldType) 0 := ⟨wm2_80, wm1_4, ⟨by decide, by decide, by decide +kernel⟩, wm2_78, wm2_79⟩
theorem myX4_hasPending : gYV yX4_hasPending cX4_hasPending 2 (Option.some Jvm.ClassFile.FieldType.boolean) 1 := ⟨wm4_233, wm1_4, ⟨by decide, by decide, by decide +kernel⟩, wm4_231, wm4_232⟩
theorem myX4_lengthOf : gYV yX4_lengthOf cX4_lengthOf 2 (Option.some Jvm.ClassFile.FieldType.int) 1 := ⟨wm5_41, wm1_4, ⟨by decide, by decide, by decide +kernel⟩, wm5_39, wm5_40⟩
theorem myX4_letterOf : gYV yX4_letterOf cX4_letterOf 3 (Option.some Jvm.ClassFile.FieldType.int) 2 := ⟨wm5_164, wm1_4, ⟨by decide, by decide, by decide +kernel⟩, wm5_162, wm5_163⟩
theorem myX4_enqueue : gYV yX4_enqueue cX4_enqueue 4 (Option.none : Option Jvm.ClassFile.FieldType) 3 := ⟨wm2_157, wm1_4, ⟨by decide, by decide, by decide +kernel⟩, wm2_155, wm2_156⟩
theorem myX4_dequeue : gYV yX4_dequeue cX4_dequeue 3 (Option.none : Option Jvm.ClassFile.FieldType) 1 := ⟨wm5_2, wm1_4, ⟨by decide, by decide, by decide +kernel⟩, wm5_0, wm5_1⟩
theorem myX4_cancel : gYV yX4_cancel cX4_cancel 2 (Option.none : Option Jvm.ClassFile.FieldType) 1 := ⟨wm4_238, wm1_4, ⟨by decide, by decide, by decide +kernel⟩, wm4_236, wm4_237⟩
theorem myX4_queuedMinusSettled : gYV yX4_queuedMinusSettled cX4_queuedMinusSettled 1 (Option.some Jvm.ClassFile.FieldType.int) 0 := ⟨wm3_85, wm1_4, ⟨by decide, by decide, by decide +kernel⟩, wm3_83, wm3_84⟩
theorem myX5_copyFrom : gYV yX5_copyFrom cX5_copyFrom 2 (Option.none : Option Jvm.ClassFile.FieldType) 1 := ⟨wm3_121, wm1_2, ⟨by decide, by decide, by decide +kernel⟩, wm3_119, wm3_120⟩
theorem myX5_layOut : gYV yX5_layOut cX5_layOut 7 (Option.none : Option Jvm.ClassFile.FieldType) 6 := ⟨wm2_68, wm1_2, ⟨by decide, by decide, by decide +kernel⟩, wm2_66, wm2_67⟩
theorem myX5_placeTwig : gYV yX5_placeTwig cX5_placeTwig 5 (Option.none : Option Jvm.ClassFile.FieldType) 4 := ⟨wm2_84, wm1_2, ⟨by decide, by decide, by decide +kernel⟩, wm2_82, wm2_83⟩
theorem myX5_placeNest : gYV yX5_placeNest cX5_placeNest 3 (Option.none : Option Jvm.ClassFile.FieldType) 2 := ⟨wm2_92, wm1_2, ⟨by decide, by decide, by decide +kernel⟩, wm2_90, wm2_91⟩
theorem myX5_receive : gYV yX5_receive cX5_receive 6 (Option.none : Option Jvm.ClassFile.FieldType) 4 := ⟨wm2_149, wm1_2, ⟨by decide, by decide, by decide +kernel⟩, wm2_147, wm2_148⟩
theorem myX5_receiveText : gYV yX5_receiveText cX5_receiveText 5 (Option.none : Option Jvm.ClassFile.FieldType) 2 := ⟨wm2_97, wm1_2, ⟨by decide, by decide, by decide +kernel⟩, wm2_95, wm2_96⟩
theorem myX5_hasSlot : gYV yX5_hasSlot cX5_hasSlot 2 (Option.some Jvm.ClassFile.FieldType.boolean) 1 := ⟨wm4_169, wm1_2, ⟨by decide, by decide, by decide +kernel⟩, wm4_167, wm4_168⟩
theorem myX5_hasTwig : gYV yX5_hasTwig cX5_hasTwig 2 (Option.some Jvm.ClassFile.FieldType.boolean) 1 := ⟨wm3_20, wm1_2, ⟨by decide, by decide, by decide +kernel⟩, wm3_18, wm3_19⟩
theorem myX5_isBooked : gYV yX5_isBooked cX5_isBooked 2 (Option.some Jvm.ClassFile.FieldType.boolean) 1 := ⟨wm3_24, wm1_2, ⟨by decide, by decide, by decide +kernel⟩, wm3_22, wm3_23⟩
theorem myX5_isGuarded : gYV yX5_isGuarded cX5_isGuarded 2 (Option.some Jvm.ClassFile.FieldType.boolean) 1 := ⟨wm3_61, wm1_2, ⟨by decide, by decide, by decide +kernel⟩, wm3_59, wm3_60⟩
theorem myX5_gardener : gYV yX5_gardener cX5_gardener 2 (Option.some (Jvm.ClassFile.FieldType.object "HedgeMessages$Gardener")) 1 := ⟨wm2_153, wm1_2, ⟨by decide, by decide, by decide +kernel⟩, wm2_151, wm2_152⟩
theorem myX5_active : gYV yX5_active cX5_active 1 (Option.some Jvm.ClassFile.FieldType.int) 0 := ⟨wm2_220, wm1_2, ⟨by decide, by decide, by decide +kernel⟩, wm2_218, wm2_219⟩
theorem myX5_countTwigs : gYV yX5_countTwigs cX5_countTwigs 3 (Option.some Jvm.ClassFile.FieldType.int) 0 := ⟨wm2_236, wm1_2, ⟨by decide, by decide, by decide +kernel⟩, wm2_234, wm2_235⟩
theorem myX5_countTwigsInYard : gYV yX5_countTwigsInYard cX5_countTwigsInYard 4 (Option.some Jvm.ClassFile.FieldType.int) 1 := ⟨wm3_32, wm1_2, ⟨by decide, by decide, by decide +kernel⟩, wm3_30, wm3_31⟩
theorem myX5_sumOfLengths : gYV yX5_sumOfLengths cX5_sumOfLengths 3 (Option.some Jvm.ClassFile.FieldType.int) 0 := ⟨wm3_109, wm1_2, ⟨by decide, by decide, by decide +kernel⟩, wm3_107, wm3_108⟩
theorem myX5_countNests : gYV yX5_countNests cX5_countNests 3 (Option.some Jvm.ClassFile.FieldType.int) 0 := ⟨wm3_8, wm1_2, ⟨by decide, by decide, by decide +kernel⟩, wm3_6, wm3_7⟩
theorem myX5_longestRun : gYV yX5_longestRun cX5_longestRun 5 (Option.some Jvm.ClassFile.FieldType.int) 0 := ⟨wm3_16, wm1_2, ⟨by decide, by decide, by decide +kernel⟩, wm3_14, wm3_15⟩
theorem myX5_findStart : gYV yX5_findStart cX5_findStart 4 (Option.some Jvm.ClassFile.FieldType.int) 1 := ⟨wm5_47, wm1_2, ⟨by decide, by decide, by decide +kernel⟩, wm5_45, wm5_46⟩
theorem myX5_hasMessages : gYV yX5_hasMessages cX5_hasMessages 3 (Option.some Jvm.ClassFile.FieldType.boolean) 1 := ⟨wm6_47, wm1_2, ⟨by decide, by decide, by decide +kernel⟩, wm6_45, wm6_46⟩
theorem myX5_daysToInspection : gYV yX5_daysToInspection cX5_daysToInspection 1 (Option.some Jvm.ClassFile.FieldType.int) 0 := ⟨wm3_40, wm1_2, ⟨by decide, by decide, by decide +kernel⟩, wm3_38, wm3_39⟩
theorem myX5_signOf : gYV yX5_signOf cX5_signOf 3 (Option.some Jvm.ClassFile.FieldType.int) 1 := ⟨wm3_144, wm1_2, ⟨by decide, by decide, by decide +kernel⟩, wm3_142, wm3_143⟩
theorem myX5_countWrongLetters : gYV yX5_countWrongLetters cX5_countWrongLetters 3 (Option.some Jvm.ClassFile.FieldType.int) 0 := ⟨wm3_97, wm1_2, ⟨by decide, by decide, by decide +kernel⟩, wm3_95, wm3_96⟩
theorem myX5_wrongIn : gYV yX5_wrongIn cX5_wrongIn 7 (Option.some Jvm.ClassFile.FieldType.int) 3 := ⟨wm3_101, wm1_2, ⟨by decide, by decide, by decide +kernel⟩, wm3_100, in_p1 (q := (yX5_wrongIn, 19)) (List.mem_of_getElem? (i := 1) rfl)⟩
theorem myX5_bestSlotForNest : gYV yX5_bestSlotForNest cX5_bestSlotForNest 5 (Option.some Jvm.ClassFile.FieldType.int) 0 := ⟨wm3_48, wm1_2, ⟨by decide, by decide, by decide +kernel⟩, wm3_46, wm3_47⟩
theorem myX5_wouldSave : gYV yX5_wouldSave cX5_wouldSave 2 (Option.some Jvm.ClassFile.FieldType.int) 1 := ⟨wm3_53, wm1_2, ⟨by decide, by decide, by decide +kernel⟩, wm3_52, in_p1 (q := (yX5_wouldSave, 19)) (List.mem_of_getElem? (i := 0) rfl)⟩
theorem myX5_reasonNotToPlant : gYV yX5_reasonNotToPlant cX5_reasonNotToPlant 2 (Option.some Jvm.ClassFile.FieldType.int) 1 := ⟨wm4_179, wm1_2, ⟨by decide, by decide, by decide +kernel⟩, wm4_177, wm4_178⟩
theorem myX5_reasonNotToRemove : gYV yX5_reasonNotToRemove cX5_reasonNotToRemove 3 (Option.some Jvm.ClassFile.FieldType.int) 1 := ⟨wm4_195, wm1_2, ⟨by decide, by decide, by decide +kernel⟩, wm4_193, wm4_194⟩
theorem myX5_reasonNotToTrim : gYV yX5_reasonNotToTrim cX5_reasonNotToTrim 3 (Option.some Jvm.ClassFile.FieldType.int) 1 := ⟨wm4_213, wm1_2, ⟨by decide, by decide, by decide +kernel⟩, wm4_211, wm4_212⟩
theorem myX5_reasonNotToTouch : gYV yX5_reasonNotToTouch cX5_reasonNotToTouch 2 (Option.some Jvm.ClassFile.FieldType.int) 1 := ⟨wm4_199, wm1_2, ⟨by decide, by decide, by decide +kernel⟩, wm4_198, in_p1 (q := (yX5_reasonNotToTouch, 19)) (List.mem_of_getElem? (i := 7) rfl)⟩
theorem myX5_reasonNotToWrite : gYV yX5_reasonNotToWrite cX5_reasonNotToWrite 3 (Option.some Jvm.ClassFile.FieldType.int) 1 := ⟨wm5_235, wm1_2, ⟨by decide, by decide, by decide +kernel⟩, wm5_233, wm5_234⟩
theorem myX5_reasonNotToPrune : gYV yX5_reasonNotToPrune cX5_reasonNotToPrune 2 (Option.some Jvm.ClassFile.FieldType.int) 1 := ⟨wm3_57, wm1_2, ⟨by decide, by decide, by decide +kernel⟩, wm3_55, wm3_56⟩
theorem myX5_mayPlant : gYV yX5_mayPlant cX5_mayPlant 2 (Option.some Jvm.ClassFile.FieldType.boolean) 1 := ⟨wm4_175, wm1_2, ⟨by decide, by decide, by decide +kernel⟩, wm4_173, wm4_174⟩
theorem myX5_mayRemove : gYV yX5_mayRemove cX5_mayRemove 2 (Option.some Jvm.ClassFile.FieldType.boolean) 1 := ⟨wm4_191, wm1_2, ⟨by decide, by decide, by decide +kernel⟩, wm4_189, wm4_190⟩
theorem myX5_mayTrim : gYV yX5_mayTrim cX5_mayTrim 2 (Option.some Jvm.ClassFile.FieldType.boolean) 1 := ⟨wm4_209, wm1_2, ⟨by decide, by decide, by decide +kernel⟩, wm4_207, wm4_208⟩
theorem myX5_mayNest : gYV yX5_mayNest cX5_mayNest 2 (Option.some Jvm.ClassFile.FieldType.boolean) 1 := ⟨wm4_223, wm1_2, ⟨by decide, by decide, by decide +kernel⟩, wm4_221, wm4_222⟩
theorem myX5_mayQueue : gYV yX5_mayQueue cX5_mayQueue 2 (Option.some Jvm.ClassFile.FieldType.boolean) 1 := ⟨wm4_100, wm1_2, ⟨by decide, by decide, by decide +kernel⟩, wm4_98, wm4_99⟩
theorem myX5_mayCancel : gYV yX5_mayCancel cX5_mayCancel 3 (Option.some Jvm.ClassFile.FieldType.boolean) 2 := ⟨wm4_229, wm1_2, ⟨by decide, by decide, by decide +kernel⟩, wm4_227, wm4_228⟩
theorem myX5_plantByHand : gYV yX5_plantByHand cX5_plantByHand 3 (Option.none : Option Jvm.ClassFile.FieldType) 2 := ⟨wm4_183, wm1_2, ⟨by decide, by decide, by decide +kernel⟩, wm4_181, wm4_182⟩
theorem myX5_removeByHand : gYV yX5_removeByHand cX5_removeByHand 2 (Option.none : Option Jvm.ClassFile.FieldType) 1 := ⟨wm4_203, wm1_2, ⟨by decide, by decide, by decide +kernel⟩, wm4_201, wm4_202⟩
theorem myX5_trimByHand : gYV yX5_trimByHand cX5_trimByHand 4 (Option.none : Option Jvm.ClassFile.FieldType) 2 := ⟨wm4_217, wm1_2, ⟨by decide, by decide, by decide +kernel⟩, wm4_215, wm4_216⟩
theorem myX5_endOneDay : gYV yX5_endOneDay cX5_endOneDay 1 (Option.none : Option Jvm.ClassFile.FieldType) 0 := ⟨wm5_6, wm1_2, ⟨by decide, by decide, by decide +kernel⟩, wm5_4, wm5_5⟩
theorem myX5_deliverPosted : gYV yX5_deliverPosted cX5_deliverPosted 4 (Option.none : Option Jvm.ClassFile.FieldType) 1 := ⟨wm5_10, wm1_2, ⟨by decide, by decide, by decide +kernel⟩, wm5_9, in_p1 (q := (yX5_deliverPosted, 19)) (List.mem_of_getElem? (i := 8) rfl)⟩
theorem myX5_clearMessage : gYV yX5_clearMessage cX5_clearMessage 4 (Option.none : Option Jvm.ClassFile.FieldType) 2 := ⟨wm5_18, wm1_2, ⟨by decide, by decide, by decide +kernel⟩, wm5_17, in_p1 (q := (yX5_clearMessage, 19)) (List.mem_of_getElem? (i := 9) rfl)⟩
theorem myX5_writeLetters : gYV yX5_writeLetters cX5_writeLetters 4 (Option.none : Option Jvm.ClassFile.FieldType) 1 := ⟨wm5_32, wm1_2, ⟨by decide, by decide, by decide +kernel⟩, wm5_31, in_p1 (q := (yX5_writeLetters, 19)) (List.mem_of_getElem? (i := 10) rfl)⟩
theorem myX5_startNext : gYV yX5_startNext cX5_startNext 4 (Option.some Jvm.ClassFile.FieldType.boolean) 1 := ⟨wm5_37, wm1_2, ⟨by decide, by decide, by decide +kernel⟩, wm5_36, in_p1 (q := (yX5_startNext, 19)) (List.mem_of_getElem? (i := 11) rfl)⟩
theorem myX5_grow : gYV yX5_grow cX5_grow 4 (Option.none : Option Jvm.ClassFile.FieldType) 0 := ⟨wm5_55, wm1_2, ⟨by decide, by decide, by decide +kernel⟩, wm5_54, in_p1 (q := (yX5_grow, 19)) (List.mem_of_getElem? (i := 12) rfl)⟩
theorem myX5_prune : gYV yX5_prune cX5_prune 2 (Option.none : Option Jvm.ClassFile.FieldType) 0 := ⟨wm5_59, wm1_2, ⟨by decide, by decide, by decide +kernel⟩, wm5_58, in_p1 (q := (yX5_prune, 19)) (List.mem_of_getElem? (i := 13) rfl)⟩
theorem myX5_failInProgress : gYV yX5_failInProgress cX5_failInProgress 3 (Option.none : Option Jvm.ClassFile.FieldType) 1 := ⟨wm5_63, wm1_2, ⟨by decide, by decide, by decide +kernel⟩, wm5_62, in_p1 (q := (yX5_failInProgress, 19)) (List.mem_of_getElem? (i := 14) rfl)⟩
theorem myX5_failPosted : gYV yX5_failPosted cX5_failPosted 5 (Option.none : Option Jvm.ClassFile.FieldType) 0 := ⟨wm5_75, wm1_2, ⟨by decide, by decide, by decide +kernel⟩, wm5_74, in_p2 (q := (yX5_failPosted, 19)) (List.mem_of_getElem? (i := 1) rfl)⟩
theorem myX5_lostTwig : gYV yX5_lostTwig cX5_lostTwig 4 (Option.some Jvm.ClassFile.FieldType.boolean) 2 := ⟨wm5_67, wm1_2, ⟨by decide, by decide, by decide +kernel⟩, wm5_66, in_p1 (q := (yX5_lostTwig, 19)) (List.mem_of_getElem? (i := 15) rfl)⟩
theorem myX5_fail : gYV yX5_fail cX5_fail 5 (Option.none : Option Jvm.ClassFile.FieldType) 3 := ⟨wm5_71, wm1_2, ⟨by decide, by decide, by decide +kernel⟩, wm5_70, in_p2 (q := (yX5_fail, 19)) (List.mem_of_getElem? (i := 0) rfl)⟩
theorem myX6_forget : gYV yX6_forget cX6_forget 1 (Option.none : Option Jvm.ClassFile.FieldType) 0 := ⟨wm4_106, wm1_6, ⟨by decide, by decide, by decide +kernel⟩, wm4_104, wm4_105⟩
theorem myX6_remember : gYV yX6_remember cX6_remember 3 (Option.none : Option Jvm.ClassFile.FieldType) 1 := ⟨wm4_140, wm1_6, ⟨by decide, by decide, by decide +kernel⟩, wm4_138, wm4_139⟩
theorem myX6_takeBack : gYV yX6_takeBack cX6_takeBack 3 (Option.none : Option Jvm.ClassFile.FieldType) 1 := ⟨wm6_160, wm1_6, ⟨by decide, by decide, by decide +kernel⟩, wm6_158, wm6_159⟩
theorem myX6_stateAt : gYV yX6_stateAt cX6_stateAt 2 (Option.some (Jvm.ClassFile.FieldType.object "HedgeMessages$Hedge")) 1 := ⟨wm4_144, wm1_6, ⟨by decide, by decide, by decide +kernel⟩, wm4_143, in_p1 (q := (yX6_stateAt, 3)) (List.mem_of_getElem? (i := 4) rfl)⟩
theorem myX7_copyFrom : gYV yX7_copyFrom cX7_copyFrom 2 (Option.none : Option Jvm.ClassFile.FieldType) 1 := ⟨wm3_135, wm1_5, ⟨by decide, by decide, by decide +kernel⟩, wm3_133, wm3_134⟩
theorem myX7_countOf : gYV yX7_countOf cX7_countOf 4 (Option.some Jvm.ClassFile.FieldType.int) 1 := ⟨wm5_191, wm1_5, ⟨by decide, by decide, by decide +kernel⟩, wm5_189, wm5_190⟩
theorem myX7_post : gYV yX7_post cX7_post 4 (Option.none : Option Jvm.ClassFile.FieldType) 3 := ⟨wm5_27, wm1_5, ⟨by decide, by decide, by decide +kernel⟩, wm5_25, wm5_26⟩
theorem myX7_startSifting : gYV yX7_startSifting cX7_startSifting 2 (Option.some Jvm.ClassFile.FieldType.int) 0 := ⟨wm5_14, wm1_5, ⟨by decide, by decide, by decide +kernel⟩, wm5_12, wm5_13⟩
theorem myX7_keep : gYV yX7_keep cX7_keep 2 (Option.none : Option Jvm.ClassFile.FieldType) 1 := ⟨wm5_22, wm1_5, ⟨by decide, by decide, by decide +kernel⟩, wm5_20, wm5_21⟩
theorem myX8_get : gYV yX8_get cX8_get 2 (Option.some Jvm.ClassFile.FieldType.int) 1 := ⟨wm3_0, wm1_3, ⟨by decide, by decide, by decide +kernel⟩, wm2_238, wm2_239⟩
theorem myX8_set : gYV yX8_set cX8_set 3 (Option.none : Option Jvm.ClassFile.FieldType) 2 := ⟨wm2_88, wm1_3, ⟨by decide, by decide, by decide +kernel⟩, wm2_86, wm2_87⟩
theorem myX8_clear : gYV yX8_clear cX8_clear 2 (Option.none : Option Jvm.ClassFile.FieldType) 0 := ⟨wm2_72, wm1_3, ⟨by decide, by decide, by decide +kernel⟩, wm2_70, wm2_71⟩
theorem myX8_copyFrom : gYV yX8_copyFrom cX8_copyFrom 2 (Option.none : Option Jvm.ClassFile.FieldType) 1 := ⟨wm3_125, wm1_3, ⟨by decide, by decide, by decide +kernel⟩, wm3_123, wm3_124⟩
theorem myX8_copyPart : gYV yX8_copyPart cX8_copyPart 6 (Option.none : Option Jvm.ClassFile.FieldType) 4 := ⟨wm2_161, wm1_3, ⟨by decide, by decide, by decide +kernel⟩, wm2_159, wm2_160⟩
theorem myX9_appendBytes : gYV yX9_appendBytes cX9_appendBytes 2 (Option.none : Option Jvm.ClassFile.FieldType) 1 := ⟨wm3_229, wm1_7, ⟨by decide, by decide, by decide +kernel⟩, wm3_227, wm3_228⟩
theorem myX9_isOneWord : gYV yX9_isOneWord cX9_isOneWord 2 (Option.some Jvm.ClassFile.FieldType.boolean) 0 := ⟨wm6_123, wm1_7, ⟨by decide, by decide, by decide +kernel⟩, wm6_121, wm6_122⟩
theorem myX9_startReading : gYV yX9_startReading cX9_startReading 1 (Option.none : Option Jvm.ClassFile.FieldType) 0 := ⟨wm4_28, wm1_7, ⟨by decide, by decide, by decide +kernel⟩, wm4_26, wm4_27⟩
theorem myX9_refuse : gYV yX9_refuse cX9_refuse 2 (Option.some Jvm.ClassFile.FieldType.boolean) 1 := ⟨wm4_53, wm1_7, ⟨by decide, by decide, by decide +kernel⟩, wm4_51, wm4_52⟩
theorem myX9_readToken : gYV yX9_readToken cX9_readToken 2 (Option.none : Option Jvm.ClassFile.FieldType) 0 := ⟨wm4_35, wm1_7, ⟨by decide, by decide, by decide +kernel⟩, wm4_33, wm4_34⟩
theorem myX9_atEnd : gYV yX9_atEnd cX9_atEnd 1 (Option.some Jvm.ClassFile.FieldType.boolean) 0 := ⟨wm4_68, wm1_7, ⟨by decide, by decide, by decide +kernel⟩, wm4_66, wm4_67⟩
theorem myX9_isWord : gYV yX9_isWord cX9_isWord 3 (Option.some Jvm.ClassFile.FieldType.boolean) 1 := ⟨wm4_47, wm1_7, ⟨by decide, by decide, by decide +kernel⟩, wm4_45, wm4_46⟩
theorem myX9_readNumber : gYV yX9_readNumber cX9_readNumber 4 (Option.some Jvm.ClassFile.FieldType.boolean) 2 := ⟨wm4_57, wm1_7, ⟨by decide, by decide, by decide +kernel⟩, wm4_55, wm4_56⟩
theorem myX9_readMessageWord : gYV yX9_readMessageWord cX9_readMessageWord 1 (Option.some Jvm.ClassFile.FieldType.boolean) 0 := ⟨wm4_96, wm1_7, ⟨by decide, by decide, by decide +kernel⟩, wm4_94, wm4_95⟩
theorem myX9_readLetter : gYV yX9_readLetter cX9_readLetter 1 (Option.some Jvm.ClassFile.FieldType.boolean) 0 := ⟨wm4_80, wm1_7, ⟨by decide, by decide, by decide +kernel⟩, wm4_78, wm4_79⟩
theorem myX9_readSemicolon : gYV yX9_readSemicolon cX9_readSemicolon 1 (Option.some Jvm.ClassFile.FieldType.boolean) 0 := ⟨wm4_64, wm1_7, ⟨by decide, by decide, by decide +kernel⟩, wm4_62, wm4_63⟩
theorem myX10_append : gYV yX10_append cX10_append 6 (Option.some Jvm.ClassFile.FieldType.int) 5 := ⟨wm3_158, wm1_1, ⟨by decide, by decide, by decide +kernel⟩, wm3_156, wm3_157⟩
theorem myX10_truncate : gYV yX10_truncate cX10_truncate 2 (Option.some Jvm.ClassFile.FieldType.int) 1 := ⟨wm3_238, wm1_1, ⟨by decide, by decide, by decide +kernel⟩, wm3_236, wm3_237⟩
theorem myX10_load : gYV yX10_load cX10_load 2 (Option.some Jvm.ClassFile.FieldType.int) 0 := ⟨wm4_21, wm1_1, ⟨by decide, by decide, by decide +kernel⟩, wm4_19, wm4_20⟩
theorem myX10_executeCommands : gYV yX10_executeCommands cX10_executeCommands 3 (Option.some Jvm.ClassFile.FieldType.int) 0 := ⟨wm4_113, wm1_1, ⟨by decide, by decide, by decide +kernel⟩, wm4_111, wm4_112⟩
theorem myX10_errorCode : gYV yX10_errorCode cX10_errorCode 1 (Option.some Jvm.ClassFile.FieldType.int) 0 := ⟨wm2_200, wm1_1, ⟨by decide, by decide, by decide +kernel⟩, wm2_198, wm2_199⟩
theorem myX10_errorPosition : gYV yX10_errorPosition cX10_errorPosition 1 (Option.some Jvm.ClassFile.FieldType.int) 0 := ⟨wm2_204, wm1_1, ⟨by decide, by decide, by decide +kernel⟩, wm2_202, wm2_203⟩
theorem myX10_slotCount : gYV yX10_slotCount cX10_slotCount 1 (Option.some Jvm.ClassFile.FieldType.int) 0 := ⟨wm2_208, wm1_1, ⟨by decide, by decide, by decide +kernel⟩, wm2_206, wm2_207⟩
theorem myX10_day : gYV yX10_day cX10_day 1 (Option.some Jvm.ClassFile.FieldType.int) 0 := ⟨wm2_212, wm1_1, ⟨by decide, by decide, by decide +kernel⟩, wm2_210, wm2_211⟩
theorem myX10_activeGardener : gYV yX10_activeGardener cX10_activeGardener 1 (Option.some Jvm.ClassFile.FieldType.int) 0 := ⟨wm2_216, wm1_1, ⟨by decide, by decide, by decide +kernel⟩, wm2_214, wm2_215⟩
theorem myX10_workLimit : gYV yX10_workLimit cX10_workLimit 1 (Option.some Jvm.ClassFile.FieldType.int) 0 := ⟨wm2_224, wm1_1, ⟨by decide, by decide, by decide +kernel⟩, wm2_222, wm2_223⟩
theorem myX10_actionsLeft : gYV yX10_actionsLeft cX10_actionsLeft 1 (Option.some Jvm.ClassFile.FieldType.int) 0 := ⟨wm2_228, wm1_1, ⟨by decide, by decide, by decide +kernel⟩, wm2_226, wm2_227⟩
theorem myX10_twigCount : gYV yX10_twigCount cX10_twigCount 1 (Option.some Jvm.ClassFile.FieldType.int) 0 := ⟨wm2_232, wm1_1, ⟨by decide, by decide, by decide +kernel⟩, wm2_230, wm2_231⟩
theorem myX10_letterAt : gYV yX10_letterAt cX10_letterAt 2 (Option.some Jvm.ClassFile.FieldType.int) 1 := ⟨wm5_84, wm1_1, ⟨by decide, by decide, by decide +kernel⟩, wm5_82, wm5_83⟩
theorem myX10_ownerAt : gYV yX10_ownerAt cX10_ownerAt 2 (Option.some Jvm.ClassFile.FieldType.int) 1 := ⟨wm5_112, wm1_1, ⟨by decide, by decide, by decide +kernel⟩, wm5_110, wm5_111⟩
theorem myX10_lengthAt : gYV yX10_lengthAt cX10_lengthAt 2 (Option.some Jvm.ClassFile.FieldType.int) 1 := ⟨wm5_119, wm1_1, ⟨by decide, by decide, by decide +kernel⟩, wm5_117, wm5_118⟩
theorem myX10_isReserved : gYV yX10_isReserved cX10_isReserved 2 (Option.some Jvm.ClassFile.FieldType.boolean) 1 := ⟨wm5_126, wm1_1, ⟨by decide, by decide, by decide +kernel⟩, wm5_124, wm5_125⟩
theorem myX10_nestDays : gYV yX10_nestDays cX10_nestDays 2 (Option.some Jvm.ClassFile.FieldType.int) 1 := ⟨wm5_134, wm1_1, ⟨by decide, by decide, by decide +kernel⟩, wm5_132, wm5_133⟩
theorem myX10_isProtected : gYV yX10_isProtected cX10_isProtected 2 (Option.some Jvm.ClassFile.FieldType.boolean) 1 := ⟨wm5_141, wm1_1, ⟨by decide, by decide, by decide +kernel⟩, wm5_139, wm5_140⟩
theorem myX10_nestCount : gYV yX10_nestCount cX10_nestCount 1 (Option.some Jvm.ClassFile.FieldType.int) 0 := ⟨wm3_4, wm1_1, ⟨by decide, by decide, by decide +kernel⟩, wm3_2, wm3_3⟩
theorem myX10_pendingCount : gYV yX10_pendingCount cX10_pendingCount 2 (Option.some Jvm.ClassFile.FieldType.int) 1 := ⟨wm5_149, wm1_1, ⟨by decide, by decide, by decide +kernel⟩, wm5_147, wm5_148⟩
theorem myX10_pendingLetter : gYV yX10_pendingLetter cX10_pendingLetter 4 (Option.some Jvm.ClassFile.FieldType.int) 3 := ⟨wm5_160, wm1_1, ⟨by decide, by decide, by decide +kernel⟩, wm5_158, wm5_159⟩
theorem myX10_lettersWritten : gYV yX10_lettersWritten cX10_lettersWritten 2 (Option.some Jvm.ClassFile.FieldType.int) 1 := ⟨wm5_172, wm1_1, ⟨by decide, by decide, by decide +kernel⟩, wm5_170, wm5_171⟩
theorem myX10_startSlot : gYV yX10_startSlot cX10_startSlot 3 (Option.some Jvm.ClassFile.FieldType.int) 1 := ⟨wm5_179, wm1_1, ⟨by decide, by decide, by decide +kernel⟩, wm5_177, wm5_178⟩
theorem myX10_postedCount : gYV yX10_postedCount cX10_postedCount 2 (Option.some Jvm.ClassFile.FieldType.int) 1 := ⟨wm5_187, wm1_1, ⟨by decide, by decide, by decide +kernel⟩, wm5_185, wm5_186⟩
theorem myX10_nextStartSlot : gYV yX10_nextStartSlot cX10_nextStartSlot 2 (Option.some Jvm.ClassFile.FieldType.int) 1 := ⟨wm5_198, wm1_1, ⟨by decide, by decide, by decide +kernel⟩, wm5_196, wm5_197⟩
theorem myX10_longestFreeRun : gYV yX10_longestFreeRun cX10_longestFreeRun 1 (Option.some Jvm.ClassFile.FieldType.int) 0 := ⟨wm3_12, wm1_1, ⟨by decide, by decide, by decide +kernel⟩, wm3_10, wm3_11⟩
theorem myX10_yardLetterCount : gYV yX10_yardLetterCount cX10_yardLetterCount 2 (Option.some Jvm.ClassFile.FieldType.int) 1 := ⟨wm3_28, wm1_1, ⟨by decide, by decide, by decide +kernel⟩, wm3_26, wm3_27⟩
theorem myX10_plantReason : gYV yX10_plantReason cX10_plantReason 2 (Option.some Jvm.ClassFile.FieldType.int) 1 := ⟨wm5_207, wm1_1, ⟨by decide, by decide, by decide +kernel⟩, wm5_205, wm5_206⟩
theorem myX10_removeReason : gYV yX10_removeReason cX10_removeReason 2 (Option.some Jvm.ClassFile.FieldType.int) 1 := ⟨wm5_215, wm1_1, ⟨by decide, by decide, by decide +kernel⟩, wm5_213, wm5_214⟩
theorem myX10_trimReason : gYV yX10_trimReason cX10_trimReason 2 (Option.some Jvm.ClassFile.FieldType.int) 1 := ⟨wm5_223, wm1_1, ⟨by decide, by decide, by decide +kernel⟩, wm5_221, wm5_222⟩
theorem myX10_writeReason : gYV yX10_writeReason cX10_writeReason 2 (Option.some Jvm.ClassFile.FieldType.int) 1 := ⟨wm5_231, wm1_1, ⟨by decide, by decide, by decide +kernel⟩, wm5_229, wm5_230⟩
theorem myX10_keepReason : gYV yX10_keepReason cX10_keepReason 2 (Option.some Jvm.ClassFile.FieldType.int) 1 := ⟨wm6_2, wm1_1, ⟨by decide, by decide, by decide +kernel⟩, wm6_0, wm6_1⟩
theorem myX10_daysUntilInspection : gYV yX10_daysUntilInspection cX10_daysUntilInspection 1 (Option.some Jvm.ClassFile.FieldType.int) 0 := ⟨wm3_36, wm1_1, ⟨by decide, by decide, by decide +kernel⟩, wm3_34, wm3_35⟩
theorem myX10_daysUntilPruned : gYV yX10_daysUntilPruned cX10_daysUntilPruned 3 (Option.some Jvm.ClassFile.FieldType.int) 1 := ⟨wm6_10, wm1_1, ⟨by decide, by decide, by decide +kernel⟩, wm6_8, wm6_9⟩
theorem myX10_deliveredAfter : gYV yX10_deliveredAfter cX10_deliveredAfter 3 (Option.some Jvm.ClassFile.FieldType.int) 2 := ⟨wm6_17, wm1_1, ⟨by decide, by decide, by decide +kernel⟩, wm6_15, wm6_16⟩
theorem myX10_pendingAfter : gYV yX10_pendingAfter cX10_pendingAfter 3 (Option.some Jvm.ClassFile.FieldType.int) 2 := ⟨wm6_32, wm1_1, ⟨by decide, by decide, by decide +kernel⟩, wm6_30, wm6_31⟩
theorem myX10_bestNestSlot : gYV yX10_bestNestSlot cX10_bestNestSlot 1 (Option.some Jvm.ClassFile.FieldType.int) 0 := ⟨wm3_44, wm1_1, ⟨by decide, by decide, by decide +kernel⟩, wm3_42, wm3_43⟩
theorem myX10_leastWorkLimit : gYV yX10_leastWorkLimit cX10_leastWorkLimit 4 (Option.some Jvm.ClassFile.FieldType.int) 2 := ⟨wm6_39, wm1_1, ⟨by decide, by decide, by decide +kernel⟩, wm6_37, wm6_38⟩
theorem myX10_messagesQueued : gYV yX10_messagesQueued cX10_messagesQueued 2 (Option.some Jvm.ClassFile.FieldType.int) 1 := ⟨wm6_55, wm1_1, ⟨by decide, by decide, by decide +kernel⟩, wm6_53, wm6_54⟩
theorem myX10_messagesDelivered : gYV yX10_messagesDelivered cX10_messagesDelivered 2 (Option.some Jvm.ClassFile.FieldType.int) 1 := ⟨wm6_62, wm1_1, ⟨by decide, by decide, by decide +kernel⟩, wm6_60, wm6_61⟩
theorem myX10_messagesFailed : gYV yX10_messagesFailed cX10_messagesFailed 2 (Option.some Jvm.ClassFile.FieldType.int) 1 := ⟨wm6_69, wm1_1, ⟨by decide, by decide, by decide +kernel⟩, wm6_67, wm6_68⟩
theorem myX10_messagesDropped : gYV yX10_messagesDropped cX10_messagesDropped 2 (Option.some Jvm.ClassFile.FieldType.int) 1 := ⟨wm6_76, wm1_1, ⟨by decide, by decide, by decide +kernel⟩, wm6_74, wm6_75⟩
theorem myX10_twigsPlanted : gYV yX10_twigsPlanted cX10_twigsPlanted 1 (Option.some Jvm.ClassFile.FieldType.int) 0 := ⟨wm3_65, wm1_1, ⟨by decide, by decide, by decide +kernel⟩, wm3_63, wm3_64⟩
theorem myX10_twigsPruned : gYV yX10_twigsPruned cX10_twigsPruned 1 (Option.some Jvm.ClassFile.FieldType.int) 0 := ⟨wm3_69, wm1_1, ⟨by decide, by decide, by decide +kernel⟩, wm3_67, wm3_68⟩
theorem myX10_twigsRemoved : gYV yX10_twigsRemoved cX10_twigsRemoved 1 (Option.some Jvm.ClassFile.FieldType.int) 0 := ⟨wm3_73, wm1_1, ⟨by decide, by decide, by decide +kernel⟩, wm3_71, wm3_72⟩
theorem myX10_twigImbalance : gYV yX10_twigImbalance cX10_twigImbalance 1 (Option.some Jvm.ClassFile.FieldType.int) 0 := ⟨wm3_77, wm1_1, ⟨by decide, by decide, by decide +kernel⟩, wm3_75, wm3_76⟩
theorem myX10_messageImbalance : gYV yX10_messageImbalance cX10_messageImbalance 1 (Option.some Jvm.ClassFile.FieldType.int) 0 := ⟨wm3_81, wm1_1, ⟨by decide, by decide, by decide +kernel⟩, wm3_79, wm3_80⟩
theorem myX10_wrongLetters : gYV yX10_wrongLetters cX10_wrongLetters 1 (Option.some Jvm.ClassFile.FieldType.int) 0 := ⟨wm3_93, wm1_1, ⟨by decide, by decide, by decide +kernel⟩, wm3_91, wm3_92⟩
theorem myX10_meanLength : gYV yX10_meanLength cX10_meanLength 2 (Option.some Jvm.ClassFile.FieldType.float) 0 := ⟨wm3_105, wm1_1, ⟨by decide, by decide, by decide +kernel⟩, wm3_103, wm3_104⟩
theorem myX10_occupancy : gYV yX10_occupancy cX10_occupancy 1 (Option.some Jvm.ClassFile.FieldType.double) 0 := ⟨wm3_113, wm1_1, ⟨by decide, by decide, by decide +kernel⟩, wm3_111, wm3_112⟩
theorem myX10_plant : gYV yX10_plant cX10_plant 3 (Option.some Jvm.ClassFile.FieldType.int) 2 := ⟨wm6_83, wm1_1, ⟨by decide, by decide, by decide +kernel⟩, wm6_81, wm6_82⟩
theorem myX10_remove : gYV yX10_remove cX10_remove 3 (Option.some Jvm.ClassFile.FieldType.int) 1 := ⟨wm6_93, wm1_1, ⟨by decide, by decide, by decide +kernel⟩, wm6_91, wm6_92⟩
theorem myX10_trim : gYV yX10_trim cX10_trim 3 (Option.some Jvm.ClassFile.FieldType.int) 2 := ⟨wm6_101, wm1_1, ⟨by decide, by decide, by decide +kernel⟩, wm6_99, wm6_100⟩
theorem myX10_addNest : gYV yX10_addNest cX10_addNest 3 (Option.some Jvm.ClassFile.FieldType.int) 2 := ⟨wm6_110, wm1_1, ⟨by decide, by decide, by decide +kernel⟩, wm6_108, wm6_109⟩
theorem myX10_queueMessage : gYV yX10_queueMessage cX10_queueMessage 2 (Option.some Jvm.ClassFile.FieldType.int) 1 := ⟨wm6_119, wm1_1, ⟨by decide, by decide, by decide +kernel⟩, wm6_117, wm6_118⟩
theorem myX10_cancelMessage : gYV yX10_cancelMessage cX10_cancelMessage 4 (Option.some Jvm.ClassFile.FieldType.int) 2 := ⟨wm6_132, wm1_1, ⟨by decide, by decide, by decide +kernel⟩, wm6_130, wm6_131⟩
theorem myX10_setWorkLimit : gYV yX10_setWorkLimit cX10_setWorkLimit 3 (Option.some Jvm.ClassFile.FieldType.int) 1 := ⟨wm6_140, wm1_1, ⟨by decide, by decide, by decide +kernel⟩, wm6_138, wm6_139⟩
theorem myX10_endDays : gYV yX10_endDays cX10_endDays 4 (Option.some Jvm.ClassFile.FieldType.int) 1 := ⟨wm6_148, wm1_1, ⟨by decide, by decide, by decide +kernel⟩, wm6_146, wm6_147⟩
theorem myX10_undo : gYV yX10_undo cX10_undo 1 (Option.some Jvm.ClassFile.FieldType.int) 0 := ⟨wm6_155, wm1_1, ⟨by decide, by decide, by decide +kernel⟩, wm6_153, wm6_154⟩
theorem myX10_save : gYV yX10_save cX10_save 1 (Option.some Jvm.ClassFile.FieldType.int) 0 := ⟨wm3_117, wm1_1, ⟨by decide, by decide, by decide +kernel⟩, wm3_115, wm3_116⟩
theorem myX10_restore : gYV yX10_restore cX10_restore 1 (Option.some Jvm.ClassFile.FieldType.int) 0 := ⟨wm6_167, wm1_1, ⟨by decide, by decide, by decide +kernel⟩, wm6_165, wm6_166⟩
theorem myX10_formatHedge : gYV yX10_formatHedge cX10_formatHedge 2 (Option.some Jvm.ClassFile.FieldType.int) 0 := ⟨wm3_140, wm1_1, ⟨by decide, by decide, by decide +kernel⟩, wm3_138, wm3_139⟩
theorem myX10_outputByte : gYV yX10_outputByte cX10_outputByte 2 (Option.some Jvm.ClassFile.FieldType.int) 1 := ⟨wm3_149, wm1_1, ⟨by decide, by decide, by decide +kernel⟩, wm3_147, wm3_148⟩
theorem myX10_requireSlot : gYV yX10_requireSlot cX10_requireSlot 2 (Option.none : Option Jvm.ClassFile.FieldType) 1 := ⟨wm5_88, wm1_1, ⟨by decide, by decide, by decide +kernel⟩, wm5_87, in_p2 (q := (yX10_requireSlot, 9)) (List.mem_of_getElem? (i := 2) rfl)⟩
theorem myX10_requireGardener : gYS yX10_requireGardener cX10_requireGardener 1 (Option.none : Option Jvm.ClassFile.FieldType) 1 := ⟨wm5_152, wm1_1, ⟨by decide, by decide, by decide +kernel⟩, wm5_151⟩
theorem myX10_requireDays : gYS yX10_requireDays cX10_requireDays 2 (Option.none : Option Jvm.ClassFile.FieldType) 2 := ⟨wm6_20, wm1_1, ⟨by decide, by decide, by decide +kernel⟩, wm6_19⟩
theorem myX10_isLetter : gYS yX10_isLetter cX10_isLetter 1 (Option.some Jvm.ClassFile.FieldType.boolean) 1 := ⟨wm4_39, wm1_1, ⟨by decide, by decide, by decide +kernel⟩, wm4_38⟩
theorem myX10_isDigit : gYS yX10_isDigit cX10_isDigit 1 (Option.some Jvm.ClassFile.FieldType.boolean) 1 := ⟨wm4_42, wm1_1, ⟨by decide, by decide, by decide +kernel⟩, wm4_41⟩
theorem myX10_foresee : gYV yX10_foresee cX10_foresee 3 (Option.none : Option Jvm.ClassFile.FieldType) 1 := ⟨wm6_25, wm1_1, ⟨by decide, by decide, by decide +kernel⟩, wm6_24, in_p2 (q := (yX10_foresee, 9)) (List.mem_of_getElem? (i := 3) rfl)⟩
theorem myX10_suffices : gYV yX10_suffices cX10_suffices 5 (Option.some Jvm.ClassFile.FieldType.boolean) 3 := ⟨wm6_43, wm1_1, ⟨by decide, by decide, by decide +kernel⟩, wm6_42, in_p2 (q := (yX10_suffices, 9)) (List.mem_of_getElem? (i := 4) rfl)⟩
theorem myX10_perform : gYV yX10_perform cX10_perform 6 (Option.some Jvm.ClassFile.FieldType.boolean) 1 := ⟨wm4_149, wm1_1, ⟨by decide, by decide, by decide +kernel⟩, wm4_148, in_p1 (q := (yX10_perform, 9)) (List.mem_of_getElem? (i := 5) rfl)⟩
theorem myX10_performOnSlot : gYV yX10_performOnSlot cX10_performOnSlot 4 (Option.some Jvm.ClassFile.FieldType.boolean) 3 := ⟨wm4_165, wm1_1, ⟨by decide, by decide, by decide +kernel⟩, wm4_164, in_p1 (q := (yX10_performOnSlot, 9)) (List.mem_of_getElem? (i := 6) rfl)⟩
theorem myX11_thrown : gYV yX11_thrown cX11_thrown 1 (Option.some Jvm.ClassFile.FieldType.int) 0 := ⟨wm7_140, wm1_14, ⟨by decide, by decide, by decide +kernel⟩, wm7_138, wm7_139⟩
theorem myX11_in : gYS yX11_in cX11_in 6 (Option.some Jvm.ClassFile.FieldType.boolean) 3 := ⟨wm6_210, wm1_14, ⟨by decide, by decide, by decide +kernel⟩, wm6_209⟩
theorem myX11_truth : gYS yX11_truth cX11_truth 1 (Option.some Jvm.ClassFile.FieldType.int) 1 := ⟨wm7_37, wm1_14, ⟨by decide, by decide, by decide +kernel⟩, wm7_36⟩
theorem myX11_passes : gYV yX11_passes cX11_passes 2 (Option.some Jvm.ClassFile.FieldType.boolean) 1 := ⟨wm7_66, wm1_14, ⟨by decide, by decide, by decide +kernel⟩, wm7_65, in_p3 (q := (yX11_passes, 23)) (List.mem_of_getElem? (i := 14) rfl)⟩
theorem myX11_passesBoth : gYV yX11_passesBoth cX11_passesBoth 3 (Option.some Jvm.ClassFile.FieldType.boolean) 2 := ⟨wm9_139, wm1_14, ⟨by decide, by decide, by decide +kernel⟩, wm9_138, in_p7 (q := (yX11_passesBoth, 23)) (List.mem_of_getElem? (i := 13) rfl)⟩
theorem myX11_passesAll : gYV yX11_passesAll cX11_passesAll 4 (Option.some Jvm.ClassFile.FieldType.boolean) 3 := ⟨wm9_123, wm1_14, ⟨by decide, by decide, by decide +kernel⟩, wm9_122, in_p7 (q := (yX11_passesAll, 23)) (List.mem_of_getElem? (i := 10) rfl)⟩
theorem myX11_copies : gYS yX11_copies cX11_copies 5 (Option.none : Option Jvm.ClassFile.FieldType) 4 := ⟨wm6_184, wm1_14, ⟨by decide, by decide, by decide +kernel⟩, wm6_183⟩
theorem myX11_tries : gYV yX11_tries cX11_tries 1 (Option.none : Option Jvm.ClassFile.FieldType) 0 := ⟨wm9_27, wm1_14, ⟨by decide, by decide, by decide +kernel⟩, wm9_26, in_p7 (q := (yX11_tries, 23)) (List.mem_of_getElem? (i := 4) rfl)⟩
theorem myX11_laidBack : gYV yX11_laidBack cX11_laidBack 2 (Option.some Jvm.ClassFile.FieldType.int) 1 := ⟨wm9_31, wm1_14, ⟨by decide, by decide, by decide +kernel⟩, wm9_30, in_p7 (q := (yX11_laidBack, 23)) (List.mem_of_getElem? (i := 5) rfl)⟩
theorem myX11_of : gYV yX11_of cX11_of 3 (Option.some Jvm.ClassFile.FieldType.int) 2 := ⟨wm7_5, wm1_14, ⟨by decide, by decide, by decide +kernel⟩, wm7_4, in_p3 (q := (yX11_of, 23)) (List.mem_of_getElem? (i := 1) rfl)⟩
theorem myX11_puts : gYV yX11_puts cX11_puts 4 (Option.none : Option Jvm.ClassFile.FieldType) 3 := ⟨wm7_17, wm1_14, ⟨by decide, by decide, by decide +kernel⟩, wm7_16, in_p3 (q := (yX11_puts, 23)) (List.mem_of_getElem? (i := 4) rfl)⟩
theorem myX11_isSlot : gYV yX11_isSlot cX11_isSlot 2 (Option.some Jvm.ClassFile.FieldType.boolean) 1 := ⟨wm7_30, wm1_14, ⟨by decide, by decide, by decide +kernel⟩, wm7_29, in_p3 (q := (yX11_isSlot, 23)) (List.mem_of_getElem? (i := 7) rfl)⟩
theorem myX11_isGardener : gYS yX11_isGardener cX11_isGardener 1 (Option.some Jvm.ClassFile.FieldType.boolean) 1 := ⟨wm8_195, wm1_14, ⟨by decide, by decide, by decide +kernel⟩, wm8_194⟩
theorem myX11_hasTwig : gYV yX11_hasTwig cX11_hasTwig 2 (Option.some Jvm.ClassFile.FieldType.boolean) 1 := ⟨wm7_1, wm1_14, ⟨by decide, by decide, by decide +kernel⟩, wm7_0, in_p3 (q := (yX11_hasTwig, 23)) (List.mem_of_getElem? (i := 0) rfl)⟩
theorem myX11_hasNest : gYV yX11_hasNest cX11_hasNest 2 (Option.some Jvm.ClassFile.FieldType.boolean) 1 := ⟨wm7_26, wm1_14, ⟨by decide, by decide, by decide +kernel⟩, wm7_25, in_p3 (q := (yX11_hasNest, 23)) (List.mem_of_getElem? (i := 6) rfl)⟩
theorem myX11_isSafe : gYV yX11_isSafe cX11_isSafe 2 (Option.some Jvm.ClassFile.FieldType.boolean) 1 := ⟨wm8_9, wm1_14, ⟨by decide, by decide, by decide +kernel⟩, wm8_8, in_p5 (q := (yX11_isSafe, 23)) (List.mem_of_getElem? (i := 1) rfl)⟩
theorem myX11_nests : gYV yX11_nests cX11_nests 3 (Option.some Jvm.ClassFile.FieldType.int) 0 := ⟨wm7_34, wm1_14, ⟨by decide, by decide, by decide +kernel⟩, wm7_33, in_p3 (q := (yX11_nests, 23)) (List.mem_of_getElem? (i := 8) rfl)⟩
theorem myX11_twigs : gYV yX11_twigs cX11_twigs 3 (Option.some Jvm.ClassFile.FieldType.int) 0 := ⟨wm7_233, wm1_14, ⟨by decide, by decide, by decide +kernel⟩, wm7_232, in_p4 (q := (yX11_twigs, 23)) (List.mem_of_getElem? (i := 13) rfl)⟩
theorem myX11_twigComes : gYV yX11_twigComes cX11_twigComes 6 (Option.none : Option Jvm.ClassFile.FieldType) 5 := ⟨wm7_13, wm1_14, ⟨by decide, by decide, by decide +kernel⟩, wm7_12, in_p3 (q := (yX11_twigComes, 23)) (List.mem_of_getElem? (i := 3) rfl)⟩
theorem myX11_twigGoes : gYV yX11_twigGoes cX11_twigGoes 3 (Option.none : Option Jvm.ClassFile.FieldType) 1 := ⟨wm8_13, wm1_14, ⟨by decide, by decide, by decide +kernel⟩, wm8_12, in_p5 (q := (yX11_twigGoes, 23)) (List.mem_of_getElem? (i := 2) rfl)⟩
theorem myX11_activeNow : gYV yX11_activeNow cX11_activeNow 1 (Option.some Jvm.ClassFile.FieldType.int) 0 := ⟨wm7_229, wm1_14, ⟨by decide, by decide, by decide +kernel⟩, wm7_228, in_p4 (q := (yX11_activeNow, 23)) (List.mem_of_getElem? (i := 12) rfl)⟩
theorem myX11_progressOf : gYS yX11_progressOf cX11_progressOf 1 (Option.some Jvm.ClassFile.FieldType.int) 1 := ⟨wm7_225, wm1_14, ⟨by decide, by decide, by decide +kernel⟩, wm7_224⟩
theorem myX11_postAt : gYS yX11_postAt cX11_postAt 1 (Option.some Jvm.ClassFile.FieldType.int) 1 := ⟨wm7_218, wm1_14, ⟨by decide, by decide, by decide +kernel⟩, wm7_217⟩
theorem myX11_waitingAt : gYS yX11_waitingAt cX11_waitingAt 2 (Option.some Jvm.ClassFile.FieldType.int) 2 := ⟨wm7_58, wm1_14, ⟨by decide, by decide, by decide +kernel⟩, wm7_57⟩
theorem myX11_isInProgress : gYV yX11_isInProgress cX11_isInProgress 2 (Option.some Jvm.ClassFile.FieldType.boolean) 1 := ⟨wm8_84, wm1_14, ⟨by decide, by decide, by decide +kernel⟩, wm8_83, in_p6 (q := (yX11_isInProgress, 23)) (List.mem_of_getElem? (i := 3) rfl)⟩
theorem myX11_reserves : gYV yX11_reserves cX11_reserves 3 (Option.some Jvm.ClassFile.FieldType.boolean) 2 := ⟨wm7_222, wm1_14, ⟨by decide, by decide, by decide +kernel⟩, wm7_221, in_p4 (q := (yX11_reserves, 23)) (List.mem_of_getElem? (i := 11) rfl)⟩
theorem myX11_isReservedAt : gYV yX11_isReservedAt cX11_isReservedAt 3 (Option.some Jvm.ClassFile.FieldType.boolean) 1 := ⟨wm7_215, wm1_14, ⟨by decide, by decide, by decide +kernel⟩, wm7_214, in_p4 (q := (yX11_isReservedAt, 23)) (List.mem_of_getElem? (i := 10) rfl)⟩
theorem myX11_isFree : gYV yX11_isFree cX11_isFree 2 (Option.some Jvm.ClassFile.FieldType.boolean) 1 := ⟨wm8_100, wm1_14, ⟨by decide, by decide, by decide +kernel⟩, wm8_99, in_p6 (q := (yX11_isFree, 23)) (List.mem_of_getElem? (i := 7) rfl)⟩
theorem myX11_isBorder : gYV yX11_isBorder cX11_isBorder 2 (Option.some Jvm.ClassFile.FieldType.boolean) 1 := ⟨wm8_104, wm1_14, ⟨by decide, by decide, by decide +kernel⟩, wm8_103, in_p6 (q := (yX11_isBorder, 23)) (List.mem_of_getElem? (i := 8) rfl)⟩
theorem myX11_fits : gYV yX11_fits cX11_fits 4 (Option.some Jvm.ClassFile.FieldType.boolean) 2 := ⟨wm8_96, wm1_14, ⟨by decide, by decide, by decide +kernel⟩, wm8_95, in_p6 (q := (yX11_fits, 23)) (List.mem_of_getElem? (i := 6) rfl)⟩
theorem myX11_startFor : gYV yX11_startFor cX11_startFor 3 (Option.some Jvm.ClassFile.FieldType.int) 1 := ⟨wm8_92, wm1_14, ⟨by decide, by decide, by decide +kernel⟩, wm8_91, in_p6 (q := (yX11_startFor, 23)) (List.mem_of_getElem? (i := 5) rfl)⟩
theorem myX11_startOfNext : gYV yX11_startOfNext cX11_startOfNext 2 (Option.some Jvm.ClassFile.FieldType.int) 1 := ⟨wm8_88, wm1_14, ⟨by decide, by decide, by decide +kernel⟩, wm8_87, in_p6 (q := (yX11_startOfNext, 23)) (List.mem_of_getElem? (i := 4) rfl)⟩
theorem myX11_waits : gYV yX11_waits cX11_waits 5 (Option.none : Option Jvm.ClassFile.FieldType) 2 := ⟨wm8_136, wm1_14, ⟨by decide, by decide, by decide +kernel⟩, wm8_135, in_p7 (q := (yX11_waits, 23)) (List.mem_of_getElem? (i := 0) rfl)⟩
theorem myX11_waitsNoMore : gYV yX11_waitsNoMore cX11_waitsNoMore 5 (Option.none : Option Jvm.ClassFile.FieldType) 2 := ⟨wm8_40, wm1_14, ⟨by decide, by decide, by decide +kernel⟩, wm8_39, in_p5 (q := (yX11_waitsNoMore, 23)) (List.mem_of_getElem? (i := 8) rfl)⟩
theorem myX11_begins : gYV yX11_begins cX11_begins 6 (Option.none : Option Jvm.ClassFile.FieldType) 2 := ⟨wm8_108, wm1_14, ⟨by decide, by decide, by decide +kernel⟩, wm8_107, in_p6 (q := (yX11_begins, 23)) (List.mem_of_getElem? (i := 9) rfl)⟩
theorem myX11_posts : gYV yX11_posts cX11_posts 5 (Option.none : Option Jvm.ClassFile.FieldType) 1 := ⟨wm8_112, wm1_14, ⟨by decide, by decide, by decide +kernel⟩, wm8_111, in_p6 (q := (yX11_posts, 23)) (List.mem_of_getElem? (i := 10) rfl)⟩
theorem myX11_postGoes : gYV yX11_postGoes cX11_postGoes 3 (Option.none : Option Jvm.ClassFile.FieldType) 1 := ⟨wm8_72, wm1_14, ⟨by decide, by decide, by decide +kernel⟩, wm8_71, in_p6 (q := (yX11_postGoes, 23)) (List.mem_of_getElem? (i := 0) rfl)⟩
theorem myX11_clearsTwigs : gYV yX11_clearsTwigs cX11_clearsTwigs 5 (Option.none : Option Jvm.ClassFile.FieldType) 2 := ⟨wm8_68, wm1_14, ⟨by decide, by decide, by decide +kernel⟩, wm8_67, in_p5 (q := (yX11_clearsTwigs, 23)) (List.mem_of_getElem? (i := 15) rfl)⟩
theorem myX11_delivers : gYV yX11_delivers cX11_delivers 4 (Option.none : Option Jvm.ClassFile.FieldType) 1 := ⟨wm8_64, wm1_14, ⟨by decide, by decide, by decide +kernel⟩, wm8_63, in_p5 (q := (yX11_delivers, 23)) (List.mem_of_getElem? (i := 14) rfl)⟩
theorem myX11_writes : gYV yX11_writes cX11_writes 4 (Option.some Jvm.ClassFile.FieldType.boolean) 1 := ⟨wm8_80, wm1_14, ⟨by decide, by decide, by decide +kernel⟩, wm8_79, in_p6 (q := (yX11_writes, 23)) (List.mem_of_getElem? (i := 2) rfl)⟩
theorem myX11_writesAll : gYV yX11_writesAll cX11_writesAll 2 (Option.none : Option Jvm.ClassFile.FieldType) 1 := ⟨wm8_76, wm1_14, ⟨by decide, by decide, by decide +kernel⟩, wm8_75, in_p6 (q := (yX11_writesAll, 23)) (List.mem_of_getElem? (i := 1) rfl)⟩
theorem myX11_growsAll : gYV yX11_growsAll cX11_growsAll 2 (Option.none : Option Jvm.ClassFile.FieldType) 0 := ⟨wm8_116, wm1_14, ⟨by decide, by decide, by decide +kernel⟩, wm8_115, in_p6 (q := (yX11_growsAll, 23)) (List.mem_of_getElem? (i := 11) rfl)⟩
theorem myX11_wouldPrune : gYV yX11_wouldPrune cX11_wouldPrune 2 (Option.some Jvm.ClassFile.FieldType.boolean) 1 := ⟨wm8_124, wm1_14, ⟨by decide, by decide, by decide +kernel⟩, wm8_123, in_p6 (q := (yX11_wouldPrune, 23)) (List.mem_of_getElem? (i := 13) rfl)⟩
theorem myX11_lostTwig : gYV yX11_lostTwig cX11_lostTwig 4 (Option.some Jvm.ClassFile.FieldType.boolean) 2 := ⟨wm8_128, wm1_14, ⟨by decide, by decide, by decide +kernel⟩, wm8_127, in_p6 (q := (yX11_lostTwig, 23)) (List.mem_of_getElem? (i := 14) rfl)⟩
theorem myX11_fails : gYV yX11_fails cX11_fails 4 (Option.none : Option Jvm.ClassFile.FieldType) 3 := ⟨wm8_132, wm1_14, ⟨by decide, by decide, by decide +kernel⟩, wm8_131, in_p6 (q := (yX11_fails, 23)) (List.mem_of_getElem? (i := 15) rfl)⟩
theorem myX11_inspects : gYV yX11_inspects cX11_inspects 3 (Option.none : Option Jvm.ClassFile.FieldType) 0 := ⟨wm8_120, wm1_14, ⟨by decide, by decide, by decide +kernel⟩, wm8_119, in_p6 (q := (yX11_inspects, 23)) (List.mem_of_getElem? (i := 12) rfl)⟩
theorem myX11_dayOnce : gYV yX11_dayOnce cX11_dayOnce 2 (Option.none : Option Jvm.ClassFile.FieldType) 0 := ⟨wm8_60, wm1_14, ⟨by decide, by decide, by decide +kernel⟩, wm8_59, in_p5 (q := (yX11_dayOnce, 23)) (List.mem_of_getElem? (i := 13) rfl)⟩
theorem myX11_goBy : gYV yX11_goBy cX11_goBy 3 (Option.none : Option Jvm.ClassFile.FieldType) 1 := ⟨wm8_56, wm1_14, ⟨by decide, by decide, by decide +kernel⟩, wm8_55, in_p5 (q := (yX11_goBy, 23)) (List.mem_of_getElem? (i := 12) rfl)⟩
theorem myX11_whyNotPlant : gYV yX11_whyNotPlant cX11_whyNotPlant 2 (Option.some Jvm.ClassFile.FieldType.int) 1 := ⟨wm7_211, wm1_14, ⟨by decide, by decide, by decide +kernel⟩, wm7_210, in_p4 (q := (yX11_whyNotPlant, 23)) (List.mem_of_getElem? (i := 9) rfl)⟩
theorem myX11_whyNotTouch : gYV yX11_whyNotTouch cX11_whyNotTouch 2 (Option.some Jvm.ClassFile.FieldType.int) 1 := ⟨wm8_5, wm1_14, ⟨by decide, by decide, by decide +kernel⟩, wm8_4, in_p5 (q := (yX11_whyNotTouch, 23)) (List.mem_of_getElem? (i := 0) rfl)⟩
theorem myX11_whyNotRemove : gYV yX11_whyNotRemove cX11_whyNotRemove 3 (Option.some Jvm.ClassFile.FieldType.int) 1 := ⟨wm8_1, wm1_14, ⟨by decide, by decide, by decide +kernel⟩, wm8_0, in_p4 (q := (yX11_whyNotRemove, 23)) (List.mem_of_getElem? (i := 15) rfl)⟩
theorem myX11_whyNotTrim : gYV yX11_whyNotTrim cX11_whyNotTrim 3 (Option.some Jvm.ClassFile.FieldType.int) 1 := ⟨wm8_21, wm1_14, ⟨by decide, by decide, by decide +kernel⟩, wm8_20, in_p5 (q := (yX11_whyNotTrim, 23)) (List.mem_of_getElem? (i := 4) rfl)⟩
theorem myX11_whyNotWrite : gYV yX11_whyNotWrite cX11_whyNotWrite 2 (Option.some Jvm.ClassFile.FieldType.int) 1 := ⟨wm9_7, wm1_14, ⟨by decide, by decide, by decide +kernel⟩, wm9_6, in_p7 (q := (yX11_whyNotWrite, 23)) (List.mem_of_getElem? (i := 2) rfl)⟩
theorem myX11_whyKept : gYV yX11_whyKept cX11_whyKept 2 (Option.some Jvm.ClassFile.FieldType.int) 1 := ⟨wm9_15, wm1_14, ⟨by decide, by decide, by decide +kernel⟩, wm9_14, in_p7 (q := (yX11_whyKept, 23)) (List.mem_of_getElem? (i := 3) rfl)⟩
theorem myX11_plantNow : gYV yX11_plantNow cX11_plantNow 3 (Option.some Jvm.ClassFile.FieldType.boolean) 2 := ⟨wm7_207, wm1_14, ⟨by decide, by decide, by decide +kernel⟩, wm7_206, in_p4 (q := (yX11_plantNow, 23)) (List.mem_of_getElem? (i := 8) rfl)⟩
theorem myX11_removeNow : gYV yX11_removeNow cX11_removeNow 2 (Option.some Jvm.ClassFile.FieldType.boolean) 1 := ⟨wm7_237, wm1_14, ⟨by decide, by decide, by decide +kernel⟩, wm7_236, in_p4 (q := (yX11_removeNow, 23)) (List.mem_of_getElem? (i := 14) rfl)⟩
theorem myX11_trimNow : gYV yX11_trimNow cX11_trimNow 3 (Option.some Jvm.ClassFile.FieldType.boolean) 2 := ⟨wm8_17, wm1_14, ⟨by decide, by decide, by decide +kernel⟩, wm8_16, in_p5 (q := (yX11_trimNow, 23)) (List.mem_of_getElem? (i := 3) rfl)⟩
theorem myX11_canNest : gYV yX11_canNest cX11_canNest 2 (Option.some Jvm.ClassFile.FieldType.boolean) 1 := ⟨wm8_32, wm1_14, ⟨by decide, by decide, by decide +kernel⟩, wm8_31, in_p5 (q := (yX11_canNest, 23)) (List.mem_of_getElem? (i := 6) rfl)⟩
theorem myX11_nestNow : gYV yX11_nestNow cX11_nestNow 3 (Option.some Jvm.ClassFile.FieldType.boolean) 2 := ⟨wm8_28, wm1_14, ⟨by decide, by decide, by decide +kernel⟩, wm8_27, in_p5 (q := (yX11_nestNow, 23)) (List.mem_of_getElem? (i := 5) rfl)⟩
theorem myX11_messageNow : gYV yX11_messageNow cX11_messageNow 4 (Option.some Jvm.ClassFile.FieldType.boolean) 1 := ⟨wm7_55, wm1_14, ⟨by decide, by decide, by decide +kernel⟩, wm7_54, in_p3 (q := (yX11_messageNow, 23)) (List.mem_of_getElem? (i := 12) rfl)⟩
theorem myX11_cancelNow : gYV yX11_cancelNow cX11_cancelNow 3 (Option.some Jvm.ClassFile.FieldType.boolean) 2 := ⟨wm8_36, wm1_14, ⟨by decide, by decide, by decide +kernel⟩, wm8_35, in_p5 (q := (yX11_cancelNow, 23)) (List.mem_of_getElem? (i := 7) rfl)⟩
theorem myX11_workNow : gYV yX11_workNow cX11_workNow 2 (Option.some Jvm.ClassFile.FieldType.boolean) 1 := ⟨wm8_44, wm1_14, ⟨by decide, by decide, by decide +kernel⟩, wm8_43, in_p5 (q := (yX11_workNow, 23)) (List.mem_of_getElem? (i := 9) rfl)⟩
theorem myX11_delivered : gYV yX11_delivered cX11_delivered 1 (Option.some Jvm.ClassFile.FieldType.int) 0 := ⟨wm8_52, wm1_14, ⟨by decide, by decide, by decide +kernel⟩, wm8_51, in_p5 (q := (yX11_delivered, 23)) (List.mem_of_getElem? (i := 11) rfl)⟩
theorem myX11_endNow : gYV yX11_endNow cX11_endNow 3 (Option.some Jvm.ClassFile.FieldType.boolean) 1 := ⟨wm8_48, wm1_14, ⟨by decide, by decide, by decide +kernel⟩, wm8_47, in_p5 (q := (yX11_endNow, 23)) (List.mem_of_getElem? (i := 10) rfl)⟩
theorem myX11_four : gYV yX11_four cX11_four 3 (Option.none : Option Jvm.ClassFile.FieldType) 1 := ⟨wm7_148, wm1_14, ⟨by decide, by decide, by decide +kernel⟩, wm7_147, in_p3 (q := (yX11_four, 23)) (List.mem_of_getElem? (i := 15) rfl)⟩
theorem myX11_append : gYV yX11_append cX11_append 6 (Option.some Jvm.ClassFile.FieldType.int) 5 := ⟨wm7_144, wm1_14, ⟨by decide, by decide, by decide +kernel⟩, wm7_142, wm7_143⟩
theorem myX11_truncate : gYV yX11_truncate cX11_truncate 2 (Option.some Jvm.ClassFile.FieldType.int) 1 := ⟨wm7_152, wm1_14, ⟨by decide, by decide, by decide +kernel⟩, wm7_150, wm7_151⟩
theorem myX11_byteAt : gYV yX11_byteAt cX11_byteAt 2 (Option.some Jvm.ClassFile.FieldType.int) 1 := ⟨wm6_205, wm1_14, ⟨by decide, by decide, by decide +kernel⟩, wm6_204, in_p2 (q := (yX11_byteAt, 23)) (List.mem_of_getElem? (i := 9) rfl)⟩
theorem myX11_next : gYV yX11_next cX11_next 1 (Option.some Jvm.ClassFile.FieldType.int) 0 := ⟨wm6_201, wm1_14, ⟨by decide, by decide, by decide +kernel⟩, wm6_200, in_p2 (q := (yX11_next, 23)) (List.mem_of_getElem? (i := 8) rfl)⟩
theorem myX11_must : gYV yX11_must cX11_must 3 (Option.none : Option Jvm.ClassFile.FieldType) 2 := ⟨wm6_214, wm1_14, ⟨by decide, by decide, by decide +kernel⟩, wm6_213, in_p2 (q := (yX11_must, 23)) (List.mem_of_getElem? (i := 10) rfl)⟩
theorem myX11_sees : gYV yX11_sees cX11_sees 4 (Option.some Jvm.ClassFile.FieldType.boolean) 1 := ⟨wm6_197, wm1_14, ⟨by decide, by decide, by decide +kernel⟩, wm6_196, in_p2 (q := (yX11_sees, 23)) (List.mem_of_getElem? (i := 7) rfl)⟩
theorem myX11_goesPast : gYV yX11_goesPast cX11_goesPast 1 (Option.none : Option Jvm.ClassFile.FieldType) 0 := ⟨wm6_218, wm1_14, ⟨by decide, by decide, by decide +kernel⟩, wm6_217, in_p2 (q := (yX11_goesPast, 23)) (List.mem_of_getElem? (i := 11) rfl)⟩
theorem myX11_semicolon : gYV yX11_semicolon cX11_semicolon 1 (Option.none : Option Jvm.ClassFile.FieldType) 0 := ⟨wm6_228, wm1_14, ⟨by decide, by decide, by decide +kernel⟩, wm6_227, in_p2 (q := (yX11_semicolon, 23)) (List.mem_of_getElem? (i := 13) rfl)⟩
theorem myX11_number : gYV yX11_number cX11_number 4 (Option.some Jvm.ClassFile.FieldType.int) 2 := ⟨wm6_222, wm1_14, ⟨by decide, by decide, by decide +kernel⟩, wm6_221, in_p2 (q := (yX11_number, 23)) (List.mem_of_getElem? (i := 12) rfl)⟩
theorem myX11_letterHere : gYV yX11_letterHere cX11_letterHere 2 (Option.some Jvm.ClassFile.FieldType.int) 0 := ⟨wm7_9, wm1_14, ⟨by decide, by decide, by decide +kernel⟩, wm7_8, in_p3 (q := (yX11_letterHere, 23)) (List.mem_of_getElem? (i := 2) rfl)⟩
theorem myX11_takesWord : gYV yX11_takesWord cX11_takesWord 4 (Option.none : Option Jvm.ClassFile.FieldType) 2 := ⟨wm7_51, wm1_14, ⟨by decide, by decide, by decide +kernel⟩, wm7_50, in_p3 (q := (yX11_takesWord, 23)) (List.mem_of_getElem? (i := 11) rfl)⟩
theorem myX11_wordHere : gYV yX11_wordHere cX11_wordHere 2 (Option.none : Option Jvm.ClassFile.FieldType) 0 := ⟨wm7_46, wm1_14, ⟨by decide, by decide, by decide +kernel⟩, wm7_45, in_p3 (q := (yX11_wordHere, 23)) (List.mem_of_getElem? (i := 10) rfl)⟩
theorem myX11_startsText : gYV yX11_startsText cX11_startsText 1 (Option.none : Option Jvm.ClassFile.FieldType) 0 := ⟨wm6_188, wm1_14, ⟨by decide, by decide, by decide +kernel⟩, wm6_187, in_p2 (q := (yX11_startsText, 23)) (List.mem_of_getElem? (i := 5) rfl)⟩
theorem myX11_endsText : gYV yX11_endsText cX11_endsText 1 (Option.some Jvm.ClassFile.FieldType.boolean) 0 := ⟨wm7_62, wm1_14, ⟨by decide, by decide, by decide +kernel⟩, wm7_61, in_p3 (q := (yX11_endsText, 23)) (List.mem_of_getElem? (i := 13) rfl)⟩
theorem myX11_errorCode : gYV yX11_errorCode cX11_errorCode 1 (Option.some Jvm.ClassFile.FieldType.int) 0 := ⟨wm7_156, wm1_14, ⟨by decide, by decide, by decide +kernel⟩, wm7_154, wm7_155⟩
theorem myX11_errorPosition : gYV yX11_errorPosition cX11_errorPosition 1 (Option.some Jvm.ClassFile.FieldType.int) 0 := ⟨wm7_160, wm1_14, ⟨by decide, by decide, by decide +kernel⟩, wm7_158, wm7_159⟩
theorem myX11_hedgeLine : gYV yX11_hedgeLine cX11_hedgeLine 1 (Option.none : Option Jvm.ClassFile.FieldType) 0 := ⟨wm6_192, wm1_14, ⟨by decide, by decide, by decide +kernel⟩, wm6_191, in_p2 (q := (yX11_hedgeLine, 23)) (List.mem_of_getElem? (i := 6) rfl)⟩
theorem myX11_twigLine : gYV yX11_twigLine cX11_twigLine 5 (Option.none : Option Jvm.ClassFile.FieldType) 0 := ⟨wm6_237, wm1_14, ⟨by decide, by decide, by decide +kernel⟩, wm6_236, in_p2 (q := (yX11_twigLine, 23)) (List.mem_of_getElem? (i := 15) rfl)⟩
theorem myX11_nestLine : gYV yX11_nestLine cX11_nestLine 3 (Option.none : Option Jvm.ClassFile.FieldType) 0 := ⟨wm7_22, wm1_14, ⟨by decide, by decide, by decide +kernel⟩, wm7_21, in_p3 (q := (yX11_nestLine, 23)) (List.mem_of_getElem? (i := 5) rfl)⟩
theorem myX11_messageLine : gYV yX11_messageLine cX11_messageLine 3 (Option.none : Option Jvm.ClassFile.FieldType) 0 := ⟨wm7_42, wm1_14, ⟨by decide, by decide, by decide +kernel⟩, wm7_41, in_p3 (q := (yX11_messageLine, 23)) (List.mem_of_getElem? (i := 9) rfl)⟩
theorem myX11_statement : gYV yX11_statement cX11_statement 2 (Option.none : Option Jvm.ClassFile.FieldType) 0 := ⟨wm6_232, wm1_14, ⟨by decide, by decide, by decide +kernel⟩, wm6_231, in_p2 (q := (yX11_statement, 23)) (List.mem_of_getElem? (i := 14) rfl)⟩
theorem myX11_load : gYV yX11_load cX11_load 2 (Option.some Jvm.ClassFile.FieldType.int) 0 := ⟨wm6_181, wm1_14, ⟨by decide, by decide, by decide +kernel⟩, wm6_179, wm6_180⟩
theorem myX11_otherCommand : gYV yX11_otherCommand cX11_otherCommand 1 (Option.some Jvm.ClassFile.FieldType.int) 0 := ⟨wm7_180, wm1_14, ⟨by decide, by decide, by decide +kernel⟩, wm7_179, in_p4 (q := (yX11_otherCommand, 23)) (List.mem_of_getElem? (i := 2) rfl)⟩
theorem myX11_commandHere : gYV yX11_commandHere cX11_commandHere 1 (Option.some Jvm.ClassFile.FieldType.int) 0 := ⟨wm7_173, wm1_14, ⟨by decide, by decide, by decide +kernel⟩, wm7_172, in_p4 (q := (yX11_commandHere, 23)) (List.mem_of_getElem? (i := 1) rfl)⟩
theorem myX11_wordOf : gYV yX11_wordOf cX11_wordOf 3 (Option.none : Option Jvm.ClassFile.FieldType) 1 := ⟨wm7_191, wm1_14, ⟨by decide, by decide, by decide +kernel⟩, wm7_190, in_p4 (q := (yX11_wordOf, 23)) (List.mem_of_getElem? (i := 4) rfl)⟩
theorem myX11_slotParts : gYV yX11_slotParts cX11_slotParts 3 (Option.none : Option Jvm.ClassFile.FieldType) 2 := ⟨wm7_195, wm1_14, ⟨by decide, by decide, by decide +kernel⟩, wm7_194, in_p4 (q := (yX11_slotParts, 23)) (List.mem_of_getElem? (i := 5) rfl)⟩
theorem myX11_partsOf : gYV yX11_partsOf cX11_partsOf 3 (Option.none : Option Jvm.ClassFile.FieldType) 2 := ⟨wm7_187, wm1_14, ⟨by decide, by decide, by decide +kernel⟩, wm7_186, in_p4 (q := (yX11_partsOf, 23)) (List.mem_of_getElem? (i := 3) rfl)⟩
theorem myX11_readsOne : gYV yX11_readsOne cX11_readsOne 2 (Option.none : Option Jvm.ClassFile.FieldType) 0 := ⟨wm7_169, wm1_14, ⟨by decide, by decide, by decide +kernel⟩, wm7_168, in_p4 (q := (yX11_readsOne, 23)) (List.mem_of_getElem? (i := 0) rfl)⟩
theorem myX11_doesOne : gYV yX11_doesOne cX11_doesOne 5 (Option.some Jvm.ClassFile.FieldType.boolean) 1 := ⟨wm7_203, wm1_14, ⟨by decide, by decide, by decide +kernel⟩, wm7_202, in_p4 (q := (yX11_doesOne, 23)) (List.mem_of_getElem? (i := 7) rfl)⟩
theorem myX11_keeps : gYV yX11_keeps cX11_keeps 3 (Option.none : Option Jvm.ClassFile.FieldType) 1 := ⟨wm7_199, wm1_14, ⟨by decide, by decide, by decide +kernel⟩, wm7_198, in_p4 (q := (yX11_keeps, 23)) (List.mem_of_getElem? (i := 6) rfl)⟩
theorem myX11_executeCommands : gYV yX11_executeCommands cX11_executeCommands 2 (Option.some Jvm.ClassFile.FieldType.int) 0 := ⟨wm7_165, wm1_14, ⟨by decide, by decide, by decide +kernel⟩, wm7_163, wm7_164⟩
theorem myX11_slotCount : gYV yX11_slotCount cX11_slotCount 1 (Option.some Jvm.ClassFile.FieldType.int) 0 := ⟨wm8_140, wm1_14, ⟨by decide, by decide, by decide +kernel⟩, wm8_138, wm8_139⟩
theorem myX11_day : gYV yX11_day cX11_day 1 (Option.some Jvm.ClassFile.FieldType.int) 0 := ⟨wm8_144, wm1_14, ⟨by decide, by decide, by decide +kernel⟩, wm8_142, wm8_143⟩
theorem myX11_activeGardener : gYV yX11_activeGardener cX11_activeGardener 1 (Option.some Jvm.ClassFile.FieldType.int) 0 := ⟨wm8_148, wm1_14, ⟨by decide, by decide, by decide +kernel⟩, wm8_146, wm8_147⟩
theorem myX11_workLimit : gYV yX11_workLimit cX11_workLimit 1 (Option.some Jvm.ClassFile.FieldType.int) 0 := ⟨wm8_152, wm1_14, ⟨by decide, by decide, by decide +kernel⟩, wm8_150, wm8_151⟩
theorem myX11_actionsLeft : gYV yX11_actionsLeft cX11_actionsLeft 1 (Option.some Jvm.ClassFile.FieldType.int) 0 := ⟨wm8_156, wm1_14, ⟨by decide, by decide, by decide +kernel⟩, wm8_154, wm8_155⟩
theorem myX11_twigCount : gYV yX11_twigCount cX11_twigCount 1 (Option.some Jvm.ClassFile.FieldType.int) 0 := ⟨wm8_160, wm1_14, ⟨by decide, by decide, by decide +kernel⟩, wm8_158, wm8_159⟩
theorem myX11_letterAt : gYV yX11_letterAt cX11_letterAt 2 (Option.some Jvm.ClassFile.FieldType.int) 1 := ⟨wm8_164, wm1_14, ⟨by decide, by decide, by decide +kernel⟩, wm8_162, wm8_163⟩
theorem myX11_ownerAt : gYV yX11_ownerAt cX11_ownerAt 2 (Option.some Jvm.ClassFile.FieldType.int) 1 := ⟨wm8_168, wm1_14, ⟨by decide, by decide, by decide +kernel⟩, wm8_166, wm8_167⟩
theorem myX11_lengthAt : gYV yX11_lengthAt cX11_lengthAt 2 (Option.some Jvm.ClassFile.FieldType.int) 1 := ⟨wm8_172, wm1_14, ⟨by decide, by decide, by decide +kernel⟩, wm8_170, wm8_171⟩
theorem myX11_isReserved : gYV yX11_isReserved cX11_isReserved 2 (Option.some Jvm.ClassFile.FieldType.boolean) 1 := ⟨wm8_176, wm1_14, ⟨by decide, by decide, by decide +kernel⟩, wm8_174, wm8_175⟩
theorem myX11_nestDays : gYV yX11_nestDays cX11_nestDays 2 (Option.some Jvm.ClassFile.FieldType.int) 1 := ⟨wm8_180, wm1_14, ⟨by decide, by decide, by decide +kernel⟩, wm8_178, wm8_179⟩
theorem myX11_isProtected : gYV yX11_isProtected cX11_isProtected 2 (Option.some Jvm.ClassFile.FieldType.boolean) 1 := ⟨wm8_184, wm1_14, ⟨by decide, by decide, by decide +kernel⟩, wm8_182, wm8_183⟩
theorem myX11_nestCount : gYV yX11_nestCount cX11_nestCount 1 (Option.some Jvm.ClassFile.FieldType.int) 0 := ⟨wm8_188, wm1_14, ⟨by decide, by decide, by decide +kernel⟩, wm8_186, wm8_187⟩
theorem myX11_pendingCount : gYV yX11_pendingCount cX11_pendingCount 2 (Option.some Jvm.ClassFile.FieldType.int) 1 := ⟨wm8_192, wm1_14, ⟨by decide, by decide, by decide +kernel⟩, wm8_190, wm8_191⟩
theorem myX11_pendingLetter : gYV yX11_pendingLetter cX11_pendingLetter 5 (Option.some Jvm.ClassFile.FieldType.int) 3 := ⟨wm8_199, wm1_14, ⟨by decide, by decide, by decide +kernel⟩, wm8_197, wm8_198⟩
theorem myX11_lettersWritten : gYV yX11_lettersWritten cX11_lettersWritten 2 (Option.some Jvm.ClassFile.FieldType.int) 1 := ⟨wm8_203, wm1_14, ⟨by decide, by decide, by decide +kernel⟩, wm8_201, wm8_202⟩
theorem myX11_startSlot : gYV yX11_startSlot cX11_startSlot 2 (Option.some Jvm.ClassFile.FieldType.int) 1 := ⟨wm8_207, wm1_14, ⟨by decide, by decide, by decide +kernel⟩, wm8_205, wm8_206⟩
theorem myX11_postedOf : gYV yX11_postedOf cX11_postedOf 4 (Option.some Jvm.ClassFile.FieldType.int) 1 := ⟨wm8_215, wm1_14, ⟨by decide, by decide, by decide +kernel⟩, wm8_214, in_p7 (q := (yX11_postedOf, 23)) (List.mem_of_getElem? (i := 1) rfl)⟩
theorem myX11_postedCount : gYV yX11_postedCount cX11_postedCount 2 (Option.some Jvm.ClassFile.FieldType.int) 1 := ⟨wm8_211, wm1_14, ⟨by decide, by decide, by decide +kernel⟩, wm8_209, wm8_210⟩
theorem myX11_nextStartSlot : gYV yX11_nextStartSlot cX11_nextStartSlot 2 (Option.some Jvm.ClassFile.FieldType.int) 1 := ⟨wm8_219, wm1_14, ⟨by decide, by decide, by decide +kernel⟩, wm8_217, wm8_218⟩
theorem myX11_longestFreeRun : gYV yX11_longestFreeRun cX11_longestFreeRun 4 (Option.some Jvm.ClassFile.FieldType.int) 0 := ⟨wm8_223, wm1_14, ⟨by decide, by decide, by decide +kernel⟩, wm8_221, wm8_222⟩
theorem myX11_yardLetterCount : gYV yX11_yardLetterCount cX11_yardLetterCount 4 (Option.some Jvm.ClassFile.FieldType.int) 1 := ⟨wm8_227, wm1_14, ⟨by decide, by decide, by decide +kernel⟩, wm8_225, wm8_226⟩
theorem myX11_plantReason : gYV yX11_plantReason cX11_plantReason 2 (Option.some Jvm.ClassFile.FieldType.int) 1 := ⟨wm8_231, wm1_14, ⟨by decide, by decide, by decide +kernel⟩, wm8_229, wm8_230⟩
theorem myX11_removeReason : gYV yX11_removeReason cX11_removeReason 2 (Option.some Jvm.ClassFile.FieldType.int) 1 := ⟨wm8_235, wm1_14, ⟨by decide, by decide, by decide +kernel⟩, wm8_233, wm8_234⟩
theorem myX11_trimReason : gYV yX11_trimReason cX11_trimReason 2 (Option.some Jvm.ClassFile.FieldType.int) 1 := ⟨wm8_239, wm1_14, ⟨by decide, by decide, by decide +kernel⟩, wm8_237, wm8_238⟩
theorem myX11_writeReason : gYV yX11_writeReason cX11_writeReason 2 (Option.some Jvm.ClassFile.FieldType.int) 1 := ⟨wm9_3, wm1_14, ⟨by decide, by decide, by decide +kernel⟩, wm9_1, wm9_2⟩
theorem myX11_keepReason : gYV yX11_keepReason cX11_keepReason 2 (Option.some Jvm.ClassFile.FieldType.int) 1 := ⟨wm9_11, wm1_14, ⟨by decide, by decide, by decide +kernel⟩, wm9_9, wm9_10⟩
theorem myX11_daysUntilInspection : gYV yX11_daysUntilInspection cX11_daysUntilInspection 1 (Option.some Jvm.ClassFile.FieldType.int) 0 := ⟨wm9_19, wm1_14, ⟨by decide, by decide, by decide +kernel⟩, wm9_17, wm9_18⟩
theorem myX11_daysUntilPruned : gYV yX11_daysUntilPruned cX11_daysUntilPruned 3 (Option.some Jvm.ClassFile.FieldType.int) 1 := ⟨wm9_23, wm1_14, ⟨by decide, by decide, by decide +kernel⟩, wm9_21, wm9_22⟩
theorem myX11_areDays : gYS yX11_areDays cX11_areDays 1 (Option.some Jvm.ClassFile.FieldType.boolean) 1 := ⟨wm9_38, wm1_14, ⟨by decide, by decide, by decide +kernel⟩, wm9_37⟩
theorem myX11_deliveredAfter : gYV yX11_deliveredAfter cX11_deliveredAfter 4 (Option.some Jvm.ClassFile.FieldType.int) 2 := ⟨wm9_35, wm1_14, ⟨by decide, by decide, by decide +kernel⟩, wm9_33, wm9_34⟩
theorem myX11_pendingAfter : gYV yX11_pendingAfter cX11_pendingAfter 3 (Option.some Jvm.ClassFile.FieldType.int) 2 := ⟨wm9_43, wm1_14, ⟨by decide, by decide, by decide +kernel⟩, wm9_41, wm9_42⟩
theorem myX11_savedBy : gYV yX11_savedBy cX11_savedBy 4 (Option.some Jvm.ClassFile.FieldType.int) 1 := ⟨wm9_51, wm1_14, ⟨by decide, by decide, by decide +kernel⟩, wm9_50, in_p7 (q := (yX11_savedBy, 23)) (List.mem_of_getElem? (i := 6) rfl)⟩
theorem myX11_bestNestSlot : gYV yX11_bestNestSlot cX11_bestNestSlot 4 (Option.some Jvm.ClassFile.FieldType.int) 0 := ⟨wm9_47, wm1_14, ⟨by decide, by decide, by decide +kernel⟩, wm9_45, wm9_46⟩
theorem myX11_hasNothingLeft : gYV yX11_hasNothingLeft cX11_hasNothingLeft 2 (Option.some Jvm.ClassFile.FieldType.boolean) 1 := ⟨wm9_59, wm1_14, ⟨by decide, by decide, by decide +kernel⟩, wm9_58, in_p7 (q := (yX11_hasNothingLeft, 23)) (List.mem_of_getElem? (i := 7) rfl)⟩
theorem myX11_leastWorkLimit : gYV yX11_leastWorkLimit cX11_leastWorkLimit 4 (Option.some Jvm.ClassFile.FieldType.int) 2 := ⟨wm9_55, wm1_14, ⟨by decide, by decide, by decide +kernel⟩, wm9_53, wm9_54⟩
theorem myX11_counter : gYV yX11_counter cX11_counter 3 (Option.some Jvm.ClassFile.FieldType.int) 2 := ⟨wm9_67, wm1_14, ⟨by decide, by decide, by decide +kernel⟩, wm9_66, in_p7 (q := (yX11_counter, 23)) (List.mem_of_getElem? (i := 8) rfl)⟩
theorem myX11_messagesQueued : gYV yX11_messagesQueued cX11_messagesQueued 2 (Option.some Jvm.ClassFile.FieldType.int) 1 := ⟨wm9_63, wm1_14, ⟨by decide, by decide, by decide +kernel⟩, wm9_61, wm9_62⟩
theorem myX11_messagesDelivered : gYV yX11_messagesDelivered cX11_messagesDelivered 2 (Option.some Jvm.ClassFile.FieldType.int) 1 := ⟨wm9_71, wm1_14, ⟨by decide, by decide, by decide +kernel⟩, wm9_69, wm9_70⟩
theorem myX11_messagesFailed : gYV yX11_messagesFailed cX11_messagesFailed 2 (Option.some Jvm.ClassFile.FieldType.int) 1 := ⟨wm9_75, wm1_14, ⟨by decide, by decide, by decide +kernel⟩, wm9_73, wm9_74⟩
theorem myX11_messagesDropped : gYV yX11_messagesDropped cX11_messagesDropped 2 (Option.some Jvm.ClassFile.FieldType.int) 1 := ⟨wm9_79, wm1_14, ⟨by decide, by decide, by decide +kernel⟩, wm9_77, wm9_78⟩
theorem myX11_twigsPlanted : gYV yX11_twigsPlanted cX11_twigsPlanted 1 (Option.some Jvm.ClassFile.FieldType.int) 0 := ⟨wm9_83, wm1_14, ⟨by decide, by decide, by decide +kernel⟩, wm9_81, wm9_82⟩
theorem myX11_twigsPruned : gYV yX11_twigsPruned cX11_twigsPruned 1 (Option.some Jvm.ClassFile.FieldType.int) 0 := ⟨wm9_87, wm1_14, ⟨by decide, by decide, by decide +kernel⟩, wm9_85, wm9_86⟩
theorem myX11_twigsRemoved : gYV yX11_twigsRemoved cX11_twigsRemoved 1 (Option.some Jvm.ClassFile.FieldType.int) 0 := ⟨wm9_91, wm1_14, ⟨by decide, by decide, by decide +kernel⟩, wm9_89, wm9_90⟩
theorem myX11_twigImbalance : gYV yX11_twigImbalance cX11_twigImbalance 1 (Option.some Jvm.ClassFile.FieldType.int) 0 := ⟨wm9_95, wm1_14, ⟨by decide, by decide, by decide +kernel⟩, wm9_93, wm9_94⟩
theorem myX11_messageImbalance : gYV yX11_messageImbalance cX11_messageImbalance 3 (Option.some Jvm.ClassFile.FieldType.int) 0 := ⟨wm9_99, wm1_14, ⟨by decide, by decide, by decide +kernel⟩, wm9_97, wm9_98⟩
theorem myX11_wrongIn : gYV yX11_wrongIn cX11_wrongIn 7 (Option.some Jvm.ClassFile.FieldType.int) 3 := ⟨wm9_107, wm1_14, ⟨by decide, by decide, by decide +kernel⟩, wm9_106, in_p7 (q := (yX11_wrongIn, 23)) (List.mem_of_getElem? (i := 9) rfl)⟩
theorem myX11_wrongLetters : gYV yX11_wrongLetters cX11_wrongLetters 4 (Option.some Jvm.ClassFile.FieldType.int) 0 := ⟨wm9_103, wm1_14, ⟨by decide, by decide, by decide +kernel⟩, wm9_101, wm9_102⟩
theorem myX11_meanLength : gYV yX11_meanLength cX11_meanLength 3 (Option.some Jvm.ClassFile.FieldType.float) 0 := ⟨wm9_111, wm1_14, ⟨by decide, by decide, by decide +kernel⟩, wm9_109, wm9_110⟩
theorem myX11_occupancy : gYV yX11_occupancy cX11_occupancy 1 (Option.some Jvm.ClassFile.FieldType.double) 0 := ⟨wm9_115, wm1_14, ⟨by decide, by decide, by decide +kernel⟩, wm9_113, wm9_114⟩
theorem myX11_done : gYV yX11_done cX11_done 2 (Option.some Jvm.ClassFile.FieldType.int) 1 := ⟨wm9_131, wm1_14, ⟨by decide, by decide, by decide +kernel⟩, wm9_130, in_p7 (q := (yX11_done, 23)) (List.mem_of_getElem? (i := 12) rfl)⟩
theorem myX11_tried : gYV yX11_tried cX11_tried 2 (Option.some Jvm.ClassFile.FieldType.boolean) 1 := ⟨wm9_127, wm1_14, ⟨by decide, by decide, by decide +kernel⟩, wm9_126, in_p7 (q := (yX11_tried, 23)) (List.mem_of_getElem? (i := 11) rfl)⟩
theorem myX11_plant : gYV yX11_plant cX11_plant 4 (Option.some Jvm.ClassFile.FieldType.int) 2 := ⟨wm9_119, wm1_14, ⟨by decide, by decide, by decide +kernel⟩, wm9_117, wm9_118⟩
theorem myX11_remove : gYV yX11_remove cX11_remove 2 (Option.some Jvm.ClassFile.FieldType.int) 1 := ⟨wm9_135, wm1_14, ⟨by decide, by decide, by decide +kernel⟩, wm9_133, wm9_134⟩
theorem myX11_trim : gYV yX11_trim cX11_trim 4 (Option.some Jvm.ClassFile.FieldType.int) 2 := ⟨wm9_143, wm1_14, ⟨by decide, by decide, by decide +kernel⟩, wm9_141, wm9_142⟩
theorem myX11_addNest : gYV yX11_addNest cX11_addNest 3 (Option.some Jvm.ClassFile.FieldType.int) 2 := ⟨wm9_148, wm1_14, ⟨by decide, by decide, by decide +kernel⟩, wm9_146, wm9_147⟩
theorem myX11_isBufferWord : gYV yX11_isBufferWord cX11_isBufferWord 3 (Option.some Jvm.ClassFile.FieldType.boolean) 0 := ⟨wm9_157, wm1_14, ⟨by decide, by decide, by decide +kernel⟩, wm9_156, in_p7 (q := (yX11_isBufferWord, 23)) (List.mem_of_getElem? (i := 14) rfl)⟩
theorem myX11_queueMessage : gYV yX11_queueMessage cX11_queueMessage 3 (Option.some Jvm.ClassFile.FieldType.int) 1 := ⟨wm9_153, wm1_14, ⟨by decide, by decide, by decide +kernel⟩, wm9_151, wm9_152⟩
theorem myX11_cancelMessage : gYV yX11_cancelMessage cX11_cancelMessage 4 (Option.some Jvm.ClassFile.FieldType.int) 2 := ⟨wm9_161, wm1_14, ⟨by decide, by decide, by decide +kernel⟩, wm9_159, wm9_160⟩
theorem myX11_setWorkLimit : gYV yX11_setWorkLimit cX11_setWorkLimit 2 (Option.some Jvm.ClassFile.FieldType.int) 1 := ⟨wm9_165, wm1_14, ⟨by decide, by decide, by decide +kernel⟩, wm9_163, wm9_164⟩
theorem myX11_endDays : gYV yX11_endDays cX11_endDays 2 (Option.some Jvm.ClassFile.FieldType.int) 1 := ⟨wm9_169, wm1_14, ⟨by decide, by decide, by decide +kernel⟩, wm9_167, wm9_168⟩
theorem myX11_undo : gYV yX11_undo cX11_undo 1 (Option.some Jvm.ClassFile.FieldType.int) 0 := ⟨wm9_173, wm1_14, ⟨by decide, by decide, by decide +kernel⟩, wm9_171, wm9_172⟩
theorem myX11_save : gYV yX11_save cX11_save 1 (Option.some Jvm.ClassFile.FieldType.int) 0 := ⟨wm9_177, wm1_14, ⟨by decide, by decide, by decide +kernel⟩, wm9_175, wm9_176⟩
theorem myX11_restore : gYV yX11_restore cX11_restore 1 (Option.some Jvm.ClassFile.FieldType.int) 0 := ⟨wm9_181, wm1_14, ⟨by decide, by decide, by decide +kernel⟩, wm9_179, wm9_180⟩
theorem myX11_markOf : gYV yX11_markOf cX11_markOf 2 (Option.some Jvm.ClassFile.FieldType.int) 1 := ⟨wm9_189, wm1_14, ⟨by decide, by decide, by decide +kernel⟩, wm9_188, in_p7 (q := (yX11_markOf, 23)) (List.mem_of_getElem? (i := 15) rfl)⟩
theorem myX11_formatHedge : gYV yX11_formatHedge cX11_formatHedge 2 (Option.some Jvm.ClassFile.FieldType.int) 0 := ⟨wm9_185, wm1_14, ⟨by decide, by decide, by decide +kernel⟩, wm9_183, wm9_184⟩
theorem myX11_outputByte : gYV yX11_outputByte cX11_outputByte 2 (Option.some Jvm.ClassFile.FieldType.int) 1 := ⟨wm9_193, wm1_14, ⟨by decide, by decide, by decide +kernel⟩, wm9_191, wm9_192⟩
theorem myJ9_max_7cf53 : gYS yJ9_max_7cf53 cJ9_max_7cf53 2 (Option.some Jvm.ClassFile.FieldType.int) 2 := ⟨wm8_24, wm1_24, ⟨by decide, by decide, by decide +kernel⟩, wm8_23⟩
theorem myJ0_length_8abf5 : gYV yJ0_length_8abf5 cJ0_length_8abf5 1 (Option.some Jvm.ClassFile.FieldType.int) 0 := ⟨wm2_101, wm1_9, ⟨by decide, by decide, by decide +kernel⟩, wm2_99, wm2_100⟩
theorem myJ0_charAt_5068e : gYV yJ0_charAt_5068e cJ0_charAt_5068e 2 (Option.some Jvm.ClassFile.FieldType.char) 1 := ⟨wm2_111, wm1_9, ⟨by decide, by decide, by decide +kernel⟩, wm2_109, wm2_110⟩
theorem myJ0_coder_7d493 : gYV yJ0_coder_7d493 cJ0_coder_7d493 1 (Option.some Jvm.ClassFile.FieldType.byte) 0 := ⟨wm2_105, wm1_9, ⟨by decide, by decide, by decide +kernel⟩, wm2_103, wm2_104⟩
theorem myJ0_isLatin1_aae02 : gYV yJ0_isLatin1_aae02 cJ0_isLatin1_aae02 1 (Option.some Jvm.ClassFile.FieldType.boolean) 0 := ⟨wm2_115, wm1_9, ⟨by decide, by decide, by decide +kernel⟩, wm2_113, wm2_114⟩
theorem myJ0_checkIndex_df160 : gYS yJ0_checkIndex_df160 cJ0_checkIndex_df160 2 (Option.none : Option Jvm.ClassFile.FieldType) 2 := ⟨wm2_121, wm1_9, ⟨by decide, by decide, by decide +kernel⟩, wm2_120⟩
theorem myJ1_charAt_3b067 : gYS yJ1_charAt_3b067 cJ1_charAt_3b067 2 (Option.some Jvm.ClassFile.FieldType.char) 2 := ⟨wm2_118, wm1_10, ⟨by decide, by decide, by decide +kernel⟩, wm2_117⟩
theorem myJ2_getChar_3b067 : gYS yJ2_getChar_3b067 cJ2_getChar_3b067 2 (Option.some Jvm.ClassFile.FieldType.char) 2 := ⟨wm2_139, wm1_12, ⟨by decide, by decide, by decide +kernel⟩, wm2_138⟩
theorem myJ2_length_9d52b : gYS yJ2_length_9d52b cJ2_length_9d52b 1 (Option.some Jvm.ClassFile.FieldType.int) 1 := ⟨wm2_135, wm1_12, ⟨by decide, by decide, by decide +kernel⟩, wm2_134⟩
theorem myJ2_charAt_3b067 : gYS yJ2_charAt_3b067 cJ2_charAt_3b067 2 (Option.some Jvm.ClassFile.FieldType.char) 2 := ⟨wm2_129, wm1_12, ⟨by decide, by decide, by decide +kernel⟩, wm2_128⟩
theorem myJ2_checkIndex_2214a : gYS yJ2_checkIndex_2214a cJ2_checkIndex_2214a 2 (Option.none : Option Jvm.ClassFile.FieldType) 2 := ⟨wm2_132, wm1_12, ⟨by decide, by decide, by decide +kernel⟩, wm2_131⟩
theorem myJ3_checkIndex_8e157 : gYS yJ3_checkIndex_8e157 cJ3_checkIndex_8e157 3 (Option.some Jvm.ClassFile.FieldType.int) 3 := ⟨wm2_126, wm1_11, ⟨by decide, by decide, by decide +kernel⟩, wm2_125⟩
/-! ===== what the tables say of each class ===== -/
theorem inF2 : ∀ c ∈ u_ws RX2 TX2 5, c ∈ lw_tbl ∧ tkw c = true := by
  intro c hc
  obtain ⟨k, hk, rfl⟩ := List.mem_map.mp hc
  rw [List.mem_range] at hk
  match k, hk with
  | 0, _ => exact ⟨wm2_52, rfl⟩
  | 1, _ => exact ⟨wm2_54, rfl⟩
  | 2, _ => exact ⟨wm2_56, rfl⟩
  | 3, _ => exact ⟨wm2_58, rfl⟩
  | 4, _ => exact ⟨wm2_60, rfl⟩
  | k + 5, h => exact absurd h (by omega)
theorem F2 : gF 0 RX2 TX2 5 tyX2 := ⟨rfl, inF2, tyX2_ok, nmX2, by
  intro k hk
  match k, hk with
  | 0, _ => rfl
  | 1, _ => rfl
  | 2, _ => rfl
  | 3, _ => rfl
  | 4, _ => rfl
  | k + 5, h => exact absurd h (by omega)⟩
theorem inF4 : ∀ c ∈ u_ws RX4 TX4 10, c ∈ lw_tbl ∧ tkw c = true := by
  intro c hc
  obtain ⟨k, hk, rfl⟩ := List.mem_map.mp hc
  rw [List.mem_range] at hk
  match k, hk with
  | 0, _ => exact ⟨wm1_85, rfl⟩
  | 1, _ => exact ⟨wm1_87, rfl⟩
  | 2, _ => exact ⟨wm1_89, rfl⟩
  | 3, _ => exact ⟨wm1_91, rfl⟩
  | 4, _ => exact ⟨wm1_93, rfl⟩
  | 5, _ => exact ⟨wm1_95, rfl⟩
  | 6, _ => exact ⟨wm1_97, rfl⟩
  | 7, _ => exact ⟨wm1_99, rfl⟩
  | 8, _ => exact ⟨wm1_101, rfl⟩
  | 9, _ => exact ⟨wm1_103, rfl⟩
  | k + 10, h => exact absurd h (by omega)
theorem F4 : gF 1 RX4 TX4 10 tyX4 := ⟨rfl, inF4, tyX4_ok, nmX4, by
  intro k hk
  match k, hk with
  | 0, _ => rfl
  | 1, _ => rfl
  | 2, _ => rfl
  | 3, _ => rfl
  | 4, _ => rfl
  | 5, _ => rfl
  | 6, _ => rfl
  | 7, _ => rfl
  | 8, _ => rfl
  | 9, _ => rfl
  | k + 10, h => exact absurd h (by omega)⟩
theorem inF5 : ∀ c ∈ u_ws RX5 TX5 19, c ∈ lw_tbl ∧ tkw c = true := by
  intro c hc
  obtain ⟨k, hk, rfl⟩ := List.mem_map.mp hc
  rw [List.mem_range] at hk
  match k, hk with
  | 0, _ => exact ⟨wm1_167, rfl⟩
  | 1, _ => exact ⟨wm1_169, rfl⟩
  | 2, _ => exact ⟨wm1_171, rfl⟩
  | 3, _ => exact ⟨wm1_173, rfl⟩
  | 4, _ => exact ⟨wm1_175, rfl⟩
  | 5, _ => exact ⟨wm1_177, rfl⟩
  | 6, _ => exact ⟨wm1_179, rfl⟩
  | 7, _ => exact ⟨wm1_181, rfl⟩
  | 8, _ => exact ⟨wm1_183, rfl⟩
  | 9, _ => exact ⟨wm1_185, rfl⟩
  | 10, _ => exact ⟨wm1_187, rfl⟩
  | 11, _ => exact ⟨wm1_189, rfl⟩
  | 12, _ => exact ⟨wm1_191, rfl⟩
  | 13, _ => exact ⟨wm1_193, rfl⟩
  | 14, _ => exact ⟨wm1_195, rfl⟩
  | 15, _ => exact ⟨wm1_197, rfl⟩
  | 16, _ => exact ⟨wm1_199, rfl⟩
  | 17, _ => exact ⟨wm1_201, rfl⟩
  | 18, _ => exact ⟨wm1_203, rfl⟩
  | k + 19, h => exact absurd h (by omega)
theorem F5 : gF 2 RX5 TX5 19 tyX5 := ⟨rfl, inF5, tyX5_ok, nmX5, by
  intro k hk
  match k, hk with
  | 0, _ => rfl
  | 1, _ => rfl
  | 2, _ => rfl
  | 3, _ => rfl
  | 4, _ => rfl
  | 5, _ => rfl
  | 6, _ => rfl
  | 7, _ => rfl
  | 8, _ => rfl
  | 9, _ => rfl
  | 10, _ => rfl
  | 11, _ => rfl
  | 12, _ => rfl
  | 13, _ => rfl
  | 14, _ => rfl
  | 15, _ => rfl
  | 16, _ => rfl
  | 17, _ => rfl
  | 18, _ => rfl
  | k + 19, h => exact absurd h (by omega)⟩
theorem inF6 : ∀ c ∈ u_ws RX6 TX6 3, c ∈ lw_tbl ∧ tkw c = true := by
  intro c hc
  obtain ⟨k, hk, rfl⟩ := List.mem_map.mp hc
  rw [List.mem_range] at hk
  match k, hk with
  | 0, _ => exact ⟨wm1_219, rfl⟩
  | 1, _ => exact ⟨wm1_221, rfl⟩
  | 2, _ => exact ⟨wm1_223, rfl⟩
  | k + 3, h => exact absurd h (by omega)
theorem F6 : gF 3 RX6 TX6 3 tyX6 := ⟨rfl, inF6, tyX6_ok, nmX6, by
  intro k hk
  match k, hk with
  | 0, _ => rfl
  | 1, _ => rfl
  | 2, _ => rfl
  | k + 3, h => exact absurd h (by omega)⟩
theorem inF7 : ∀ c ∈ u_ws RX7 TX7 4, c ∈ lw_tbl ∧ tkw c = true := by
  intro c hc
  obtain ⟨k, hk, rfl⟩ := List.mem_map.mp hc
  rw [List.mem_range] at hk
  match k, hk with
  | 0, _ => exact ⟨wm1_123, rfl⟩
  | 1, _ => exact ⟨wm1_125, rfl⟩
  | 2, _ => exact ⟨wm1_127, rfl⟩
  | 3, _ => exact ⟨wm1_129, rfl⟩
  | k + 4, h => exact absurd h (by omega)
theorem F7 : gF 4 RX7 TX7 4 tyX7 := ⟨rfl, inF7, tyX7_ok, nmX7, by
  intro k hk
  match k, hk with
  | 0, _ => rfl
  | 1, _ => rfl
  | 2, _ => rfl
  | 3, _ => rfl
  | k + 4, h => exact absurd h (by omega)⟩
theorem inF8 : ∀ c ∈ u_ws RX8 TX8 1, c ∈ lw_tbl ∧ tkw c = true := by
  intro c hc
  obtain ⟨k, hk, rfl⟩ := List.mem_map.mp hc
  rw [List.mem_range] at hk
  match k, hk with
  | 0, _ => exact ⟨wm1_47, rfl⟩
  | k + 1, h => exact absurd h (by omega)
theorem F8 : gF 5 RX8 TX8 1 tyX8 := ⟨rfl, inF8, tyX8_ok, nmX8, by
  intro k hk
  match k, hk with
  | 0, _ => rfl
  | k + 1, h => exact absurd h (by omega)⟩
theorem inF9 : ∀ c ∈ u_ws RX9 TX9 9, c ∈ lw_tbl ∧ tkw c = true := by
  intro c hc
  obtain ⟨k, hk, rfl⟩ := List.mem_map.mp hc
  rw [List.mem_range] at hk
  match k, hk with
  | 0, _ => exact ⟨wm2_14, rfl⟩
  | 1, _ => exact ⟨wm2_16, rfl⟩
  | 2, _ => exact ⟨wm2_18, rfl⟩
  | 3, _ => exact ⟨wm2_20, rfl⟩
  | 4, _ => exact ⟨wm2_22, rfl⟩
  | 5, _ => exact ⟨wm2_24, rfl⟩
  | 6, _ => exact ⟨wm2_26, rfl⟩
  | 7, _ => exact ⟨wm2_28, rfl⟩
  | 8, _ => exact ⟨wm2_30, rfl⟩
  | k + 9, h => exact absurd h (by omega)
theorem F9 : gF 6 RX9 TX9 9 tyX9 := ⟨rfl, inF9, tyX9_ok, nmX9, by
  intro k hk
  match k, hk with
  | 0, _ => rfl
  | 1, _ => rfl
  | 2, _ => rfl
  | 3, _ => rfl
  | 4, _ => rfl
  | 5, _ => rfl
  | 6, _ => rfl
  | 7, _ => rfl
  | 8, _ => rfl
  | k + 9, h => exact absurd h (by omega)⟩
theorem inF10 : ∀ c ∈ u_ws RX10 TX10 9, c ∈ lw_tbl ∧ tkw c = true := by
  intro c hc
  obtain ⟨k, hk, rfl⟩ := List.mem_map.mp hc
  rw [List.mem_range] at hk
  match k, hk with
  | 0, _ => exact ⟨wm2_177, rfl⟩
  | 1, _ => exact ⟨wm2_179, rfl⟩
  | 2, _ => exact ⟨wm2_181, rfl⟩
  | 3, _ => exact ⟨wm2_183, rfl⟩
  | 4, _ => exact ⟨wm2_185, rfl⟩
  | 5, _ => exact ⟨wm2_187, rfl⟩
  | 6, _ => exact ⟨wm2_189, rfl⟩
  | 7, _ => exact ⟨wm2_191, rfl⟩
  | 8, _ => exact ⟨wm2_193, rfl⟩
  | k + 9, h => exact absurd h (by omega)
theorem F10 : gF 7 RX10 TX10 9 tyX10 := ⟨rfl, inF10, tyX10_ok, nmX10, by
  intro k hk
  match k, hk with
  | 0, _ => rfl
  | 1, _ => rfl
  | 2, _ => rfl
  | 3, _ => rfl
  | 4, _ => rfl
  | 5, _ => rfl
  | 6, _ => rfl
  | 7, _ => rfl
  | 8, _ => rfl
  | k + 9, h => exact absurd h (by omega)⟩
theorem inF11 : ∀ c ∈ u_ws RX11 TX11 23, c ∈ lw_tbl ∧ tkw c = true := by
  intro c hc
  obtain ⟨k, hk, rfl⟩ := List.mem_map.mp hc
  rw [List.mem_range] at hk
  match k, hk with
  | 0, _ => exact ⟨wm7_90, rfl⟩
  | 1, _ => exact ⟨wm7_92, rfl⟩
  | 2, _ => exact ⟨wm7_94, rfl⟩
  | 3, _ => exact ⟨wm7_96, rfl⟩
  | 4, _ => exact ⟨wm7_98, rfl⟩
  | 5, _ => exact ⟨wm7_100, rfl⟩
  | 6, _ => exact ⟨wm7_102, rfl⟩
  | 7, _ => exact ⟨wm7_104, rfl⟩
  | 8, _ => exact ⟨wm7_106, rfl⟩
  | 9, _ => exact ⟨wm7_108, rfl⟩
  | 10, _ => exact ⟨wm7_110, rfl⟩
  | 11, _ => exact ⟨wm7_112, rfl⟩
  | 12, _ => exact ⟨wm7_114, rfl⟩
  | 13, _ => exact ⟨wm7_116, rfl⟩
  | 14, _ => exact ⟨wm7_118, rfl⟩
  | 15, _ => exact ⟨wm7_120, rfl⟩
  | 16, _ => exact ⟨wm7_122, rfl⟩
  | 17, _ => exact ⟨wm7_124, rfl⟩
  | 18, _ => exact ⟨wm7_126, rfl⟩
  | 19, _ => exact ⟨wm7_128, rfl⟩
  | 20, _ => exact ⟨wm7_130, rfl⟩
  | 21, _ => exact ⟨wm7_132, rfl⟩
  | 22, _ => exact ⟨wm7_134, rfl⟩
  | k + 23, h => exact absurd h (by omega)
theorem F11 : gF 8 RX11 TX11 23 tyX11 := ⟨rfl, inF11, tyX11_ok, nmX11, by
  intro k hk
  match k, hk with
  | 0, _ => rfl
  | 1, _ => rfl
  | 2, _ => rfl
  | 3, _ => rfl
  | 4, _ => rfl
  | 5, _ => rfl
  | 6, _ => rfl
  | 7, _ => rfl
  | 8, _ => rfl
  | 9, _ => rfl
  | 10, _ => rfl
  | 11, _ => rfl
  | 12, _ => rfl
  | 13, _ => rfl
  | 14, _ => rfl
  | 15, _ => rfl
  | 16, _ => rfl
  | 17, _ => rfl
  | 18, _ => rfl
  | 19, _ => rfl
  | 20, _ => rfl
  | 21, _ => rfl
  | 22, _ => rfl
  | k + 23, h => exact absurd h (by omega)⟩
