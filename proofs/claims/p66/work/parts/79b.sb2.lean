/-! ===== sb2: StringBuilder, chars, numbers and texts appended ===== -/
theorem upE_upE {ct : CT} {i : ID} {e1 e2 : va_E} : upE (upE ct i e1) i e2 = upE ct i e2 := by
  funext z
  unfold upE
  split <;> rfl
theorem getD_l {T S : List Nat} {k : Nat} (h : k < T.length) : (T ++ S).getD k 0 = T.getD k 0 := by
  rw [List.getD_eq_getElem?_getD, List.getD_eq_getElem?_getD, List.getElem?_append_left h]
theorem getD_r {T S : List Nat} {k : Nat} (h : T.length ≤ k) : (T ++ S).getD k 0 = S.getD (k - T.length) 0 := by
  rw [List.getD_eq_getElem?_getD, List.getD_eq_getElem?_getD, List.getElem?_append_right h]
theorem lat_snoc {T : List Nat} {f : Nat → Int32} {c : Nat} (h : lat T f) : lat (T ++ [c]) (upd f T.length (nI c)) := by
  intro k hk
  rw [List.length_append, List.length_singleton] at hk
  by_cases h1 : k = T.length
  · subst h1
    rw [getD_r (Nat.le_refl _), Nat.sub_self]
    unfold upd
    rw [if_pos rfl]
    rfl
  · rw [getD_l (by omega)]
    unfold upd
    rw [if_neg h1]
    exact h k (by omega)
/-- the digits of a number under 100 -/
def digs (v : Nat) : List Nat := if v < 10 then [48 + v] else [48 + v / 10, 48 + v % 10]
theorem digs_len {v : Nat} : (digs v).length = if v < 10 then 1 else 2 := by
  unfold digs
  split <;> rfl
def dgW (f : Nat → Int32) (q v : Nat) : Nat → Int32 := if v < 10 then upd f (q - 1) (nI (48 + v)) else upd (upd f (q - 1) (nI (48 + v % 10))) (q - 2) (nI (48 + v / 10))
theorem lat_digs {T : List Nat} {f : Nat → Int32} {v : Nat} (h : lat T f) : lat (T ++ digs v) (dgW f (T.length + (digs v).length) v) := by
  intro k hk
  rw [List.length_append, digs_len] at hk
  unfold dgW
  rw [digs_len]
  by_cases hv : v < 10
  · rw [if_pos hv] at hk ⊢
    by_cases h1 : k = T.length
    · subst h1
      rw [getD_r (Nat.le_refl _), Nat.sub_self]
      unfold upd digs
      rw [if_pos hv, if_pos hv, if_pos (by omega)]
      rfl
    · rw [getD_l (by omega)]
      rw [if_pos hv]
      unfold upd
      rw [if_neg (by omega)]
      exact h k (by omega)
  · rw [if_neg hv] at hk ⊢
    rw [if_neg hv]
    by_cases h1 : k = T.length
    · subst h1
      rw [getD_r (Nat.le_refl _), Nat.sub_self]
      unfold upd digs
      rw [if_neg hv, if_pos (by omega)]
      rfl
    · by_cases h2 : k = T.length + 1
      · subst h2
        rw [getD_r (by omega), show T.length + 1 - T.length = 1 by omega]
        unfold upd digs
        rw [if_neg hv, if_neg (by omega), if_pos (by omega)]
        rfl
      · rw [getD_l (by omega)]
        unfold upd
        rw [if_neg (by omega), if_neg (by omega)]
        exact h k (by omega)
theorem fB_dgW {f : Nat → Int32} (hf : fB f) (q v : Nat) (hv : v < 100) : fB (dgW f q v) := by
  unfold dgW
  split
  · exact fB_upd hf _ (by omega)
  · exact fB_upd (fB_upd hf _ (by omega)) _ (by omega)
theorem dg_le : ∀ v : Fin 100, ((-(nI v.1) ≤ (-10 : Int32)) ↔ 10 ≤ v.1) ∧ ((-100 : Int32) < -(nI v.1)) ∧ (((-9 : Int32) ≤ -(nI v.1)) ↔ v.1 < 10) ∧ -(-(nI v.1)) = nI v.1 ∧ ¬ nI v.1 < 0 ∧ ¬ (-(nI v.1) ≤ (10 : Int32) * (-10)) ∧ (0 : Int32) ≤ nI v.1 := by decide +kernel
theorem nI_m1 {q : Nat} (h : 0 < q) : nI q + Int32.ofInt (-1) = nI (q - 1) := by
  have e1 := nI_pred (q - 1)
  rw [show q - 1 + 1 = q by omega] at e1
  rw [← e1]
  rw [Int32.sub_eq_add_neg]
  rfl
theorem r_geUA {w : WP} {X : CX} {cc : ByteArray} {own : String} {ret : Option FieldType} {d nL : Nat} {Q : QT} {ct : CT} {pc : Nat} {lo : List (Nat × Value)} {st : List Value} (C : gC w X cc own ret d nL) {y : MethodName} {ccy : ByteArray} {nLy ny idx d' mc ms : Nat} {rety : Option FieldType} {Post : PT} (As : List Value) (i : ID) (hi : wOk w i) {a : Nat} (ha : wAd w i = a) {ci : Nat} {q : vw_C} {fs : List Value} (hct : ct i = .inr (ci, fs)) (hci : vwCl[ci]? = some q) (hM : gMe w d' y ccy nLy rety (.ref a :: As) ct Post mc ms) (Y : gYU own y ccy nLy rety ny) (hsw : tkw (Cond.sameMethod y.cls y.cls y.name y.desc) = true) (hsu : tkw (Cond.superclass own y.cls) = true) (hli : Cond.methodLink own idx y ∈ lw_tbl) (hn : As.length = ny) (hdd : d' + 1 ≤ d) (hnl : nLy ≤ 21) (hst : (st.map fun v => v.category).sum ≤ 8) {stk : List Value} (hstk : stk = As.reverse ++ .ref a :: st) (hd : decode cc pc = .ok (.invokespecial idx, 3)) (hq : qOk X (Q.1, Q.2.1 + mc, Q.2.2 + ms))
    (k : ∀ I ad v ct', Post I ad v ct' → gAg w I ad → gBh X I ad → gC (wM w I ad) X cc own ret d nL → gU (wM w I ad) X (Q.1, Q.2.1 + mc, Q.2.2 + ms) ct' (pc + 3) lo (v.toList ++ st)) : gU w X Q ct pc lo stk := by
  subst ha
  exact r_geU C As i hi hct hci hM Y hsw hsu hli hn hdd hnl hst hstk hd hq k
/-- the same end, in another world's words -/
theorem sbPost_M {w : WP} {ct ct1 ct9 : CT} {iB iV iW : ID} {T' : List Nat} {rv : Option Value} {I : ID → Prop} {ad : ID → Nat} (hI : ∀ z, I z → z = iW) (hf : ∀ z, z ≠ iB → z ≠ iV → z ≠ iW → ct1 z = ct z) {iC : ID} {L : Nat} (hC : iC = iV ∨ iC = iW) (h : sbIn (wM w I ad) ct9 iB iC T' L) (h9 : ∀ z, z ≠ iB → z ≠ iC → ct9 z = ct1 z) : sbPost w ct iB iV iW T' rv I ad rv ct9 :=
  ⟨rfl, hI, iC, L, hC, h, fun z h1 h2 h3 => (h9 z h1 (fun e => by subst e; exact hC.elim h2 h3)).trans (hf z h1 h2 h3)⟩
theorem wx7_26 : Cond.sameMethod "java/lang/AbstractStringBuilder" "java/lang/AbstractStringBuilder" "append" "(I)Ljava/lang/AbstractStringBuilder;" ∈ lw_tbl := in_t7 (List.mem_of_getElem? (i := 26) rfl)
theorem wx7_27 : Cond.sameMethod "java/lang/AbstractStringBuilder" "java/lang/AbstractStringBuilder" "append" "(Ljava/lang/String;)Ljava/lang/AbstractStringBuilder;" ∈ lw_tbl := in_t7 (List.mem_of_getElem? (i := 27) rfl)
theorem dJ6_stringSize_0f7a4_0 : decode cJ6_stringSize_0f7a4 0 = .ok (.iconst 1, 1) := by decide +kernel
theorem dJ6_stringSize_0f7a4_1 : decode cJ6_stringSize_0f7a4 1 = .ok (.istore_n 1, 1) := by decide +kernel
theorem dJ6_stringSize_0f7a4_2 : decode cJ6_stringSize_0f7a4 2 = .ok (.iload_n 0, 1) := by decide +kernel
theorem dJ6_stringSize_0f7a4_3 : decode cJ6_stringSize_0f7a4 3 = .ok (.ifCond .lt 8, 3) := by decide +kernel
theorem dJ6_stringSize_0f7a4_6 : decode cJ6_stringSize_0f7a4 6 = .ok (.iconst 0, 1) := by decide +kernel
theorem dJ6_stringSize_0f7a4_7 : decode cJ6_stringSize_0f7a4 7 = .ok (.istore_n 1, 1) := by decide +kernel
theorem dJ6_stringSize_0f7a4_8 : decode cJ6_stringSize_0f7a4 8 = .ok (.iload_n 0, 1) := by decide +kernel
theorem dJ6_stringSize_0f7a4_9 : decode cJ6_stringSize_0f7a4 9 = .ok (.ineg, 1) := by decide +kernel
theorem dJ6_stringSize_0f7a4_10 : decode cJ6_stringSize_0f7a4 10 = .ok (.istore_n 0, 1) := by decide +kernel
theorem dJ6_stringSize_0f7a4_11 : decode cJ6_stringSize_0f7a4 11 = .ok (.bipush (-10), 2) := by decide +kernel
theorem dJ6_stringSize_0f7a4_13 : decode cJ6_stringSize_0f7a4 13 = .ok (.istore_n 2, 1) := by decide +kernel
theorem dJ6_stringSize_0f7a4_14 : decode cJ6_stringSize_0f7a4 14 = .ok (.iconst 1, 1) := by decide +kernel
theorem dJ6_stringSize_0f7a4_15 : decode cJ6_stringSize_0f7a4 15 = .ok (.istore_n 3, 1) := by decide +kernel
theorem dJ6_stringSize_0f7a4_16 : decode cJ6_stringSize_0f7a4 16 = .ok (.iload_n 3, 1) := by decide +kernel
theorem dJ6_stringSize_0f7a4_17 : decode cJ6_stringSize_0f7a4 17 = .ok (.bipush 10, 2) := by decide +kernel
theorem dJ6_stringSize_0f7a4_19 : decode cJ6_stringSize_0f7a4 19 = .ok (.if_icmp .ge 23, 3) := by decide +kernel
theorem dJ6_stringSize_0f7a4_22 : decode cJ6_stringSize_0f7a4 22 = .ok (.iload_n 0, 1) := by decide +kernel
theorem dJ6_stringSize_0f7a4_23 : decode cJ6_stringSize_0f7a4 23 = .ok (.iload_n 2, 1) := by decide +kernel
theorem dJ6_stringSize_0f7a4_24 : decode cJ6_stringSize_0f7a4 24 = .ok (.if_icmp .le 7, 3) := by decide +kernel
theorem dJ6_stringSize_0f7a4_27 : decode cJ6_stringSize_0f7a4 27 = .ok (.iload_n 3, 1) := by decide +kernel
theorem dJ6_stringSize_0f7a4_28 : decode cJ6_stringSize_0f7a4 28 = .ok (.iload_n 1, 1) := by decide +kernel
theorem dJ6_stringSize_0f7a4_29 : decode cJ6_stringSize_0f7a4 29 = .ok (.iadd, 1) := by decide +kernel
theorem dJ6_stringSize_0f7a4_30 : decode cJ6_stringSize_0f7a4 30 = .ok (.ireturn, 1) := by decide +kernel
theorem dJ6_stringSize_0f7a4_31 : decode cJ6_stringSize_0f7a4 31 = .ok (.bipush 10, 2) := by decide +kernel
theorem dJ6_stringSize_0f7a4_33 : decode cJ6_stringSize_0f7a4 33 = .ok (.iload_n 2, 1) := by decide +kernel
theorem dJ6_stringSize_0f7a4_34 : decode cJ6_stringSize_0f7a4 34 = .ok (.imul, 1) := by decide +kernel
theorem dJ6_stringSize_0f7a4_35 : decode cJ6_stringSize_0f7a4 35 = .ok (.istore_n 2, 1) := by decide +kernel
theorem dJ6_stringSize_0f7a4_36 : decode cJ6_stringSize_0f7a4 36 = .ok (.iinc 3 1, 3) := by decide +kernel
theorem dJ6_stringSize_0f7a4_39 : decode cJ6_stringSize_0f7a4 39 = .ok (.goto (-23), 3) := by decide +kernel
theorem dJ6_stringSize_0f7a4_42 : decode cJ6_stringSize_0f7a4 42 = .ok (.bipush 10, 2) := by decide +kernel
theorem dJ6_stringSize_0f7a4_44 : decode cJ6_stringSize_0f7a4 44 = .ok (.iload_n 1, 1) := by decide +kernel
theorem dJ6_stringSize_0f7a4_45 : decode cJ6_stringSize_0f7a4 45 = .ok (.iadd, 1) := by decide +kernel
theorem dJ6_stringSize_0f7a4_46 : decode cJ6_stringSize_0f7a4 46 = .ok (.ireturn, 1) := by decide +kernel
theorem dJ6_getChars_ba4f3_0 : decode cJ6_getChars_ba4f3 0 = .ok (.iload_n 1, 1) := by decide +kernel
theorem dJ6_getChars_ba4f3_1 : decode cJ6_getChars_ba4f3 1 = .ok (.istore 5, 2) := by decide +kernel
theorem dJ6_getChars_ba4f3_3 : decode cJ6_getChars_ba4f3 3 = .ok (.iload_n 0, 1) := by decide +kernel
theorem dJ6_getChars_ba4f3_4 : decode cJ6_getChars_ba4f3 4 = .ok (.ifCond .ge 7, 3) := by decide +kernel
theorem dJ6_getChars_ba4f3_7 : decode cJ6_getChars_ba4f3 7 = .ok (.iconst 1, 1) := by decide +kernel
theorem dJ6_getChars_ba4f3_8 : decode cJ6_getChars_ba4f3 8 = .ok (.goto 4, 3) := by decide +kernel
theorem dJ6_getChars_ba4f3_11 : decode cJ6_getChars_ba4f3 11 = .ok (.iconst 0, 1) := by decide +kernel
theorem dJ6_getChars_ba4f3_12 : decode cJ6_getChars_ba4f3 12 = .ok (.istore 6, 2) := by decide +kernel
theorem dJ6_getChars_ba4f3_14 : decode cJ6_getChars_ba4f3 14 = .ok (.iload 6, 2) := by decide +kernel
theorem dJ6_getChars_ba4f3_16 : decode cJ6_getChars_ba4f3 16 = .ok (.ifCond .ne 6, 3) := by decide +kernel
theorem dJ6_getChars_ba4f3_19 : decode cJ6_getChars_ba4f3 19 = .ok (.iload_n 0, 1) := by decide +kernel
theorem dJ6_getChars_ba4f3_20 : decode cJ6_getChars_ba4f3 20 = .ok (.ineg, 1) := by decide +kernel
theorem dJ6_getChars_ba4f3_21 : decode cJ6_getChars_ba4f3 21 = .ok (.istore_n 0, 1) := by decide +kernel
theorem dJ6_getChars_ba4f3_22 : decode cJ6_getChars_ba4f3 22 = .ok (.iload_n 0, 1) := by decide +kernel
theorem dJ6_getChars_ba4f3_23 : decode cJ6_getChars_ba4f3 23 = .ok (.bipush (-100), 2) := by decide +kernel
theorem dJ6_getChars_ba4f3_25 : decode cJ6_getChars_ba4f3 25 = .ok (.if_icmp .gt 47, 3) := by decide +kernel
theorem dJ6_getChars_ba4f3_28 : decode cJ6_getChars_ba4f3 28 = .ok (.iload_n 0, 1) := by decide +kernel
theorem dJ6_getChars_ba4f3_29 : decode cJ6_getChars_ba4f3 29 = .ok (.bipush 100, 2) := by decide +kernel
theorem dJ6_getChars_ba4f3_31 : decode cJ6_getChars_ba4f3 31 = .ok (.idiv, 1) := by decide +kernel
theorem dJ6_getChars_ba4f3_32 : decode cJ6_getChars_ba4f3 32 = .ok (.istore_n 3, 1) := by decide +kernel
theorem dJ6_getChars_ba4f3_33 : decode cJ6_getChars_ba4f3 33 = .ok (.iload_n 3, 1) := by decide +kernel
theorem dJ6_getChars_ba4f3_34 : decode cJ6_getChars_ba4f3 34 = .ok (.bipush 100, 2) := by decide +kernel
theorem dJ6_getChars_ba4f3_36 : decode cJ6_getChars_ba4f3 36 = .ok (.imul, 1) := by decide +kernel
theorem dJ6_getChars_ba4f3_37 : decode cJ6_getChars_ba4f3 37 = .ok (.iload_n 0, 1) := by decide +kernel
theorem dJ6_getChars_ba4f3_38 : decode cJ6_getChars_ba4f3 38 = .ok (.isub, 1) := by decide +kernel
theorem dJ6_getChars_ba4f3_39 : decode cJ6_getChars_ba4f3 39 = .ok (.istore 4, 2) := by decide +kernel
theorem dJ6_getChars_ba4f3_41 : decode cJ6_getChars_ba4f3 41 = .ok (.iload_n 3, 1) := by decide +kernel
theorem dJ6_getChars_ba4f3_42 : decode cJ6_getChars_ba4f3 42 = .ok (.istore_n 0, 1) := by decide +kernel
theorem dJ6_getChars_ba4f3_43 : decode cJ6_getChars_ba4f3 43 = .ok (.aload_n 2, 1) := by decide +kernel
theorem dJ6_getChars_ba4f3_44 : decode cJ6_getChars_ba4f3 44 = .ok (.iinc 5 (-1), 3) := by decide +kernel
theorem dJ6_getChars_ba4f3_47 : decode cJ6_getChars_ba4f3 47 = .ok (.iload 5, 2) := by decide +kernel
theorem dJ6_getChars_ba4f3_49 : decode cJ6_getChars_ba4f3 49 = .ok (.getstatic 83, 3) := by decide +kernel
theorem dJ6_getChars_ba4f3_52 : decode cJ6_getChars_ba4f3 52 = .ok (.iload 4, 2) := by decide +kernel
theorem dJ6_getChars_ba4f3_54 : decode cJ6_getChars_ba4f3 54 = .ok (.baload, 1) := by decide +kernel
theorem dJ6_getChars_ba4f3_55 : decode cJ6_getChars_ba4f3 55 = .ok (.bastore, 1) := by decide +kernel
theorem dJ6_getChars_ba4f3_56 : decode cJ6_getChars_ba4f3 56 = .ok (.aload_n 2, 1) := by decide +kernel
theorem dJ6_getChars_ba4f3_57 : decode cJ6_getChars_ba4f3 57 = .ok (.iinc 5 (-1), 3) := by decide +kernel
theorem dJ6_getChars_ba4f3_60 : decode cJ6_getChars_ba4f3 60 = .ok (.iload 5, 2) := by decide +kernel
theorem dJ6_getChars_ba4f3_62 : decode cJ6_getChars_ba4f3 62 = .ok (.getstatic 87, 3) := by decide +kernel
theorem dJ6_getChars_ba4f3_65 : decode cJ6_getChars_ba4f3 65 = .ok (.iload 4, 2) := by decide +kernel
theorem dJ6_getChars_ba4f3_67 : decode cJ6_getChars_ba4f3 67 = .ok (.baload, 1) := by decide +kernel
theorem dJ6_getChars_ba4f3_68 : decode cJ6_getChars_ba4f3 68 = .ok (.bastore, 1) := by decide +kernel
theorem dJ6_getChars_ba4f3_69 : decode cJ6_getChars_ba4f3 69 = .ok (.goto (-47), 3) := by decide +kernel
theorem dJ6_getChars_ba4f3_72 : decode cJ6_getChars_ba4f3 72 = .ok (.aload_n 2, 1) := by decide +kernel
theorem dJ6_getChars_ba4f3_73 : decode cJ6_getChars_ba4f3 73 = .ok (.iinc 5 (-1), 3) := by decide +kernel
theorem dJ6_getChars_ba4f3_76 : decode cJ6_getChars_ba4f3 76 = .ok (.iload 5, 2) := by decide +kernel
theorem dJ6_getChars_ba4f3_78 : decode cJ6_getChars_ba4f3 78 = .ok (.getstatic 83, 3) := by decide +kernel
theorem dJ6_getChars_ba4f3_81 : decode cJ6_getChars_ba4f3 81 = .ok (.iload_n 0, 1) := by decide +kernel
theorem dJ6_getChars_ba4f3_82 : decode cJ6_getChars_ba4f3 82 = .ok (.ineg, 1) := by decide +kernel
theorem dJ6_getChars_ba4f3_83 : decode cJ6_getChars_ba4f3 83 = .ok (.baload, 1) := by decide +kernel
theorem dJ6_getChars_ba4f3_84 : decode cJ6_getChars_ba4f3 84 = .ok (.bastore, 1) := by decide +kernel
theorem dJ6_getChars_ba4f3_85 : decode cJ6_getChars_ba4f3 85 = .ok (.iload_n 0, 1) := by decide +kernel
theorem dJ6_getChars_ba4f3_86 : decode cJ6_getChars_ba4f3 86 = .ok (.bipush (-9), 2) := by decide +kernel
theorem dJ6_getChars_ba4f3_88 : decode cJ6_getChars_ba4f3 88 = .ok (.if_icmp .ge 16, 3) := by decide +kernel
theorem dJ6_getChars_ba4f3_91 : decode cJ6_getChars_ba4f3 91 = .ok (.aload_n 2, 1) := by decide +kernel
theorem dJ6_getChars_ba4f3_92 : decode cJ6_getChars_ba4f3 92 = .ok (.iinc 5 (-1), 3) := by decide +kernel
theorem dJ6_getChars_ba4f3_95 : decode cJ6_getChars_ba4f3 95 = .ok (.iload 5, 2) := by decide +kernel
theorem dJ6_getChars_ba4f3_97 : decode cJ6_getChars_ba4f3 97 = .ok (.getstatic 87, 3) := by decide +kernel
theorem dJ6_getChars_ba4f3_100 : decode cJ6_getChars_ba4f3 100 = .ok (.iload_n 0, 1) := by decide +kernel
theorem dJ6_getChars_ba4f3_101 : decode cJ6_getChars_ba4f3 101 = .ok (.ineg, 1) := by decide +kernel
theorem dJ6_getChars_ba4f3_102 : decode cJ6_getChars_ba4f3 102 = .ok (.baload, 1) := by decide +kernel
theorem dJ6_getChars_ba4f3_103 : decode cJ6_getChars_ba4f3 103 = .ok (.bastore, 1) := by decide +kernel
theorem dJ6_getChars_ba4f3_104 : decode cJ6_getChars_ba4f3 104 = .ok (.iload 6, 2) := by decide +kernel
theorem dJ6_getChars_ba4f3_106 : decode cJ6_getChars_ba4f3 106 = .ok (.ifCond .eq 12, 3) := by decide +kernel
theorem dJ6_getChars_ba4f3_109 : decode cJ6_getChars_ba4f3 109 = .ok (.aload_n 2, 1) := by decide +kernel
theorem dJ6_getChars_ba4f3_110 : decode cJ6_getChars_ba4f3 110 = .ok (.iinc 5 (-1), 3) := by decide +kernel
theorem dJ6_getChars_ba4f3_113 : decode cJ6_getChars_ba4f3 113 = .ok (.iload 5, 2) := by decide +kernel
theorem dJ6_getChars_ba4f3_115 : decode cJ6_getChars_ba4f3 115 = .ok (.bipush 45, 2) := by decide +kernel
theorem dJ6_getChars_ba4f3_117 : decode cJ6_getChars_ba4f3 117 = .ok (.bastore, 1) := by decide +kernel
theorem dJ6_getChars_ba4f3_118 : decode cJ6_getChars_ba4f3 118 = .ok (.iload 5, 2) := by decide +kernel
theorem dJ6_getChars_ba4f3_120 : decode cJ6_getChars_ba4f3 120 = .ok (.ireturn, 1) := by decide +kernel
theorem dJ5_append_c97b9_0 : decode cJ5_append_c97b9 0 = .ok (.aload_n 0, 1) := by decide +kernel
theorem dJ5_append_c97b9_1 : decode cJ5_append_c97b9 1 = .ok (.getfield 79, 3) := by decide +kernel
theorem dJ5_append_c97b9_4 : decode cJ5_append_c97b9 4 = .ok (.istore_n 2, 1) := by decide +kernel
theorem dJ5_append_c97b9_5 : decode cJ5_append_c97b9 5 = .ok (.iload_n 2, 1) := by decide +kernel
theorem dJ5_append_c97b9_6 : decode cJ5_append_c97b9 6 = .ok (.iload_n 1, 1) := by decide +kernel
theorem dJ5_append_c97b9_7 : decode cJ5_append_c97b9 7 = .ok (.invokestatic 245, 3) := by decide +kernel
theorem dJ5_append_c97b9_10 : decode cJ5_append_c97b9 10 = .ok (.iadd, 1) := by decide +kernel
theorem dJ5_append_c97b9_11 : decode cJ5_append_c97b9 11 = .ok (.istore_n 3, 1) := by decide +kernel
theorem dJ5_append_c97b9_12 : decode cJ5_append_c97b9 12 = .ok (.aload_n 0, 1) := by decide +kernel
theorem dJ5_append_c97b9_13 : decode cJ5_append_c97b9 13 = .ok (.iload_n 3, 1) := by decide +kernel
theorem dJ5_append_c97b9_14 : decode cJ5_append_c97b9 14 = .ok (.invokevirtual 100, 3) := by decide +kernel
theorem dJ5_append_c97b9_17 : decode cJ5_append_c97b9 17 = .ok (.aload_n 0, 1) := by decide +kernel
theorem dJ5_append_c97b9_18 : decode cJ5_append_c97b9 18 = .ok (.invokevirtual 83, 3) := by decide +kernel
theorem dJ5_append_c97b9_21 : decode cJ5_append_c97b9 21 = .ok (.ifCond .eq 16, 3) := by decide +kernel
theorem dJ5_append_c97b9_24 : decode cJ5_append_c97b9 24 = .ok (.iload_n 1, 1) := by decide +kernel
theorem dJ5_append_c97b9_25 : decode cJ5_append_c97b9 25 = .ok (.iload_n 3, 1) := by decide +kernel
theorem dJ5_append_c97b9_26 : decode cJ5_append_c97b9 26 = .ok (.aload_n 0, 1) := by decide +kernel
theorem dJ5_append_c97b9_27 : decode cJ5_append_c97b9 27 = .ok (.getfield 15, 3) := by decide +kernel
theorem dJ5_append_c97b9_30 : decode cJ5_append_c97b9 30 = .ok (.invokestatic 248, 3) := by decide +kernel
theorem dJ5_append_c97b9_33 : decode cJ5_append_c97b9 33 = .ok (.pop, 1) := by decide +kernel
theorem dJ5_append_c97b9_34 : decode cJ5_append_c97b9 34 = .ok (.goto 14, 3) := by decide +kernel
theorem dJ5_append_c97b9_37 : decode cJ5_append_c97b9 37 = .ok (.iload_n 1, 1) := by decide +kernel
theorem dJ5_append_c97b9_38 : decode cJ5_append_c97b9 38 = .ok (.iload_n 2, 1) := by decide +kernel
theorem dJ5_append_c97b9_39 : decode cJ5_append_c97b9 39 = .ok (.iload_n 3, 1) := by decide +kernel
theorem dJ5_append_c97b9_40 : decode cJ5_append_c97b9 40 = .ok (.aload_n 0, 1) := by decide +kernel
theorem dJ5_append_c97b9_41 : decode cJ5_append_c97b9 41 = .ok (.getfield 15, 3) := by decide +kernel
theorem dJ5_append_c97b9_44 : decode cJ5_append_c97b9 44 = .ok (.invokestatic 251, 3) := by decide +kernel
theorem dJ5_append_c97b9_47 : decode cJ5_append_c97b9 47 = .ok (.pop, 1) := by decide +kernel
theorem dJ5_append_c97b9_48 : decode cJ5_append_c97b9 48 = .ok (.aload_n 0, 1) := by decide +kernel
theorem dJ5_append_c97b9_49 : decode cJ5_append_c97b9 49 = .ok (.iload_n 3, 1) := by decide +kernel
theorem dJ5_append_c97b9_50 : decode cJ5_append_c97b9 50 = .ok (.putfield 79, 3) := by decide +kernel
theorem dJ5_append_c97b9_53 : decode cJ5_append_c97b9 53 = .ok (.aload_n 0, 1) := by decide +kernel
theorem dJ5_append_c97b9_54 : decode cJ5_append_c97b9 54 = .ok (.areturn, 1) := by decide +kernel
theorem dJ4_append_bf812_0 : decode cJ4_append_bf812 0 = .ok (.aload_n 0, 1) := by decide +kernel
theorem dJ4_append_bf812_1 : decode cJ4_append_bf812 1 = .ok (.iload_n 1, 1) := by decide +kernel
theorem dJ4_append_bf812_2 : decode cJ4_append_bf812 2 = .ok (.invokespecial 53, 3) := by decide +kernel
theorem dJ4_append_bf812_5 : decode cJ4_append_bf812 5 = .ok (.pop, 1) := by decide +kernel
theorem dJ4_append_bf812_6 : decode cJ4_append_bf812 6 = .ok (.aload_n 0, 1) := by decide +kernel
theorem dJ4_append_bf812_7 : decode cJ4_append_bf812 7 = .ok (.areturn, 1) := by decide +kernel
theorem dJ0_getBytes_840e7_0 : decode cJ0_getBytes_840e7 0 = .ok (.aload_n 0, 1) := by decide +kernel
theorem dJ0_getBytes_840e7_1 : decode cJ0_getBytes_840e7 1 = .ok (.invokevirtual 335, 3) := by decide +kernel
theorem dJ0_getBytes_840e7_4 : decode cJ0_getBytes_840e7 4 = .ok (.iload_n 3, 1) := by decide +kernel
theorem dJ0_getBytes_840e7_5 : decode cJ0_getBytes_840e7 5 = .ok (.if_icmp .ne 23, 3) := by decide +kernel
theorem dJ0_getBytes_840e7_8 : decode cJ0_getBytes_840e7 8 = .ok (.aload_n 0, 1) := by decide +kernel
theorem dJ0_getBytes_840e7_9 : decode cJ0_getBytes_840e7 9 = .ok (.getfield 9, 3) := by decide +kernel
theorem dJ0_getBytes_840e7_12 : decode cJ0_getBytes_840e7 12 = .ok (.iconst 0, 1) := by decide +kernel
theorem dJ0_getBytes_840e7_13 : decode cJ0_getBytes_840e7 13 = .ok (.aload_n 1, 1) := by decide +kernel
theorem dJ0_getBytes_840e7_14 : decode cJ0_getBytes_840e7 14 = .ok (.iload_n 2, 1) := by decide +kernel
theorem dJ0_getBytes_840e7_15 : decode cJ0_getBytes_840e7 15 = .ok (.iload_n 3, 1) := by decide +kernel
theorem dJ0_getBytes_840e7_16 : decode cJ0_getBytes_840e7 16 = .ok (.ishl, 1) := by decide +kernel
theorem dJ0_getBytes_840e7_17 : decode cJ0_getBytes_840e7 17 = .ok (.aload_n 0, 1) := by decide +kernel
theorem dJ0_getBytes_840e7_18 : decode cJ0_getBytes_840e7 18 = .ok (.getfield 9, 3) := by decide +kernel
theorem dJ0_getBytes_840e7_21 : decode cJ0_getBytes_840e7 21 = .ok (.arraylength, 1) := by decide +kernel
theorem dJ0_getBytes_840e7_22 : decode cJ0_getBytes_840e7 22 = .ok (.invokestatic 212, 3) := by decide +kernel
theorem dJ0_getBytes_840e7_25 : decode cJ0_getBytes_840e7 25 = .ok (.goto 18, 3) := by decide +kernel
theorem dJ0_getBytes_840e7_28 : decode cJ0_getBytes_840e7 28 = .ok (.aload_n 0, 1) := by decide +kernel
theorem dJ0_getBytes_840e7_29 : decode cJ0_getBytes_840e7 29 = .ok (.getfield 9, 3) := by decide +kernel
theorem dJ0_getBytes_840e7_32 : decode cJ0_getBytes_840e7 32 = .ok (.iconst 0, 1) := by decide +kernel
theorem dJ0_getBytes_840e7_33 : decode cJ0_getBytes_840e7 33 = .ok (.aload_n 1, 1) := by decide +kernel
theorem dJ0_getBytes_840e7_34 : decode cJ0_getBytes_840e7 34 = .ok (.iload_n 2, 1) := by decide +kernel
theorem dJ0_getBytes_840e7_35 : decode cJ0_getBytes_840e7 35 = .ok (.aload_n 0, 1) := by decide +kernel
theorem dJ0_getBytes_840e7_36 : decode cJ0_getBytes_840e7 36 = .ok (.getfield 9, 3) := by decide +kernel
theorem dJ0_getBytes_840e7_39 : decode cJ0_getBytes_840e7 39 = .ok (.arraylength, 1) := by decide +kernel
theorem dJ0_getBytes_840e7_40 : decode cJ0_getBytes_840e7 40 = .ok (.invokestatic 106, 3) := by decide +kernel
theorem dJ0_getBytes_840e7_43 : decode cJ0_getBytes_840e7 43 = .ok (.return_, 1) := by decide +kernel
theorem dJ5_inflateIfNeededFor_a7421_0 : decode cJ5_inflateIfNeededFor_a7421 0 = .ok (.getstatic 18, 3) := by decide +kernel
theorem dJ5_inflateIfNeededFor_a7421_3 : decode cJ5_inflateIfNeededFor_a7421 3 = .ok (.ifCond .eq 18, 3) := by decide +kernel
theorem dJ5_inflateIfNeededFor_a7421_6 : decode cJ5_inflateIfNeededFor_a7421 6 = .ok (.aload_n 0, 1) := by decide +kernel
theorem dJ5_inflateIfNeededFor_a7421_7 : decode cJ5_inflateIfNeededFor_a7421 7 = .ok (.getfield 22, 3) := by decide +kernel
theorem dJ5_inflateIfNeededFor_a7421_10 : decode cJ5_inflateIfNeededFor_a7421 10 = .ok (.aload_n 1, 1) := by decide +kernel
theorem dJ5_inflateIfNeededFor_a7421_11 : decode cJ5_inflateIfNeededFor_a7421 11 = .ok (.invokevirtual 40, 3) := by decide +kernel
theorem dJ5_inflateIfNeededFor_a7421_14 : decode cJ5_inflateIfNeededFor_a7421 14 = .ok (.if_icmp .eq 7, 3) := by decide +kernel
theorem dJ5_inflateIfNeededFor_a7421_17 : decode cJ5_inflateIfNeededFor_a7421 17 = .ok (.aload_n 0, 1) := by decide +kernel
theorem dJ5_inflateIfNeededFor_a7421_18 : decode cJ5_inflateIfNeededFor_a7421 18 = .ok (.invokevirtual 195, 3) := by decide +kernel
theorem dJ5_inflateIfNeededFor_a7421_21 : decode cJ5_inflateIfNeededFor_a7421 21 = .ok (.return_, 1) := by decide +kernel
theorem dJ5_putStringAt_47b60_0 : decode cJ5_putStringAt_47b60 0 = .ok (.aload_n 0, 1) := by decide +kernel
theorem dJ5_putStringAt_47b60_1 : decode cJ5_putStringAt_47b60 1 = .ok (.aload_n 2, 1) := by decide +kernel
theorem dJ5_putStringAt_47b60_2 : decode cJ5_putStringAt_47b60 2 = .ok (.invokevirtual 397, 3) := by decide +kernel
theorem dJ5_putStringAt_47b60_5 : decode cJ5_putStringAt_47b60 5 = .ok (.aload_n 2, 1) := by decide +kernel
theorem dJ5_putStringAt_47b60_6 : decode cJ5_putStringAt_47b60 6 = .ok (.aload_n 0, 1) := by decide +kernel
theorem dJ5_putStringAt_47b60_7 : decode cJ5_putStringAt_47b60 7 = .ok (.getfield 15, 3) := by decide +kernel
theorem dJ5_putStringAt_47b60_10 : decode cJ5_putStringAt_47b60 10 = .ok (.iload_n 1, 1) := by decide +kernel
theorem dJ5_putStringAt_47b60_11 : decode cJ5_putStringAt_47b60 11 = .ok (.aload_n 0, 1) := by decide +kernel
theorem dJ5_putStringAt_47b60_12 : decode cJ5_putStringAt_47b60 12 = .ok (.getfield 22, 3) := by decide +kernel
theorem dJ5_putStringAt_47b60_15 : decode cJ5_putStringAt_47b60 15 = .ok (.invokevirtual 399, 3) := by decide +kernel
theorem dJ5_putStringAt_47b60_18 : decode cJ5_putStringAt_47b60 18 = .ok (.return_, 1) := by decide +kernel
theorem dJ5_append_cf1ce_0 : decode cJ5_append_cf1ce 0 = .ok (.aload_n 1, 1) := by decide +kernel
theorem dJ5_append_cf1ce_1 : decode cJ5_append_cf1ce 1 = .ok (.ifnonnull 8, 3) := by decide +kernel
theorem dJ5_append_cf1ce_4 : decode cJ5_append_cf1ce 4 = .ok (.aload_n 0, 1) := by decide +kernel
theorem dJ5_append_cf1ce_5 : decode cJ5_append_cf1ce 5 = .ok (.invokevirtual 204, 3) := by decide +kernel
theorem dJ5_append_cf1ce_8 : decode cJ5_append_cf1ce 8 = .ok (.areturn, 1) := by decide +kernel
theorem dJ5_append_cf1ce_9 : decode cJ5_append_cf1ce 9 = .ok (.aload_n 1, 1) := by decide +kernel
theorem dJ5_append_cf1ce_10 : decode cJ5_append_cf1ce 10 = .ok (.invokevirtual 32, 3) := by decide +kernel
theorem dJ5_append_cf1ce_13 : decode cJ5_append_cf1ce 13 = .ok (.istore_n 2, 1) := by decide +kernel
theorem dJ5_append_cf1ce_14 : decode cJ5_append_cf1ce 14 = .ok (.aload_n 0, 1) := by decide +kernel
theorem dJ5_append_cf1ce_15 : decode cJ5_append_cf1ce 15 = .ok (.aload_n 0, 1) := by decide +kernel
theorem dJ5_append_cf1ce_16 : decode cJ5_append_cf1ce 16 = .ok (.getfield 79, 3) := by decide +kernel
theorem dJ5_append_cf1ce_19 : decode cJ5_append_cf1ce 19 = .ok (.iload_n 2, 1) := by decide +kernel
theorem dJ5_append_cf1ce_20 : decode cJ5_append_cf1ce 20 = .ok (.iadd, 1) := by decide +kernel
theorem dJ5_append_cf1ce_21 : decode cJ5_append_cf1ce 21 = .ok (.invokevirtual 100, 3) := by decide +kernel
theorem dJ5_append_cf1ce_24 : decode cJ5_append_cf1ce 24 = .ok (.aload_n 0, 1) := by decide +kernel
theorem dJ5_append_cf1ce_25 : decode cJ5_append_cf1ce 25 = .ok (.aload_n 0, 1) := by decide +kernel
theorem dJ5_append_cf1ce_26 : decode cJ5_append_cf1ce 26 = .ok (.getfield 79, 3) := by decide +kernel
theorem dJ5_append_cf1ce_29 : decode cJ5_append_cf1ce 29 = .ok (.aload_n 1, 1) := by decide +kernel
theorem dJ5_append_cf1ce_30 : decode cJ5_append_cf1ce 30 = .ok (.invokevirtual 208, 3) := by decide +kernel
theorem dJ5_append_cf1ce_33 : decode cJ5_append_cf1ce 33 = .ok (.aload_n 0, 1) := by decide +kernel
theorem dJ5_append_cf1ce_34 : decode cJ5_append_cf1ce 34 = .ok (.dup, 1) := by decide +kernel
theorem dJ5_append_cf1ce_35 : decode cJ5_append_cf1ce 35 = .ok (.getfield 79, 3) := by decide +kernel
theorem dJ5_append_cf1ce_38 : decode cJ5_append_cf1ce 38 = .ok (.iload_n 2, 1) := by decide +kernel
theorem dJ5_append_cf1ce_39 : decode cJ5_append_cf1ce 39 = .ok (.iadd, 1) := by decide +kernel
theorem dJ5_append_cf1ce_40 : decode cJ5_append_cf1ce 40 = .ok (.putfield 79, 3) := by decide +kernel
theorem dJ5_append_cf1ce_43 : decode cJ5_append_cf1ce 43 = .ok (.aload_n 0, 1) := by decide +kernel
theorem dJ5_append_cf1ce_44 : decode cJ5_append_cf1ce 44 = .ok (.areturn, 1) := by decide +kernel
theorem dJ4_append_15ec4_0 : decode cJ4_append_15ec4 0 = .ok (.aload_n 0, 1) := by decide +kernel
theorem dJ4_append_15ec4_1 : decode cJ4_append_15ec4 1 = .ok (.aload_n 1, 1) := by decide +kernel
theorem dJ4_append_15ec4_2 : decode cJ4_append_15ec4 2 = .ok (.invokespecial 29, 3) := by decide +kernel
theorem dJ4_append_15ec4_5 : decode cJ4_append_15ec4 5 = .ok (.pop, 1) := by decide +kernel
theorem dJ4_append_15ec4_6 : decode cJ4_append_15ec4 6 = .ok (.aload_n 0, 1) := by decide +kernel
theorem dJ4_append_15ec4_7 : decode cJ4_append_15ec4 7 = .ok (.areturn, 1) := by decide +kernel
theorem dJ4_append_cf1ce_0 : decode cJ4_append_cf1ce 0 = .ok (.aload_n 0, 1) := by decide +kernel
theorem dJ4_append_cf1ce_1 : decode cJ4_append_cf1ce 1 = .ok (.aload_n 1, 1) := by decide +kernel
theorem dJ4_append_cf1ce_2 : decode cJ4_append_cf1ce 2 = .ok (.invokevirtual 23, 3) := by decide +kernel
theorem dJ4_append_cf1ce_5 : decode cJ4_append_cf1ce 5 = .ok (.areturn, 1) := by decide +kernel
theorem dJ5_init_d00df_0 : decode cJ5_init_d00df 0 = .ok (.aload_n 0, 1) := by decide +kernel
theorem dJ5_init_d00df_1 : decode cJ5_init_d00df 1 = .ok (.invokespecial 3, 3) := by decide +kernel
theorem dJ5_init_d00df_4 : decode cJ5_init_d00df 4 = .ok (.getstatic 18, 3) := by decide +kernel
theorem dJ5_init_d00df_7 : decode cJ5_init_d00df 7 = .ok (.ifCond .eq 18, 3) := by decide +kernel
theorem dJ5_init_d00df_10 : decode cJ5_init_d00df 10 = .ok (.aload_n 0, 1) := by decide +kernel
theorem dJ5_init_d00df_11 : decode cJ5_init_d00df 11 = .ok (.iload_n 1, 1) := by decide +kernel
theorem dJ5_init_d00df_12 : decode cJ5_init_d00df 12 = .ok (.newarray .byte, 2) := by decide +kernel
theorem dJ5_init_d00df_14 : decode cJ5_init_d00df 14 = .ok (.putfield 15, 3) := by decide +kernel
theorem dJ5_init_d00df_17 : decode cJ5_init_d00df 17 = .ok (.aload_n 0, 1) := by decide +kernel
theorem dJ5_init_d00df_18 : decode cJ5_init_d00df 18 = .ok (.iconst 0, 1) := by decide +kernel
theorem dJ5_init_d00df_19 : decode cJ5_init_d00df 19 = .ok (.putfield 22, 3) := by decide +kernel
theorem dJ5_init_d00df_22 : decode cJ5_init_d00df 22 = .ok (.goto 16, 3) := by decide +kernel
theorem dJ5_init_d00df_25 : decode cJ5_init_d00df 25 = .ok (.aload_n 0, 1) := by decide +kernel
theorem dJ5_init_d00df_26 : decode cJ5_init_d00df 26 = .ok (.iload_n 1, 1) := by decide +kernel
theorem dJ5_init_d00df_27 : decode cJ5_init_d00df 27 = .ok (.invokestatic 26, 3) := by decide +kernel
theorem dJ5_init_d00df_30 : decode cJ5_init_d00df 30 = .ok (.putfield 15, 3) := by decide +kernel
theorem dJ5_init_d00df_33 : decode cJ5_init_d00df 33 = .ok (.aload_n 0, 1) := by decide +kernel
theorem dJ5_init_d00df_34 : decode cJ5_init_d00df 34 = .ok (.iconst 1, 1) := by decide +kernel
theorem dJ5_init_d00df_35 : decode cJ5_init_d00df 35 = .ok (.putfield 22, 3) := by decide +kernel
theorem dJ5_init_d00df_38 : decode cJ5_init_d00df 38 = .ok (.return_, 1) := by decide +kernel
theorem dJ4_init_da8c8_0 : decode cJ4_init_da8c8 0 = .ok (.aload_n 0, 1) := by decide +kernel
theorem dJ4_init_da8c8_1 : decode cJ4_init_da8c8 1 = .ok (.bipush 16, 2) := by decide +kernel
theorem dJ4_init_da8c8_3 : decode cJ4_init_da8c8 3 = .ok (.invokespecial 1, 3) := by decide +kernel
theorem dJ4_init_da8c8_6 : decode cJ4_init_da8c8 6 = .ok (.return_, 1) := by decide +kernel
theorem dJ5_init_a7421_0 : decode cJ5_init_a7421 0 = .ok (.aload_n 0, 1) := by decide +kernel
theorem dJ5_init_a7421_1 : decode cJ5_init_a7421 1 = .ok (.invokespecial 3, 3) := by decide +kernel
theorem dJ5_init_a7421_4 : decode cJ5_init_a7421 4 = .ok (.aload_n 1, 1) := by decide +kernel
theorem dJ5_init_a7421_5 : decode cJ5_init_a7421 5 = .ok (.invokevirtual 32, 3) := by decide +kernel
theorem dJ5_init_a7421_8 : decode cJ5_init_a7421 8 = .ok (.istore_n 2, 1) := by decide +kernel
theorem dJ5_init_a7421_9 : decode cJ5_init_a7421 9 = .ok (.iload_n 2, 1) := by decide +kernel
theorem dJ5_init_a7421_10 : decode cJ5_init_a7421 10 = .ok (.ldc 38, 2) := by decide +kernel
theorem dJ5_init_a7421_12 : decode cJ5_init_a7421 12 = .ok (.if_icmp .ge 10, 3) := by decide +kernel
theorem dJ5_init_a7421_15 : decode cJ5_init_a7421 15 = .ok (.iload_n 2, 1) := by decide +kernel
theorem dJ5_init_a7421_16 : decode cJ5_init_a7421 16 = .ok (.bipush 16, 2) := by decide +kernel
theorem dJ5_init_a7421_18 : decode cJ5_init_a7421 18 = .ok (.iadd, 1) := by decide +kernel
theorem dJ5_init_a7421_19 : decode cJ5_init_a7421 19 = .ok (.goto 5, 3) := by decide +kernel
theorem dJ5_init_a7421_22 : decode cJ5_init_a7421 22 = .ok (.ldc 39, 2) := by decide +kernel
theorem dJ5_init_a7421_24 : decode cJ5_init_a7421 24 = .ok (.istore_n 3, 1) := by decide +kernel
theorem dJ5_init_a7421_25 : decode cJ5_init_a7421 25 = .ok (.aload_n 1, 1) := by decide +kernel
theorem dJ5_init_a7421_26 : decode cJ5_init_a7421 26 = .ok (.invokevirtual 40, 3) := by decide +kernel
theorem dJ5_init_a7421_29 : decode cJ5_init_a7421 29 = .ok (.istore 4, 2) := by decide +kernel
theorem dJ5_init_a7421_31 : decode cJ5_init_a7421 31 = .ok (.aload_n 0, 1) := by decide +kernel
theorem dJ5_init_a7421_32 : decode cJ5_init_a7421 32 = .ok (.iload 4, 2) := by decide +kernel
theorem dJ5_init_a7421_34 : decode cJ5_init_a7421 34 = .ok (.putfield 22, 3) := by decide +kernel
theorem dJ5_init_a7421_37 : decode cJ5_init_a7421 37 = .ok (.aload_n 0, 1) := by decide +kernel
theorem dJ5_init_a7421_38 : decode cJ5_init_a7421 38 = .ok (.iload 4, 2) := by decide +kernel
theorem dJ5_init_a7421_40 : decode cJ5_init_a7421 40 = .ok (.ifCond .ne 9, 3) := by decide +kernel
theorem dJ5_init_a7421_43 : decode cJ5_init_a7421 43 = .ok (.iload_n 3, 1) := by decide +kernel
theorem dJ5_init_a7421_44 : decode cJ5_init_a7421 44 = .ok (.newarray .byte, 2) := by decide +kernel
theorem dJ5_init_a7421_46 : decode cJ5_init_a7421 46 = .ok (.goto 7, 3) := by decide +kernel
theorem dJ5_init_a7421_49 : decode cJ5_init_a7421 49 = .ok (.iload_n 3, 1) := by decide +kernel
theorem dJ5_init_a7421_50 : decode cJ5_init_a7421 50 = .ok (.invokestatic 26, 3) := by decide +kernel
theorem dJ5_init_a7421_53 : decode cJ5_init_a7421 53 = .ok (.putfield 15, 3) := by decide +kernel
theorem dJ5_init_a7421_56 : decode cJ5_init_a7421 56 = .ok (.aload_n 0, 1) := by decide +kernel
theorem dJ5_init_a7421_57 : decode cJ5_init_a7421 57 = .ok (.aload_n 1, 1) := by decide +kernel
theorem dJ5_init_a7421_58 : decode cJ5_init_a7421 58 = .ok (.invokevirtual 43, 3) := by decide +kernel
theorem dJ5_init_a7421_61 : decode cJ5_init_a7421 61 = .ok (.pop, 1) := by decide +kernel
theorem dJ5_init_a7421_62 : decode cJ5_init_a7421 62 = .ok (.return_, 1) := by decide +kernel
theorem dJ4_init_a7421_0 : decode cJ4_init_a7421 0 = .ok (.aload_n 0, 1) := by decide +kernel
theorem dJ4_init_a7421_1 : decode cJ4_init_a7421 1 = .ok (.aload_n 1, 1) := by decide +kernel
theorem dJ4_init_a7421_2 : decode cJ4_init_a7421 2 = .ok (.invokespecial 7, 3) := by decide +kernel
theorem dJ4_init_a7421_5 : decode cJ4_init_a7421 5 = .ok (.return_, 1) := by decide +kernel
theorem mbJ4_append_bf812 : gYB yJ4_append_bf812 cJ4_append_bf812 2 (Option.some (Jvm.ClassFile.FieldType.object "java/lang/StringBuilder")) 1 := ⟨wm6_134, wm1_3, ⟨by decide, by decide, by decide +kernel⟩, wm6_132⟩
theorem muJ5_append_c97b9 : gYU "java/lang/StringBuilder" yJ5_append_c97b9 cJ5_append_c97b9 4 (Option.some (Jvm.ClassFile.FieldType.object "java/lang/AbstractStringBuilder")) 1 := ⟨wm6_137, wm1_2, ⟨by decide, by decide +kernel⟩, wm6_136, wx7_26, wx6_22⟩
theorem mbJ5_putStringAt_47b60 : gYB yJ5_putStringAt_47b60 cJ5_putStringAt_47b60 3 (Option.none : Option Jvm.ClassFile.FieldType) 2 := ⟨wm6_184, wm1_2, ⟨by decide, by decide, by decide +kernel⟩, wm6_183⟩
theorem mbJ5_inflateIfNeededFor_a7421 : gYB yJ5_inflateIfNeededFor_a7421 cJ5_inflateIfNeededFor_a7421 2 (Option.none : Option Jvm.ClassFile.FieldType) 1 := ⟨wm6_188, wm1_2, ⟨by decide, by decide, by decide +kernel⟩, wm6_187⟩
theorem muJ5_append_cf1ce : gYU "java/lang/StringBuilder" yJ5_append_cf1ce cJ5_append_cf1ce 3 (Option.some (Jvm.ClassFile.FieldType.object "java/lang/AbstractStringBuilder")) 1 := ⟨wm6_172, wm1_2, ⟨by decide, by decide +kernel⟩, wm6_171, wx7_27, wx6_22⟩
theorem mbJ4_append_15ec4 : gYB yJ4_append_15ec4 cJ4_append_15ec4 2 (Option.some (Jvm.ClassFile.FieldType.object "java/lang/StringBuilder")) 1 := ⟨wm6_169, wm1_3, ⟨by decide, by decide, by decide +kernel⟩, wm6_167⟩
theorem miJ5_init_d00df : gYI yJ5_init_d00df cJ5_init_d00df 2 1 := ⟨wm6_0, wm1_2, ⟨by decide, by decide, by decide +kernel⟩, wm5_239, rfl⟩
theorem miJ4_init_da8c8 : gYI yJ4_init_da8c8 cJ4_init_da8c8 1 0 := ⟨wm5_237, wm1_3, ⟨by decide, by decide, by decide +kernel⟩, wm5_236, rfl⟩
theorem miJ5_init_a7421 : gYI yJ5_init_a7421 cJ5_init_a7421 5 1 := ⟨wm7_7, wm1_2, ⟨by decide, by decide, by decide +kernel⟩, wm7_6, rfl⟩
theorem miJ4_init_a7421 : gYI yJ4_init_a7421 cJ4_init_a7421 2 1 := ⟨wm7_4, wm1_3, ⟨by decide, by decide, by decide +kernel⟩, wm7_3, rfl⟩
theorem c_asbC {w : WP} (hS : gS w) (hY : gY w) (hD : gD w) {ct : CT} {iB iV iW : ID} {b L : Nat} {T : List Nat} (hIn : sbIn w ct iB iV T L) (ha : wAd w iB = b) (hW9 : ¬ wOk w iW) (hk9 : 30 ≤ iW.1) {c : Nat} (hc : c < 128) (hm : T.length + 1 ≤ 400) : gMe w 4 yJ5_append_3fe6f cJ5_append_3fe6f 2 (some (.object "java/lang/AbstractStringBuilder")) [.ref b, .int (nI c)] ct (sbPost w ct iB iV iW (T ++ [c]) (some (.ref b))) 1 1000 := by
  have hIn0 := hIn
  obtain ⟨hB, hV, hBV, hct, ⟨f, hcv, hf, hl⟩, hTL, hL⟩ := hIn
  have hBo := hD.2.1 iB hB
  obtain ⟨v, hv⟩ : ∃ v, wAd w iV = v := ⟨_, rfl⟩
  rw [hv] at hct
  refine gMe_of "java/lang/AbstractStringBuilder" rfl (by decide) (kR rfl) fun X C hT => ?_
  show gU w X _ _ 0 [(0, .ref b), (1, .int (nI c))] []
  refine r_aload_n C (k := 0) rfl rfl dJ5_append_3fe6f_0 ?_
  refine r_aload_n C (k := 0) rfl rfl dJ5_append_3fe6f_1 ?_
  refine r_getA C FJ4 3 iB hBo ha hct (by decide) wm6_13 rfl dJ5_append_3fe6f_2 ?_
  refine r_iconst C (v := 1) rfl dJ5_append_3fe6f_5 ?_
  refine r_iadd C dJ5_append_3fe6f_6 ?_
  refine r_st (st' := [.int (nI (T.length + 1)), .ref b]) (by rw [nI_1] <;> rfl) ?_
  refine r_geV C (d' := 3) [.int (nI (T.length + 1))] (c_ensure hS hY (iW := iW) (m := T.length + 1) hIn0 ha hW9 hD (by omega)) mbJ5_ensureCapacityInternal_d00df ((hS.e C).imp fun _ _ _ h => h.2.2.2.2 _ (by decide)) wm6_30 (recB hBo ha hct) rfl (kR rfl) (by decide) (kR rfl) rfl dJ5_append_3fe6f_7 (hT.q (show 0 + 1 ≤ 1 from Nat.le_refl _) (show 0 + 1000 ≤ 1000 from Nat.le_refl _)) ?_
  rintro I ad v9 ct9 ⟨rfl, hI, iC, L2, hC, hIn2, hm2, hfr⟩ hag hbh C2
  show gU (wM w I ad) X _ ct9 10 [(0, .ref b), (1, .int (nI c))] []
  have hI0 : ∀ z, I z → 30 ≤ z.1 := fun z hz => by rw [hI z hz]; exact hk9
  have hS2 := gS_N hS hag hI0
  have ha2 : wAd (wM w I ad) iB = b := (hag.1 iB hBo).trans ha
  obtain ⟨hB2, hV2, hBV2, hct2, ⟨f2, hcv2, hf2, hl2⟩, hTL2, hL2⟩ := hIn2
  have hD2 : gD (wM w I ad) := gD_C C2
  have hBo2 := hD2.2.1 iB hB2
  have hVo2 := hD2.2.1 iC hV2
  obtain ⟨v2, hv2⟩ : ∃ v2, wAd (wM w I ad) iC = v2 := ⟨_, rfl⟩
  rw [hv2] at hct2
  refine r_aload_n C2 (k := 0) rfl rfl dJ5_append_3fe6f_10 ?_
  refine r_callB C2 (d' := 0) [] (c_sbL hS2 hBo2 ha2 hct2) mbJ5_isLatin1_aae02 (sel_tbl C2 wm6_62 rfl) wm6_59 (recB hBo2 ha2 hct2) rfl (kR rfl) (by decide) (kR rfl) rfl dJ5_append_3fe6f_11 ?_ (hT.q (show 0 + 1 ≤ 1 from Nat.le_refl _) (show 0 + 1000 ≤ 1000 from Nat.le_refl _))
  refine r_if_eq C2 (tgt := 45) rfl dJ5_append_3fe6f_14 (fun h => absurd h (by decide)) (fun _ => ?_)
  refine r_iload_n C2 (k := 1) rfl rfl dJ5_append_3fe6f_17 ?_
  refine r_callS C2 (d' := 0) [.int (nI c)] (c_canEnc (by omega)) myJ1_canEncode_fc78d wm6_64 rfl (kR rfl) (by decide) (kR rfl) rfl dJ5_append_3fe6f_18 ?_ (hT.q (show 0 + 1 ≤ 1 from Nat.le_refl _) (show 0 + 1000 ≤ 1000 from Nat.le_refl _))
  refine r_if_eq C2 (tgt := 45) rfl dJ5_append_3fe6f_21 (fun h => absurd h (by decide)) (fun _ => ?_)
  refine r_aload_n C2 (k := 0) rfl rfl dJ5_append_3fe6f_24 ?_
  refine r_getA C2 FJ4 0 iB hBo2 ha2 hct2 (by decide) wm6_10 rfl dJ5_append_3fe6f_25 ?_
  refine r_aload_n C2 (k := 0) rfl rfl dJ5_append_3fe6f_28 ?_
  refine r_dup C2 rfl dJ5_append_3fe6f_29 ?_
  refine r_getA C2 FJ4 3 iB hBo2 ha2 hct2 (by decide) wm6_13 rfl dJ5_append_3fe6f_30 ?_
  refine r_dup_x1 C2 rfl rfl dJ5_append_3fe6f_33 ?_
  refine r_iconst C2 (v := 1) rfl dJ5_append_3fe6f_34 ?_
  refine r_iadd C2 dJ5_append_3fe6f_35 ?_
  refine r_st (st' := [.int (nI (T.length + 1)), .ref b, .int (nI T.length), .ref v2]) (by rw [nI_1] <;> rfl) ?_
  refine r_putA C2 FJ4 3 iB hB2 ha2 (fs := [.ref v2, .int 0, .int 0, .int (nI T.length)]) hct2 (by decide) wm6_13 rfl (vp_nar_int _) rfl (kR rfl) dJ5_append_3fe6f_36 ?_
  refine r_iload_n C2 (k := 1) rfl rfl dJ5_append_3fe6f_39 ?_
  refine r_i2b C2 (v := nI c) (nar_b hc).2 dJ5_append_3fe6f_40 ?_
  refine r_basA C2 iC hV2 hv2 (n := L2) (f := f2) ((upE_n hBV2.symm).trans hcv2) (y := nI c) (nar_b hc).1 (vp_in_nI (by omega) (by omega)) dJ5_append_3fe6f_41 ?_
  refine r_goto C2 (tgt := 75) rfl dJ5_append_3fe6f_42 ?_
  refine r_aload_n C2 (k := 0) rfl rfl dJ5_append_3fe6f_75 ?_
  refine r_wid (c' := 1) (s' := 1000) (show 0 + 1 ≤ 1 from Nat.le_refl _) (show 0 + 1000 ≤ 1000 from Nat.le_refl _) ?_
  refine r_eendA C2 (Or.inl ⟨_, rfl⟩) hag hbh (sbPost_M hI hfr hC (L := L2) ⟨hB2, hV2, hBV2, ?_, ⟨upd f2 T.length (nI c), ?_, fB_upd hf2 _ hc, lat_snoc hl2⟩, ?_, hL2⟩ (fun z h1 h2 => ?_)) dJ5_append_3fe6f_76
  · rw [upE_n hBV2, upE_s, hv2, List.length_append, List.length_singleton] <;> rfl
  · rw [upE_s, nI_clamp (by omega)] <;> rfl
  · rw [List.length_append, List.length_singleton]
    omega
  · rw [upE_n h2, upE_n h1]
theorem c_sbC {w : WP} (hS : gS w) (hY : gY w) (hD : gD w) {ct : CT} {iB iV iW : ID} {b L : Nat} {T : List Nat} (hIn : sbIn w ct iB iV T L) (ha : wAd w iB = b) (hW9 : ¬ wOk w iW) (hk9 : 30 ≤ iW.1) {c : Nat} (hc : c < 128) (hm : T.length + 1 ≤ 400) : gMe w 5 yJ4_append_cf468 cJ4_append_cf468 2 (some (.object "java/lang/StringBuilder")) [.ref b, .int (nI c)] ct (sbPost w ct iB iV iW (T ++ [c]) (some (.ref b))) 1 1000 := by
  have hIn0 := hIn
  obtain ⟨hB, hV, hBV, hct, ⟨f, hcv, hf, hl⟩, hTL, hL⟩ := hIn
  have hBo := hD.2.1 iB hB
  obtain ⟨v, hv⟩ : ∃ v, wAd w iV = v := ⟨_, rfl⟩
  rw [hv] at hct
  refine gMe_of "java/lang/StringBuilder" rfl (by decide) (kR rfl) fun X C hT => ?_
  show gU w X _ _ 0 [(0, .ref b), (1, .int (nI c))] []
  refine r_aload_n C (k := 0) rfl rfl dJ4_append_cf468_0 ?_
  refine r_iload_n C (k := 1) rfl rfl dJ4_append_cf468_1 ?_
  refine r_geUA C (d' := 4) [.int (nI c)] iB hBo ha hct rfl (c_asbC hS hY hD hIn0 ha hW9 hk9 hc hm) muJ5_append_3fe6f rfl rfl wm6_27 rfl (kR rfl) (by decide) (kR rfl) rfl dJ4_append_cf468_2 (hT.q (show 0 + 1 ≤ 1 from Nat.le_refl _) (show 0 + 1000 ≤ 1000 from Nat.le_refl _)) ?_
  intro I ad v9 ct9 hP hag hbh C2
  obtain rfl : v9 = some (.ref b) := hP.1
  show gU (wM w I ad) X _ ct9 5 [(0, .ref b), (1, .int (nI c))] [.ref b]
  refine r_pop C2 rfl dJ4_append_cf468_5 ?_
  refine r_aload_n C2 (k := 0) rfl rfl dJ4_append_cf468_6 ?_
  refine r_wid (c' := 1) (s' := 1000) (show 0 + 1 ≤ 1 from Nat.le_refl _) (show 0 + 1000 ≤ 1000 from Nat.le_refl _) ?_
  exact r_eendA C2 (Or.inl ⟨_, rfl⟩) hag hbh hP dJ4_append_cf468_7
theorem c_strSize {w : WP} {ct : CT} {x : Nat} (hx : x < 100) : gM w 0 yJ6_stringSize_0f7a4 cJ6_stringSize_0f7a4 4 (some .int) [.int (nI x)] ct (some (.int (nI (digs x).length))) ct := by
  refine gM_of "java/lang/Integer" rfl (by decide) (kR rfl) fun X C => ?_
  have q9 := dg_le ⟨x, hx⟩
  dsimp only at q9
  show gV w X _ _ 0 [(0, .int (nI x))] []
  refine r_iconst C (v := 1) rfl dJ6_stringSize_0f7a4_0 ?_
  refine r_istore_n C (lo' := [(1, .int 1), (0, .int (nI x))]) rfl (by decide) rfl dJ6_stringSize_0f7a4_1 ?_
  refine r_iload_n C (k := 1) rfl rfl dJ6_stringSize_0f7a4_2 ?_
  refine r_if_lt C (tgt := 11) rfl dJ6_stringSize_0f7a4_3 (fun h => absurd h q9.2.2.2.2.1) (fun _ => ?_)
  refine r_iconst C (v := 0) rfl dJ6_stringSize_0f7a4_6 ?_
  refine r_istore_n C (lo' := [(1, .int 0), (0, .int (nI x))]) rfl (by decide) rfl dJ6_stringSize_0f7a4_7 ?_
  refine r_iload_n C (k := 1) rfl rfl dJ6_stringSize_0f7a4_8 ?_
  refine r_ineg C dJ6_stringSize_0f7a4_9 ?_
  refine r_istore_n C (lo' := [(0, .int (-(nI x))), (1, .int 0)]) rfl (by decide) rfl dJ6_stringSize_0f7a4_10 ?_
  refine r_bipush C (v := (-10)) (by decide) dJ6_stringSize_0f7a4_11 ?_
  refine r_istore_n C (lo' := [(2, .int (-10)), (0, .int (-(nI x))), (1, .int 0)]) rfl (by decide) rfl dJ6_stringSize_0f7a4_13 ?_
  refine r_iconst C (v := 1) rfl dJ6_stringSize_0f7a4_14 ?_
  refine r_istore_n C (lo' := [(3, .int 1), (2, .int (-10)), (0, .int (-(nI x))), (1, .int 0)]) rfl (by decide) rfl dJ6_stringSize_0f7a4_15 ?_
  refine r_iload_n C (k := 0) rfl rfl dJ6_stringSize_0f7a4_16 ?_
  refine r_bipush C (v := 10) rfl dJ6_stringSize_0f7a4_17 ?_
  refine r_icmp_ge C (tgt := 42) rfl dJ6_stringSize_0f7a4_19 (fun h => absurd h (by decide)) (fun _ => ?_)
  refine r_iload_n C (k := 2) rfl rfl dJ6_stringSize_0f7a4_22 ?_
  refine r_iload_n C (k := 1) rfl rfl dJ6_stringSize_0f7a4_23 ?_
  by_cases hx1 : x < 10
  · refine r_icmp_le C (tgt := 31) rfl dJ6_stringSize_0f7a4_24 (fun h => absurd (q9.1.mp h) (by omega)) (fun _ => ?_)
    refine r_iload_n C (k := 0) rfl rfl dJ6_stringSize_0f7a4_27 ?_
    refine r_iload_n C (k := 3) rfl rfl dJ6_stringSize_0f7a4_28 ?_
    refine r_iadd C dJ6_stringSize_0f7a4_29 ?_
    have e : (1 : Int32) + 0 = nI (digs x).length := by rw [digs_len, if_pos hx1]; rfl
    rw [e]
    exact r_ireturn C dJ6_stringSize_0f7a4_30
  · refine r_icmp_le C (tgt := 31) rfl dJ6_stringSize_0f7a4_24 (fun _ => ?_) (fun h => absurd (q9.1.mpr (by omega)) h)
    refine r_bipush C (v := 10) rfl dJ6_stringSize_0f7a4_31 ?_
    refine r_iload_n C (k := 1) rfl rfl dJ6_stringSize_0f7a4_33 ?_
    refine r_imul C dJ6_stringSize_0f7a4_34 ?_
    refine r_istore_n C (lo' := [(2, .int (10 * (-10))), (3, .int 1), (0, .int (-(nI x))), (1, .int 0)]) rfl (by decide) rfl dJ6_stringSize_0f7a4_35 ?_
    refine r_iinc C (k := 1) (v := 2) (lo' := [(3, .int 2), (2, .int (10 * (-10))), (0, .int (-(nI x))), (1, .int 0)]) rfl rfl (by decide) rfl dJ6_stringSize_0f7a4_36 ?_
    refine r_goto C (tgt := 16) rfl dJ6_stringSize_0f7a4_39 ?_
    refine r_iload_n C (k := 0) rfl rfl dJ6_stringSize_0f7a4_16 ?_
    refine r_bipush C (v := 10) rfl dJ6_stringSize_0f7a4_17 ?_
    refine r_icmp_ge C (tgt := 42) rfl dJ6_stringSize_0f7a4_19 (fun h => absurd h (by decide)) (fun _ => ?_)
    refine r_iload_n C (k := 2) rfl rfl dJ6_stringSize_0f7a4_22 ?_
    refine r_iload_n C (k := 1) rfl rfl dJ6_stringSize_0f7a4_23 ?_
    refine r_icmp_le C (tgt := 31) rfl dJ6_stringSize_0f7a4_24 (fun h => absurd h q9.2.2.2.2.2.1) (fun _ => ?_)
    refine r_iload_n C (k := 0) rfl rfl dJ6_stringSize_0f7a4_27 ?_
    refine r_iload_n C (k := 3) rfl rfl dJ6_stringSize_0f7a4_28 ?_
    refine r_iadd C dJ6_stringSize_0f7a4_29 ?_
    have e : (2 : Int32) + 0 = nI (digs x).length := by rw [digs_len, if_neg hx1]; rfl
    rw [e]
    exact r_ireturn C dJ6_stringSize_0f7a4_30
theorem c_getCh {w : WP} (hS : gS w) (hD : gD w) {ct : CT} {iV : ID} {a L x q : Nat} {f : Nat → Int32} (hV : wFr w iV) (hv : wAd w iV = a) (hcv : ct iV = .inl (wJ w, L, .inl f)) (hx : x < 100) (hq1 : (digs x).length ≤ q) (hq2 : q ≤ L) (hL : L ≤ 1000) : gM w 0 yJ6_getChars_ba4f3 cJ6_getChars_ba4f3 7 (some .int) [.int (nI x), .int (nI q), .ref a] ct (some (.int (nI (q - (digs x).length)))) (upE ct iV (.inl (wJ w, L, .inl (dgW f q x)))) := by
  refine gM_of "java/lang/Integer" rfl (by decide) (kR rfl) fun X C => ?_
  have hE := hS.e C
  have q9 := dg_le ⟨x, hx⟩
  dsimp only at q9
  have hq0 : 0 < (digs x).length ∧ (10 ≤ x → (digs x).length = 2) := by
    rw [digs_len]
    split <;> omega
  show gV w X _ _ 0 [(0, .int (nI x)), (1, .int (nI q)), (2, .ref a)] []
  refine r_iload_n C (k := 1) rfl rfl dJ6_getChars_ba4f3_0 ?_
  refine r_istore C (lo' := [(5, .int (nI q)), (0, .int (nI x)), (1, .int (nI q)), (2, .ref a)]) (by decide) rfl dJ6_getChars_ba4f3_1 ?_
  refine r_iload_n C (k := 1) rfl rfl dJ6_getChars_ba4f3_3 ?_
  refine r_if_ge C (tgt := 11) rfl dJ6_getChars_ba4f3_4 (fun _ => ?_) (fun h => absurd q9.2.2.2.2.2.2 h)
  refine r_iconst C (v := 0) rfl dJ6_getChars_ba4f3_11 ?_
  refine r_istore C (lo' := [(6, .int 0), (5, .int (nI q)), (0, .int (nI x)), (1, .int (nI q)), (2, .ref a)]) (by decide) rfl dJ6_getChars_ba4f3_12 ?_
  refine r_iload C (k := 0) rfl dJ6_getChars_ba4f3_14 ?_
  refine r_if_ne C (tgt := 22) rfl dJ6_getChars_ba4f3_16 (fun h => absurd rfl h) (fun _ => ?_)
  refine r_iload_n C (k := 2) rfl rfl dJ6_getChars_ba4f3_19 ?_
  refine r_ineg C dJ6_getChars_ba4f3_20 ?_
  refine r_istore_n C (lo' := [(0, .int (-(nI x))), (6, .int 0), (5, .int (nI q)), (1, .int (nI q)), (2, .ref a)]) rfl (by decide) rfl dJ6_getChars_ba4f3_21 ?_
  refine r_iload_n C (k := 0) rfl rfl dJ6_getChars_ba4f3_22 ?_
  refine r_bipush C (v := (-100)) (by decide) dJ6_getChars_ba4f3_23 ?_
  refine r_icmp_gt C (tgt := 72) rfl dJ6_getChars_ba4f3_25 (fun _ => ?_) (fun h => absurd q9.2.1 h)
  refine r_aload_n C (k := 4) rfl rfl dJ6_getChars_ba4f3_72 ?_
  refine r_iinc C (k := 2) (v := (nI (q - 1))) (lo' := [(5, .int (nI (q - 1))), (0, .int (-(nI x))), (6, .int 0), (1, .int (nI q)), (2, .ref a)]) rfl (nI_m1 (by omega)) (by decide) rfl dJ6_getChars_ba4f3_73 ?_
  refine r_iload C (k := 0) rfl dJ6_getChars_ba4f3_76 ?_
  refine r_gets C (hE.imp fun _ _ _ h => h.1) wm6_144 dJ6_getChars_ba4f3_78 ?_
  refine r_iload_n C (k := 1) rfl rfl dJ6_getChars_ba4f3_81 ?_
  refine r_ineg C dJ6_getChars_ba4f3_82 ?_
  refine r_st (st' := [.int (nI x), .ref (wAd w (17, 0, 0, 0)), .int (nI (q - 1)), .ref a]) (by rw [q9.2.2.2.1] <;> rfl) ?_
  refine r_tb C (hE.imp fun _ _ _ h => h.2.1) (vp_in_nI hx (by decide)) (v := .int (nI (48 + x % 10))) (by rw [nI_clamp (by omega)]; rfl) dJ6_getChars_ba4f3_83 ?_
  refine r_basA C iV hV hv hcv (y := nI (48 + x % 10)) (nar_b (by omega)).1 (vp_in_nI (n := q - 1) (by omega) (by omega)) dJ6_getChars_ba4f3_84 ?_
  rw [nI_clamp (show q - 1 < 2 ^ 31 by omega)]
  refine r_iload_n C (k := 1) rfl rfl dJ6_getChars_ba4f3_85 ?_
  refine r_bipush C (v := (-9)) (by decide) dJ6_getChars_ba4f3_86 ?_
  by_cases hx1 : x < 10
  · refine r_icmp_ge C (tgt := 104) rfl dJ6_getChars_ba4f3_88 (fun _ => ?_) (fun h => absurd (q9.2.2.1.mpr hx1) h)
    refine r_iload C (k := 2) rfl dJ6_getChars_ba4f3_104 ?_
    refine r_if_eq C (tgt := 118) rfl dJ6_getChars_ba4f3_106 (fun _ => ?_) (fun h => absurd rfl h)
    refine r_iload C (k := 0) rfl dJ6_getChars_ba4f3_118 ?_
    have e1 : q - 1 = q - (digs x).length := by rw [digs_len, if_pos hx1]
    have e2 : upd f (q - 1) (nI (48 + x % 10)) = dgW f q x := by unfold dgW; rw [if_pos hx1, show x % 10 = x by omega]
    rw [e2]
    refine r_st (st' := [.int (nI (q - (digs x).length))]) (by rw [e1]) ?_
    exact r_ireturn C dJ6_getChars_ba4f3_120
  · refine r_icmp_ge C (tgt := 104) rfl dJ6_getChars_ba4f3_88 (fun h => absurd (q9.2.2.1.mp h) hx1) (fun _ => ?_)
    refine r_aload_n C (k := 4) rfl rfl dJ6_getChars_ba4f3_91 ?_
    refine r_iinc C (k := 0) (v := (nI (q - 2))) (lo' := [(5, .int (nI (q - 2))), (0, .int (-(nI x))), (6, .int 0), (1, .int (nI q)), (2, .ref a)]) rfl (nI_m1 (by omega)) (by decide) rfl dJ6_getChars_ba4f3_92 ?_
    refine r_iload C (k := 0) rfl dJ6_getChars_ba4f3_95 ?_
    refine r_gets C (hE.imp fun _ _ _ h => h.2.2.1) wm6_146 dJ6_getChars_ba4f3_97 ?_
    refine r_iload_n C (k := 1) rfl rfl dJ6_getChars_ba4f3_100 ?_
    refine r_ineg C dJ6_getChars_ba4f3_101 ?_
    refine r_st (st' := [.int (nI x), .ref (wAd w (18, 0, 0, 0)), .int (nI (q - 2)), .ref a]) (by rw [q9.2.2.2.1] <;> rfl) ?_
    refine r_tb C (hE.imp fun _ _ _ h => h.2.2.2.1) (vp_in_nI hx (by decide)) (v := .int (nI (48 + x / 10))) (by rw [nI_clamp (by omega)]; rfl) dJ6_getChars_ba4f3_102 ?_
    refine r_basA C iV hV hv upE_s (y := nI (48 + x / 10)) (nar_b (by omega)).1 (vp_in_nI (n := q - 2) (by omega) (by omega)) dJ6_getChars_ba4f3_103 ?_
    rw [nI_clamp (show q - 2 < 2 ^ 31 by omega), upE_upE]
    refine r_iload C (k := 2) rfl dJ6_getChars_ba4f3_104 ?_
    refine r_if_eq C (tgt := 118) rfl dJ6_getChars_ba4f3_106 (fun _ => ?_) (fun h => absurd rfl h)
    refine r_iload C (k := 0) rfl dJ6_getChars_ba4f3_118 ?_
    have e1 : q - 2 = q - (digs x).length := by rw [digs_len, if_neg hx1]
    have e2 : upd (upd f (q - 1) (nI (48 + x % 10))) (q - 2) (nI (48 + x / 10)) = dgW f q x := by unfold dgW; rw [if_neg hx1]
    rw [e2]
    refine r_st (st' := [.int (nI (q - (digs x).length))]) (by rw [e1]) ?_
    exact r_ireturn C dJ6_getChars_ba4f3_120
theorem c_asbI {w : WP} (hS : gS w) (hY : gY w) (hD : gD w) {ct : CT} {iB iV iW : ID} {b L : Nat} {T : List Nat} (hIn : sbIn w ct iB iV T L) (ha : wAd w iB = b) (hW9 : ¬ wOk w iW) (hk9 : 30 ≤ iW.1) {x : Nat} (hx : x < 100) (hm : T.length + (digs x).length ≤ 400) : gMe w 4 yJ5_append_c97b9 cJ5_append_c97b9 4 (some (.object "java/lang/AbstractStringBuilder")) [.ref b, .int (nI x)] ct (sbPost w ct iB iV iW (T ++ digs x) (some (.ref b))) 1 1000 := by
  have hIn0 := hIn
  obtain ⟨hB, hV, hBV, hct, ⟨f, hcv, hf, hl⟩, hTL, hL⟩ := hIn
  have hBo := hD.2.1 iB hB
  obtain ⟨v, hv⟩ : ∃ v, wAd w iV = v := ⟨_, rfl⟩
  rw [hv] at hct
  refine gMe_of "java/lang/AbstractStringBuilder" rfl (by decide) (kR rfl) fun X C hT => ?_
  show gU w X _ _ 0 [(0, .ref b), (1, .int (nI x))] []
  refine r_aload_n C (k := 0) rfl rfl dJ5_append_c97b9_0 ?_
  refine r_getA C FJ4 3 iB hBo ha hct (by decide) wm6_13 rfl dJ5_append_c97b9_1 ?_
  refine r_istore_n C (lo' := [(2, .int (nI T.length)), (0, .ref b), (1, .int (nI x))]) rfl (by decide) rfl dJ5_append_c97b9_4 ?_
  refine r_iload_n C (k := 0) rfl rfl dJ5_append_c97b9_5 ?_
  refine r_iload_n C (k := 2) rfl rfl dJ5_append_c97b9_6 ?_
  refine r_callS C (d' := 0) [.int (nI x)] (c_strSize hx) myJ6_stringSize_0f7a4 wm6_138 rfl (kR rfl) (by decide) (kR rfl) rfl dJ5_append_c97b9_7 ?_
  refine r_iadd C dJ5_append_c97b9_10 ?_
  refine r_st (st' := [.int (nI (T.length + (digs x).length))]) (by rw [nI_add] <;> rfl) ?_
  refine r_istore_n C (lo' := [(3, .int (nI (T.length + (digs x).length))), (2, .int (nI T.length)), (0, .ref b), (1, .int (nI x))]) rfl (by decide) rfl dJ5_append_c97b9_11 ?_
  refine r_aload_n C (k := 2) rfl rfl dJ5_append_c97b9_12 ?_
  refine r_iload_n C (k := 0) rfl rfl dJ5_append_c97b9_13 ?_
  refine r_geV C (d' := 3) [.int (nI (T.length + (digs x).length))] (c_ensure hS hY (iW := iW) (m := T.length + (digs x).length) hIn0 ha hW9 hD (by omega)) mbJ5_ensureCapacityInternal_d00df ((hS.e C).imp fun _ _ _ h => h.2.2.2.2 _ (by decide)) wm6_30 (recB hBo ha hct) rfl (kR rfl) (by decide) (kR rfl) rfl dJ5_append_c97b9_14 (hT.q (show 0 + 1 ≤ 1 from Nat.le_refl _) (show 0 + 1000 ≤ 1000 from Nat.le_refl _)) ?_
  rintro I ad v9 ct9 ⟨rfl, hI, iC, L2, hC, hIn2, hm2, hfr⟩ hag hbh C2
  show gU (wM w I ad) X _ ct9 17 [(3, .int (nI (T.length + (digs x).length))), (2, .int (nI T.length)), (0, .ref b), (1, .int (nI x))] []
  have hI0 : ∀ z, I z → 30 ≤ z.1 := fun z hz => by rw [hI z hz]; exact hk9
  have hS2 := gS_N hS hag hI0
  have ha2 : wAd (wM w I ad) iB = b := (hag.1 iB hBo).trans ha
  obtain ⟨hB2, hV2, hBV2, hct2, ⟨f2, hcv2, hf2, hl2⟩, hTL2, hL2⟩ := hIn2
  have hD2 : gD (wM w I ad) := gD_C C2
  have hBo2 := hD2.2.1 iB hB2
  have hVo2 := hD2.2.1 iC hV2
  obtain ⟨v2, hv2⟩ : ∃ v2, wAd (wM w I ad) iC = v2 := ⟨_, rfl⟩
  rw [hv2] at hct2
  refine r_aload_n C2 (k := 2) rfl rfl dJ5_append_c97b9_17 ?_
  refine r_callB C2 (d' := 0) [] (c_sbL hS2 hBo2 ha2 hct2) mbJ5_isLatin1_aae02 (sel_tbl C2 wm6_62 rfl) wm6_59 (recB hBo2 ha2 hct2) rfl (kR rfl) (by decide) (kR rfl) rfl dJ5_append_c97b9_18 ?_ (hT.q (show 0 + 1 ≤ 1 from Nat.le_refl _) (show 0 + 1000 ≤ 1000 from Nat.le_refl _))
  refine r_if_eq C2 (tgt := 37) rfl dJ5_append_c97b9_21 (fun h => absurd h (by decide)) (fun _ => ?_)
  refine r_iload_n C2 (k := 3) rfl rfl dJ5_append_c97b9_24 ?_
  refine r_iload_n C2 (k := 0) rfl rfl dJ5_append_c97b9_25 ?_
  refine r_aload_n C2 (k := 2) rfl rfl dJ5_append_c97b9_26 ?_
  refine r_getA C2 FJ4 0 iB hBo2 ha2 hct2 (by decide) wm6_10 rfl dJ5_append_c97b9_27 ?_
  refine r_callS C2 (d' := 0) [.int (nI x), .int (nI (T.length + (digs x).length)), .ref v2] (c_getCh hS2 hD2 hV2 hv2 hcv2 hx (by omega) hm2 hL2) myJ6_getChars_ba4f3 wm6_141 rfl (kR rfl) (by decide) (kR rfl) rfl dJ5_append_c97b9_30 ?_ (hT.q (show 0 + 1 ≤ 1 from Nat.le_refl _) (show 0 + 1000 ≤ 1000 from Nat.le_refl _))
  refine r_pop C2 rfl dJ5_append_c97b9_33 ?_
  refine r_goto C2 (tgt := 48) rfl dJ5_append_c97b9_34 ?_
  refine r_aload_n C2 (k := 2) rfl rfl dJ5_append_c97b9_48 ?_
  refine r_iload_n C2 (k := 0) rfl rfl dJ5_append_c97b9_49 ?_
  refine r_putA C2 FJ4 3 iB hB2 ha2 (fs := [.ref v2, .int 0, .int 0, .int (nI T.length)]) ((upE_n hBV2).trans hct2) (by decide) wm6_13 rfl (vp_nar_int _) rfl (kR rfl) dJ5_append_c97b9_50 ?_
  refine r_aload_n C2 (k := 2) rfl rfl dJ5_append_c97b9_53 ?_
  refine r_wid (c' := 1) (s' := 1000) (show 0 + 1 ≤ 1 from Nat.le_refl _) (show 0 + 1000 ≤ 1000 from Nat.le_refl _) ?_
  refine r_eendA C2 (Or.inl ⟨_, rfl⟩) hag hbh (sbPost_M hI hfr hC (L := L2) ⟨hB2, hV2, hBV2, ?_, ⟨dgW f2 (T.length + (digs x).length) x, ?_, fB_dgW hf2 _ _ hx, lat_digs hl2⟩, ?_, hL2⟩ (fun z h1 h2 => ?_)) dJ5_append_c97b9_54
  · rw [upE_s, hv2, List.length_append] <;> rfl
  · rw [upE_n hBV2.symm, upE_s] <;> rfl
  · rw [List.length_append]
    omega
  · rw [upE_n h1, upE_n h2]
theorem c_sbI {w : WP} (hS : gS w) (hY : gY w) (hD : gD w) {ct : CT} {iB iV iW : ID} {b L : Nat} {T : List Nat} (hIn : sbIn w ct iB iV T L) (ha : wAd w iB = b) (hW9 : ¬ wOk w iW) (hk9 : 30 ≤ iW.1) {x : Nat} (hx : x < 100) (hm : T.length + (digs x).length ≤ 400) : gMe w 5 yJ4_append_bf812 cJ4_append_bf812 2 (some (.object "java/lang/StringBuilder")) [.ref b, .int (nI x)] ct (sbPost w ct iB iV iW (T ++ digs x) (some (.ref b))) 1 1000 := by
  have hIn0 := hIn
  obtain ⟨hB, hV, hBV, hct, ⟨f, hcv, hf, hl⟩, hTL, hL⟩ := hIn
  have hBo := hD.2.1 iB hB
  obtain ⟨v, hv⟩ : ∃ v, wAd w iV = v := ⟨_, rfl⟩
  rw [hv] at hct
  refine gMe_of "java/lang/StringBuilder" rfl (by decide) (kR rfl) fun X C hT => ?_
  show gU w X _ _ 0 [(0, .ref b), (1, .int (nI x))] []
  refine r_aload_n C (k := 0) rfl rfl dJ4_append_bf812_0 ?_
  refine r_iload_n C (k := 1) rfl rfl dJ4_append_bf812_1 ?_
  refine r_geUA C (d' := 4) [.int (nI x)] iB hBo ha hct rfl (c_asbI hS hY hD hIn0 ha hW9 hk9 hx hm) muJ5_append_c97b9 rfl rfl wm6_135 rfl (kR rfl) (by decide) (kR rfl) rfl dJ4_append_bf812_2 (hT.q (show 0 + 1 ≤ 1 from Nat.le_refl _) (show 0 + 1000 ≤ 1000 from Nat.le_refl _)) ?_
  intro I ad v9 ct9 hP hag hbh C2
  obtain rfl : v9 = some (.ref b) := hP.1
  show gU (wM w I ad) X _ ct9 5 [(0, .ref b), (1, .int (nI x))] [.ref b]
  refine r_pop C2 rfl dJ4_append_bf812_5 ?_
  refine r_aload_n C2 (k := 0) rfl rfl dJ4_append_bf812_6 ?_
  refine r_wid (c' := 1) (s' := 1000) (show 0 + 1 ≤ 1 from Nat.le_refl _) (show 0 + 1000 ≤ 1000 from Nat.le_refl _) ?_
  exact r_eendA C2 (Or.inl ⟨_, rfl⟩) hag hbh hP dJ4_append_bf812_7
