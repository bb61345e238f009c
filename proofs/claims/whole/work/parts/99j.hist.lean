/-! ===== the states before ===== -/
def psh (L : List AS) (A : AS) : List AS := if L.length = 8 then L.eraseIdx 0 ++ [A] else L ++ [A]
theorem psh_len {L : List AS} {A : AS} (h : L.length ≤ 8) : (psh L A).length = if L.length = 8 then 8 else L.length + 1 := by
  unfold psh
  by_cases c : L.length = 8
  · rw [if_pos c, if_pos c, List.length_append, List.length_eraseIdx, c]; rfl
  · rw [if_neg c, if_neg c, List.length_append]; rfl
theorem psh_mem {L : List AS} {A B : AS} (h : B ∈ psh L A) : B ∈ L ∨ B = A := by
  unfold psh at h
  split at h
  · rcases List.mem_append.mp h with q | q
    · exact Or.inl (List.mem_of_mem_eraseIdx q)
    · exact Or.inr (List.mem_singleton.mp q)
  · rcases List.mem_append.mp h with q | q
    · exact Or.inl q
    · exact Or.inr (List.mem_singleton.mp q)
theorem psh_8 {L : List AS} {A : AS} (h : L.length = 8) (i : Nat) : (psh L A).getD i A0 = if i < 7 then L.getD (i + 1) A0 else [A].getD (i - 7) A0 := by
  unfold psh
  rw [if_pos h, gD_app, List.length_eraseIdx, h, gD_del, if_neg (Nat.not_lt_zero i)]
  rfl
theorem psh_n {L : List AS} {A : AS} (h : L.length ≠ 8) (i : Nat) : (psh L A).getD i A0 = if i < L.length then L.getD i A0 else [A].getD (i - L.length) A0 := by
  unfold psh
  rw [if_neg h, gD_app]
theorem C_remember {A : AS} {T : Nat} {L : List AS} {S : SS} (hC : RC A (S 0)) (hI : Inv A T) (hH : CH L S) : ∃ S', F_X6_remember 0 S = some S' ∧ CH (psh L A) S' ∧ (∀ j, j < 3 → S' j = S j) ∧ ∀ p, p ≠ 7 → S' 11 p = S 11 p := by
  obtain ⟨h8, x, hx, q1, q2, q3⟩ := hH
  obtain ⟨c1, c2⟩ := C_copy (j := 3 + x) (j2 := 0) (by omega) hC hI
  have e11 : F_X5_copyFrom (3 + x) 0 S 11 = S 11 := c2 11 (by omega)
  generalize hS9 : F_X5_copyFrom (3 + x) 0 S = S9 at c1 c2 e11
  have hr : F_X6_remember 0 S = some (up S9 11 (up (S 11) 7 (sS (sS (S 11 7) 1 (nI ((x + 1) % 8))) 2 (nI (if L.length = 8 then 8 else L.length + 1))))) := by
    unfold F_X6_remember
    rw [q1, if_pos (by rw [Z_vpb (by omega)]; exact hx), nI_clamp (by omega), lt_d, hS9, lt_d]
    simp only [e11, q1, L1, L8, Z_add]
    have hz : (nI 8 ≤ nI (x + 1)) = (8 ≤ x + 1) := Z_le (by omega) (by omega)
    have hl : (nI 8 ≤ nI L.length) = (8 ≤ L.length) := Z_le (by omega) (by omega)
    have n2 : ∀ v : Int32, (sS (S 11 7) 1 v).1 2 = nI L.length := fun v => by rw [sS_1n (by decide)]; exact q2
    by_cases c : 8 ≤ x + 1
    · rw [if_pos (by rw [hz]; exact c)]
      have ex : (x + 1) % 8 = 0 := by omega
      simp only [lt_d, up_s, up_up, n2, ex, Z_add, L0]
      by_cases c2 : 8 ≤ L.length
      · rw [if_pos (by rw [hl]; exact c2), if_pos (by omega), show L.length = 8 by omega]
      · rw [if_neg (by rw [hl]; exact c2), if_neg (by omega)]
    · rw [if_neg (by rw [hz]; exact c)]
      have ex : (x + 1) % 8 = x + 1 := by omega
      simp only [lt_d, up_s, up_up, n2, ex, Z_add]
      by_cases c2 : 8 ≤ L.length
      · rw [if_pos (by rw [hl]; exact c2), if_pos (by omega), show L.length = 8 by omega]
      · rw [if_neg (by rw [hl]; exact c2), if_neg (by omega)]
  refine ⟨_, hr, ?_, fun j hj => ?_, fun p hp => ?_⟩
  · have hlen := psh_len (A := A) h8
    refine ⟨by rw [hlen]; split <;> omega, (x + 1) % 8, Nat.mod_lt _ (by decide), ?_, ?_, fun i hi => ?_⟩
    · rw [up_s, up_s, sS_1n (by decide), sS_1]
    · rw [up_s, up_s, sS_1, hlen]
    · have hlt := Nat.mod_lt ((x + 1) % 8 + 8 - (psh L A).length + i) (show 0 < 8 by decide)
      rw [up_n (by omega)]
      by_cases c : L.length = 8
      · rw [hlen, if_pos c] at hi ⊢
        rw [psh_8 c]
        by_cases c3 : i < 7
        · rw [if_pos c3]
          have := q3 (i + 1) (by omega)
          rw [show ((x + 1) % 8 + 8 - 8 + i) % 8 = (x + 8 - L.length + (i + 1)) % 8 by omega]
          rw [c2 _ (by omega)]
          exact this
        · rw [if_neg c3, show i - 7 = 0 by omega, show ((x + 1) % 8 + 8 - 8 + i) % 8 = x by omega]
          exact c1
      · rw [hlen, if_neg c] at hi ⊢
        rw [psh_n c]
        by_cases c3 : i < L.length
        · rw [if_pos c3]
          have := q3 i c3
          rw [show ((x + 1) % 8 + 8 - (L.length + 1) + i) % 8 = (x + 8 - L.length + i) % 8 by omega]
          rw [c2 _ (by omega)]
          exact this
        · rw [if_neg c3, show i - L.length = 0 by omega, show ((x + 1) % 8 + 8 - (L.length + 1) + i) % 8 = x by omega]
          exact c1
  · rw [up_n (by omega)]
    exact c2 j (by omega)
  · rw [up_s, up_n hp]
theorem M_keeps {A : AS} {T : Nat} {L : List AS} {t : HV} {a : Nat} (ha : a = 0 ∨ a = 2) (hM : RM A (t.2 a)) (hI : Inv A T) (h8 : L.length ≤ 8) (hH : MH L t) (hL : ∀ B ∈ L, Inv B T) {N : Nat} (hN : 6000 < N) : ∃ τ', F_X11_keeps N a t = some τ' ∧ MH (psh L A) τ' ∧ (∀ i, i ≠ 5 → τ'.1 i = t.1 i) ∧ ∀ b, b ≠ 4 → τ'.2 b = t.2 b := by
  obtain ⟨q1, q2⟩ := hH
  have hlen := psh_len (A := A) h8
  have hma : mlen a = 760 := by rcases ha with rfl | rfl <;> rfl
  have ha4 : a ≠ 4 := by omega
  unfold F_X11_keeps
  by_cases c : L.length = 8
  · rw [q1, c, if_pos (by decide), L0, show (nI 0, t) = (nI (0 + 0), t) from rfl]
    refine ⟨sS (sA t 4 (va_cpy (t.2 a) (va_cpy (t.2 4) (t.2 4) 760 0 5320) 0 5320 760)) 5 (nI 8), ?_, ⟨?_, fun i hi => ?_⟩, fun i hi => sS_1n hi, fun b hb => sA_2n hb⟩
    · refine lp_cpy (n := 5320) (c := 4) (d := 4) (from_ := 760) (to := 0) (j0 := 0) (t := t) (by omega) (fun _ => Or.inl (by omega)) (fun i t' hi e => ?_) (fun t' e => ?_)
      · show st_X11_keeps_11 N a (nI (0 + i)) t' = _
        unfold st_X11_keeps_11
        simp (disch := omega) only [L1, L760, L5320, L6080, Nat.zero_add, Z_le, Z_add, Z_vpb, Z_ag, Z_aw, if_neg, if_pos, lt_d, show 760 + i = i + 760 by omega]
      · subst e
        show st_X11_keeps_11 N a (nI (0 + 5320)) _ = _
        unfold st_X11_keeps_11
        have e5 : (sA t 4 (va_cpy (t.2 4) (t.2 4) 760 0 5320)).1 5 = nI 8 := q1.trans (by rw [c])
        rw [if_pos (by decide), e5, lt_d, sS_1, show (760 : Int32) * (nI 8 - 1) = nI 5320 by decide, L0, M_copies (by rw [hma]; decide) (by decide) ha4 (by omega), ob1_s, lt_d]
        have e6 : ∀ r, (sA (sS (sA t 4 (va_cpy (t.2 4) (t.2 4) 760 0 5320)) 5 (nI 8 - 1)) 4 r).1 5 = nI 8 - 1 := fun r => by rw [sA_1, sS_1]
        rw [e6, sS_2, sA_2n ha4, sA2s, show nI 8 - 1 + 1 = nI 8 by decide]
        show some (Sum.inr (up (up t.1 5 (nI 8 - 1)) 5 (nI 8), up (up t.2 4 _) 4 _)) = some (Sum.inr (up t.1 5 (nI 8), up t.2 4 _))
        rw [up_up, up_up]
    · rw [hlen, if_pos c]
      exact sS_1
    · rw [hlen, if_pos c] at hi
      rw [psh_8 c]
      show RM _ (fun k => (sA t 4 _).2 4 (760 * i + k))
      rw [sA2s]
      by_cases c3 : i < 7
      · rw [if_pos c3]
        refine RM_eq (q2 (i + 1) (by omega)) (hL _ (gD_mem (by omega))) (fun k hk => ?_)
        show va_cpy (t.2 a) _ 0 5320 760 (760 * i + k) = t.2 4 (760 * (i + 1) + k)
        rw [pk_cpy_out (by omega), pk_cpy_in (by omega) (by omega)]
        exact congrArg (t.2 4) (by omega)
      · rw [if_neg c3, show i - 7 = 0 by omega]
        refine RM_eq hM hI (fun k hk => ?_)
        show va_cpy (t.2 a) _ 0 5320 760 (760 * i + k) = t.2 a k
        rw [pk_cpy_in (by omega) (by omega)]
        exact congrArg (t.2 a) (by omega)
  · have hb : 760 * L.length + 760 ≤ 6080 := by omega
    rw [q1, if_neg (by rw [L8, Z_eq (by omega) (by omega)]; exact c), L760, Z_mul, L0, M_copies (by rw [hma]; decide) hb ha4 (by omega), ob1_s, lt_d]
    have e5 : ∀ r, (sA t 4 r).1 5 = nI L.length := fun r => q1
    rw [e5, L1, Z_add]
    refine ⟨_, rfl, ⟨?_, fun i hi => ?_⟩, fun i hi => sS_1n hi, fun b hb => sA_2n hb⟩
    · rw [hlen, if_neg c]
      exact sS_1
    · rw [hlen, if_neg c] at hi
      rw [psh_n c]
      show RM _ (fun k => (sA t 4 _).2 4 (760 * i + k))
      rw [sA2s]
      by_cases c3 : i < L.length
      · rw [if_pos c3]
        refine RM_eq (q2 i c3) (hL _ (gD_mem c3)) (fun k hk => ?_)
        show va_cpy (t.2 a) _ 0 (760 * L.length) 760 (760 * i + k) = t.2 4 (760 * i + k)
        rw [pk_cpy_out (by omega)]
      · rw [if_neg c3, show i - L.length = 0 by omega]
        refine RM_eq hM hI (fun k hk => ?_)
        show va_cpy (t.2 a) _ 0 (760 * L.length) 760 (760 * i + k) = t.2 a k
        rw [pk_cpy_in (by omega) (by omega)]
        exact congrArg (t.2 a) (by omega)
/-- of two lists that stand beside each other -/
theorem RLh_get {S : SS} {τ : HV} {T : Nat} (h : LR S τ T) : ∃ L, CH L S ∧ MH L τ ∧ ∀ B ∈ L, Inv B T := h.2.2.1
theorem M_tried {t : HV} {s : Nat → Int32} {N : Nat} (hN : 800 < N) : F_X11_tried N true (sA t 0 s) = some (true, sA (sA t 2 (va_cpy s (t.2 2) 0 0 760)) 0 s) := by
  unfold F_X11_tried
  rw [if_pos rfl, L0, M_copies (by decide) (by decide) (by decide) hN, ob1_s, sA2s, sA_2n (by decide), sA_co (by decide)]
theorem M_triedN {τ : HV} {N : Nat} : F_X11_tried N false τ = some (false, τ) := rfl
/-- an operation: what was before it is kept on both sides -/
theorem hand {S : SS} {t : HV} {s : Nat → Int32} {T : Nat} {A : AS} (h : LR S (sA t 0 s) T) (hC : RC A (S 0)) (hM : RM A s) (hI : Inv A T) {N : Nat} (hN : 6000 < N) : ∃ S4, F_X6_remember 0 S = some S4 ∧ S4 0 = S 0 ∧ (∀ p, p ≠ 7 → S4 11 p = S 11 p) ∧ ∀ (S' : SS) (B : AS) (T' : Nat) (t2 : HV) (s2 : Nat → Int32) (v : Bool), T ≤ T' → RS B T' (S' 0) s2 → (∀ j, j ≠ 0 → j ≠ 11 → S' j = S4 j) → (∀ p, p ≠ 4 → S' 11 p = S4 11 p) → (∀ i, i = 5 ∨ i = 7 ∨ i = 22 → t2.1 i = t.1 i) → (∀ a, a = 1 ∨ a = 4 ∨ a = 21 → t2.2 a = t.2 a) → (∀ k, k < 760 → t2.2 2 k = s k) → t2.1 6 = 0 → (∀ τ' : HV, (∀ i, i ≠ 5 → τ'.1 i = t2.1 i) → (∀ b, b ≠ 4 → b ≠ 0 → τ'.2 b = t2.2 b) → RLt S' τ') → ∃ τ', F_X11_done N v (sA t2 0 s2) = some (t2.1 8, τ') ∧ F_X11_thrown τ' = 0 ∧ LR S' τ' T' := by
  obtain ⟨L, hL1, hL2, hL3⟩ := RLh_get h
  obtain ⟨S4, e4, c4, f4, g4⟩ := C_remember hC hI hL1
  refine ⟨S4, e4, f4 0 (by decide), g4, fun S' B T' t2 s2 v hT hB o1 o2 n1 a1 k2 h6 ht => ?_⟩
  have hT2 : T' < 2 ^ 20 := hB.2.2.1
  have hMH : MH L (sA t2 0 s2) := MH_e hL2 (n1 5 (by omega)) (by rw [sA_2n (by decide), sA_2n (by decide), a1 4 (by omega)])
  obtain ⟨τ', e5, m5, n5, b5⟩ := M_keeps (a := 2) (Or.inr rfl) (t := sA t2 0 s2) (RM_eq hM hI (fun k hk => by rw [sA_2n (by decide)]; exact k2 k hk)) hI hL1.1 hMH hL3 hN
  refine ⟨τ', ?_, ?_, ⟨B, ?_⟩, ?_, ⟨psh L A, CH_e c4 (o2 7 (by decide)) (fun j h1 h2 => o1 j (by omega) (by omega)), m5, fun B hB => ?_⟩, ?_, ?_⟩
  · unfold F_X11_done
    rw [e5, ob1_s, n5 8 (by decide)]
    rfl
  · show τ'.1 6 = 0
    rw [n5 6 (by decide)]
    exact h6
  · rw [b5 0 (by decide), sA2s]
    exact hB
  · refine RLs_e h.2.1 hT hT2 ?_ ?_ ?_ ?_
    · rw [o2 6 (by decide), g4 6 (by decide)]
    · rw [o1 2 (by decide) (by decide), f4 2 (by decide)]
    · rw [n5 7 (by decide)]; exact n1 7 (by omega)
    · rw [b5 1 (by decide), sA_2n (by decide), sA_2n (by decide)]; exact a1 1 (by omega)
  · rcases psh_mem hB with q | q
    · exact Inv_up (hL3 B q) hT hT2
    · rw [q]; exact Inv_up hI hT hT2
  · exact ht τ' (fun i hi => n5 i hi) (fun b hb hb0 => by rw [b5 b hb, sA_2n hb0])
  · refine RLo_e h.2.2.2.2 ?_ ?_ ?_ ?_
    · rw [o2 6 (by decide), g4 6 (by decide)]
    · rw [o2 6 (by decide), g4 6 (by decide)]
    · rw [n5 22 (by decide)]; exact n1 22 (by omega)
    · rw [b5 21 (by decide), sA_2n (by decide), sA_2n (by decide)]; exact a1 21 (by omega)
/-! ===== taking back, saving ===== -/
theorem E58 {S : SS} {τ : HV} {T N : Nat} (h : LR S τ T) (hT : T < 2 ^ 20) (hN : 6000 < N) : rX (F_X10_undo S) (F_X11_undo N τ) T [(1, 1)] := by
  obtain ⟨L, ⟨h8, x, hx, q1, q2, q3⟩, ⟨m1, m2⟩, hL3⟩ := RLh_get h
  unfold F_X10_undo F_X11_undo
  rw [q2, m1]
  by_cases c : L.length = 0
  · refine Or.inr ⟨(1, 1), S, 0, sS τ 6 1, List.mem_singleton.mpr rfl, ?_, ?_, thr_6, LR_6 h 1 hT⟩
    · rw [c, if_pos (by decide)]
    · rw [c, if_pos (by decide), pas_f, lt2_d, if_neg Bool.false_ne_true]
  · have hx' : ∃ x', x' < 8 ∧ (x' + 1) % 8 = x ∧ nI x' = if nI x ≤ 0 then 7 else nI x - 1 := by
      by_cases c0 : x = 0
      · subst c0
        exact ⟨7, by decide, by decide, by decide⟩
      · refine ⟨x - 1, by omega, by omega, ?_⟩
        rw [if_neg (by rw [L0, Z_le (by omega) (by omega)]; omega), L1, Z_sub (by omega)]
    obtain ⟨x', hx1, hx2, hx3⟩ := hx'
    have hne : L.length - 1 < L.length := by omega
    have hlast := q3 (L.length - 1) hne
    have hIl : Inv (L.getD (L.length - 1) A0) T := hL3 _ (gD_mem hne)
    rw [show (x + 8 - L.length + (L.length - 1)) % 8 = x' by omega] at hlast
    have hS2 : ∀ S2 : SS, S2 = up S 11 (up (S 11) 7 (sS (sS (S 11 7) 1 (nI x')) 2 (nI (L.length - 1)))) → RC (L.getD (L.length - 1) A0) (S2 (3 + x')) := fun S2 e => by
      rw [e, up_n (by omega)]; exact hlast
    obtain ⟨c1, c2⟩ := C_copy (j := 0) (j2 := 3 + x') (by omega) (hS2 _ rfl) hIl
    have hr : F_X6_takeBack 0 S = some (F_X5_copyFrom 0 (3 + x') (up S 11 (up (S 11) 7 (sS (sS (S 11 7) 1 (nI x')) 2 (nI (L.length - 1)))))) := by
      unfold F_X6_takeBack
      rw [q1]
      have n2 : ∀ v : Int32, (sS (S 11 7) 1 v).1 2 = nI L.length := fun v => by rw [sS_1n (by decide)]; exact q2
      have n1 : ∀ v w : Int32, (sS (sS (S 11 7) 1 v) 2 w).1 1 = v := fun v w => by rw [sS_1n (by decide), sS_1]
      by_cases c0 : nI x ≤ 0
      · rw [if_pos c0] at hx3 ⊢
        simp (disch := omega) only [lt_d, up_s, up_up, n2, L1, Z_sub, ← hx3, n1]
        rw [if_pos (by rw [Z_vpb (by omega)]; exact hx1), nI_clamp (by omega)]
      · rw [if_neg c0] at hx3 ⊢
        simp (disch := omega) only [lt_d, up_s, up_up, n2, ← hx3, n1]
        rw [if_pos (by rw [Z_vpb (by omega)]; exact hx1), nI_clamp (by omega), L1, Z_sub (by omega)]
    generalize hS3 : F_X5_copyFrom 0 (3 + x') (up S 11 (up (S 11) 7 (sS (sS (S 11 7) 1 (nI x')) 2 (nI (L.length - 1))))) = S3 at c1 c2 hr
    have e11 : S3 11 = up (S 11) 7 (sS (sS (S 11 7) 1 (nI x')) 2 (nI (L.length - 1))) := by rw [c2 11 (by decide), up_s]
    have eo : ∀ j, j ≠ 0 → j ≠ 11 → S3 j = S j := fun j h1 h2 => by rw [c2 j h1, up_n h2]
    have hml := m2 (L.length - 1) hne
    refine Or.inl ⟨nI (L.length - 1), S3, sA (sS (sS τ 6 0) 5 (nI (L.length - 1))) 0 (va_cpy (τ.2 4) (τ.2 0) (760 * (L.length - 1)) 0 760), ?_, ?_, ?_, ⟨L.getD (L.length - 1) A0, c1, ?_, hIl⟩, ?_, ⟨L.dropLast, ⟨by rw [List.length_dropLast]; omega, x', hx1, ?_, ?_, fun i hi => ?_⟩, ⟨?_, fun i hi => ?_⟩, fun B hB => hL3 B (List.dropLast_subset L hB)⟩, ?_, ?_⟩
    · rw [if_neg (by rw [L0, Z_eq (by omega) (by omega)]; exact c), hr, ob1_s, e11, up_s, sS_1]
    · have e5 : (sS τ 6 0).1 5 = nI L.length := by rw [sS_1n (by decide)]; exact m1
      rw [if_neg (by rw [L0, Z_le (by omega) (by omega)]; omega), pas_t, lt2_d, if_pos rfl, e5, lt_d, sS_1, L1, Z_sub (by omega), L760, Z_mul, L0, M_copies (show 760 * (L.length - 1) + 760 ≤ 6080 by omega) (by decide) (by decide) (by omega), ob1_s]
      have e5' : ∀ r, (sA (sS (sS τ 6 (nI 0)) 5 (nI (L.length - 1))) 0 r).1 5 = nI (L.length - 1) := fun r => by rw [sA_1, sS_1]
      rw [e5']
      rfl
    · show (sS (sS τ 6 0) 5 (nI (L.length - 1))).1 6 = 0
      rw [sS_1n (by decide), sS_1]
    · rw [sA2s]
      refine RM_eq hml hIl (fun k hk => ?_)
      rw [pk_cpy_in (by omega) (by omega)]
      exact congrArg (τ.2 4) (by omega)
    · refine RLs_e h.2.1 (Nat.le_refl _) hT (by rw [e11, up_n (by decide)]) (eo 2 (by decide) (by decide)) ?_ (by rw [sA_2n (by decide)]; rfl)
      show (sS (sS τ 6 0) 5 (nI (L.length - 1))).1 7 = _
      rw [sS_1n (by decide), sS_1n (by decide)]
    · rw [e11, up_s, sS_1n (by decide), sS_1]
    · rw [e11, up_s, sS_1, List.length_dropLast]
    · rw [List.length_dropLast] at hi ⊢
      have hlt := Nat.mod_lt (x' + 8 - (L.length - 1) + i) (show 0 < 8 by decide)
      have := q3 i (by omega)
      rw [eo _ (by omega) (by omega), show (x' + 8 - (L.length - 1) + i) % 8 = (x + 8 - L.length + i) % 8 by omega]
      rw [List.getD_eq_getElem?_getD, List.getElem?_dropLast, if_pos (by omega), ← List.getD_eq_getElem?_getD]
      exact this
    · rw [List.length_dropLast, sA_1, sS_1]
    · rw [List.length_dropLast] at hi
      rw [List.getD_eq_getElem?_getD, List.getElem?_dropLast, if_pos (by omega), ← List.getD_eq_getElem?_getD, sA_2n (by decide)]
      exact m2 i (by omega)
    · refine RLt_e h.2.2.2.1 (by rw [e11, up_n (by decide)]) ?_ (by rw [sA_2n (by decide)]; rfl) ?_ ?_
      · show (sS (sS τ 6 0) 5 (nI (L.length - 1))).1 11 = _
        rw [sS_1n (by decide), sS_1n (by decide)]
      · show (sS (sS τ 6 0) 5 (nI (L.length - 1))).1 17 = _
        rw [sS_1n (by decide), sS_1n (by decide)]
      · show (sS (sS τ 6 0) 5 (nI (L.length - 1))).1 18 = _
        rw [sS_1n (by decide), sS_1n (by decide)]
    · refine RLo_e h.2.2.2.2 (by rw [e11, up_n (by decide)]) (by rw [e11, up_n (by decide)]) ?_ (by rw [sA_2n (by decide)]; rfl)
      show (sS (sS τ 6 0) 5 (nI (L.length - 1))).1 22 = _
      rw [sS_1n (by decide), sS_1n (by decide)]
