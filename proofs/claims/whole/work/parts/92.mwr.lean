/-! ===== writing letters: the other side ===== -/
def mwTail (N : Nat) (a1 : Int32) (t : HV) : Option (Bool × (HV)) := (if vpb ((F_X11_progressOf a1) + 14) 760 = true then (if vpb ((F_X11_progressOf a1) + 13) 760 = true then (if vpb (((F_X11_progressOf a1) + 1) + (ag t 0 ((F_X11_progressOf a1) + 14))) 760 = true then (ob1 (F_X11_twigComes ((ag t 0 ((F_X11_progressOf a1) + 13)) + (ag t 0 ((F_X11_progressOf a1) + 14))) (ag t 0 (((F_X11_progressOf a1) + 1) + (ag t 0 ((F_X11_progressOf a1) + 14)))) a1 1 1 t) fun t6 => (if vpb ((F_X11_progressOf a1) + 14) 760 = true then (if vpb ((F_X11_progressOf a1) + 14) 760 = true then (lt (aw t6 0 ((F_X11_progressOf a1) + 14) ((ag t6 0 ((F_X11_progressOf a1) + 14)) + 1)) fun t9 => (if vpb ((F_X11_progressOf a1) + 14) 760 = true then (if vpb (F_X11_progressOf a1) 760 = true then (if (ag t9 0 ((F_X11_progressOf a1) + 14)) = (ag t9 0 (F_X11_progressOf a1)) then (ob1 (F_X11_posts N a1 t9) fun t13 => some (true, t13)) else some (true, t9)) else none) else none)) else none) else none)) else none) else none) else none)
theorem mw_eq {N : Nat} {a1 : Int32} {t : HV} : F_X11_writes N a1 t = (ob1 (F_X11_isInProgress a1 t) fun v1 => (if v1 = true then mwTail N a1 t else (ob1 (F_X11_startOfNext N a1 t) fun v14 => (if v14 = (-1) then some (false, t) else (ob1 (F_X11_begins N a1 v14 t) fun t16 => mwTail N a1 t16))))) := rfl
theorem M_isInProgress {P : Nat → Nat × Nat × List Nat} {t : HV} {s : Nat → Int32} {g : Nat} (hp : RMp P s) (hg : g < 2) (hl : (P g).2.2.length ≤ 12) : F_X11_isInProgress (nI g) (sA t 0 s) = some (decide ((P g).2.2 ≠ [])) := by
  unfold F_X11_isInProgress F_X11_progressOf
  simp (disch := omega) only [L0, L1, L2, L3, L4, L5, L6, L7, L8, L9, L10, L11, L12, L13, L14, L15, L16, L17, L18, L19, L20, L22, L24, L26, L30, L32, L39, L40, L42, L46, L48, L57, L59, L60, L61, L65, L97, L99, L122, L222, L255, L430, L460, L480, L760, L800, L5320, L6080, Z_vpb, Z_ag0, Z_aw0, Z_le, Z_lt, Z_eq, Z_add, Z_mul, if_pos, if_neg, ob1_s, ob_s, lt_d, lt2_d, (hp g hg).1]
  by_cases c : (P g).2.2 = []
  · rw [if_pos (by rw [c]; decide)]
    simp [c]
  · have := List.length_pos_iff.mpr c
    rw [if_neg (by omega)]
    simp [c]
theorem M_startOfNext {A : AS} {T : Nat} {t : HV} {s : Nat → Int32} (hM : RM A s) (hI : Inv A T) {g N : Nat} (hg : g < 2) (hN : 40 < N) : F_X11_startOfNext N (nI g) (sA t 0 s) = some (oI (fStart (Hr A) (Hn A 0) ((Hq A g).getD 0 []).length)) := by
  have h8 := (hI.2.2.2.2.1 g hg).1
  unfold F_X11_startOfNext F_X11_waitingAt
  simp (disch := omega) only [L0, L1, L2, L3, L4, L5, L6, L7, L8, L9, L10, L11, L12, L13, L14, L15, L16, L17, L18, L19, L20, L22, L24, L26, L30, L32, L39, L40, L42, L46, L48, L57, L59, L60, L61, L65, L97, L99, L122, L222, L255, L430, L460, L480, L760, L800, L5320, L6080, Z_vpb, Z_ag0, Z_aw0, Z_le, Z_lt, Z_eq, Z_add, Z_mul, if_pos, if_neg, ob1_s, ob_s, lt_d, lt2_d, hM.2.2.1.2 g hg]
  by_cases c : (Hq A g).length = 0
  · rw [if_pos c, gD_no (by omega)]
    rfl
  · have hw := Inv_qw hI hg (k := 0) (by omega)
    have h1 := (hM.2.2.2.2.1 g 0 hg (by omega)).1
    rw [if_neg c, h1, M_startFor hM hI hw.1 (by have := hw.2.1; omega) hN]
    rfl
theorem M_tw {R : Nat → Nat → Nat} {C : Nat → Int32} {t : HV} {s : Nat → Int32} (hR : RMr R s) (hC : RMc C s) {k c o l f : Nat} (hk : k < 40) (hl : 0 < l) (hf : f = if 0 < R 4 k then 1 else 0) : ∃ s', F_X11_twigComes (nI k) (nI c) (nI o) (nI l) (nI f) (sA t 0 s) = some (sA t 0 s') ∧ RMr (twR R k c o l) s' ∧ RMc (up C 0 (C 0 + 1)) s' ∧ ∀ j, j ≠ 8 → (j < 22 ∨ 222 ≤ j) → s' j = s j := by
  have h8 : s 8 = C 0 := hC.1 0 (by decide)
  refine ⟨upd (upd (upd (upd (upd s (22 + 5 * k + 0) (nI c)) (22 + 5 * k + 1) (nI o)) (22 + 5 * k + 2) (nI l)) (22 + 5 * k + 3) (nI f)) 8 (C 0 + 1), ?_, ?_, ?_, ?_⟩
  · unfold F_X11_twigComes
    simp (disch := omega) only [L0, L1, L2, L3, L8, L760, M_puts, ob1_s, Z_vpb, Z_ag0, Z_aw0, if_pos, lt_d, pk_un, h8]
  · intro a j ha hj
    rw [pk_un (by omega)]
    by_cases e : j = k
    · subst e
      have e0 : twR R j c o l 0 j = c := by unfold twR rowS; rw [if_neg (by omega), if_neg (by omega), if_pos (by omega)]
      have e1 : twR R j c o l 1 j = o := by unfold twR rowS; rw [if_neg (by omega), if_pos (by omega)]
      have e2 : twR R j c o l 2 j = l := by unfold twR rowS; rw [if_pos (by omega)]
      have e3 : twR R j c o l 3 j = R 3 j := twR_34 (by omega) j
      have e4 : twR R j c o l 4 j = R 4 j := twR_34 (by omega) j
      match a, ha with
      | 0, _ => rw [pk_un (by omega), pk_un (by omega), pk_un (by omega), pk_us, mLet_0, e0, e2, if_pos hl]
      | 1, _ => rw [pk_un (by omega), pk_un (by omega), pk_us, mLet_1, e1, e2, if_pos hl]
      | 2, _ => rw [pk_un (by omega), pk_us, mLet_2, e2]
      | 3, _ =>
        rw [pk_us, mLet_3, e2, e4, hf]
        by_cases q : 0 < R 4 j
        · rw [if_pos q, if_pos ⟨hl, q⟩]
        · rw [if_neg q, if_neg (fun z => q z.2)]
      | 4, _ => rw [pk_un (by omega), pk_un (by omega), pk_un (by omega), pk_un (by omega), mLet_4, e3]; exact hR 4 j (by decide) hj
    · rw [pk_un (by omega), pk_un (by omega), pk_un (by omega), pk_un (by omega), hR a j ha hj, mLet_eq (fun b _ => (twR_2n e b).symm) ha]
  · refine RMc_set3 (i := 0) (RMc_c hC (fun j h1 h2 _ _ _ => ?_)) (by decide) _
    rw [pk_un (by omega), pk_un (by omega), pk_un (by omega), pk_un (by omega)]
  · intro j h1 h2
    rw [pk_un h1, pk_un (by omega), pk_un (by omega), pk_un (by omega), pk_un (by omega)]
theorem M_waitsNoMore {q : Nat → List (List Nat)} {L : List Msg} {t : HV} {s : Nat → Int32} (hk : RMk q L s) (hq : RMq q s) (hQ : okQu q) {g m N : Nat} (hg : g < 2) (hm : m < (q g).length) (hN : 400 < N) : ∃ s', F_X11_waitsNoMore N (nI g) (nI m) (sA t 0 s) = some (sA t 0 s') ∧ RMk (up q g ((q g).eraseIdx m)) L s' ∧ RMq (up q g ((q g).eraseIdx m)) s' ∧ ∀ j, j ≠ 12 + g → (j < 222 ∨ 430 ≤ j) → s' j = s j := by
  have h8 := (hQ g hg).1
  have hlen : ((q g).eraseIdx m).length = (q g).length - 1 := by rw [List.length_eraseIdx, if_pos hm]
  have h12 := hk.2 g hg
  refine ⟨va_cpy s (upd s (12 + g) (nI ((q g).length - 1))) (222 + 13 * (8 * g + m) + 13) (222 + 13 * (8 * g + m)) (13 * ((q g).length - 1 - m)), ?_, ?_, ?_, ?_⟩
  · unfold F_X11_waitsNoMore F_X11_waitingAt
    simp (disch := omega) only [L1, L8, L12, L13, L222, L760, Z_vpb, Z_ag0, h12, Z_sub, Z_aw0, lt_d, if_pos, Z_add, Z_mul, pk_us]
    refine lp_cpy (n := 13 * ((q g).length - 1 - m)) (c := 0) (d := 0) (from_ := 222 + 13 * (8 * g + m) + 13) (to := 222 + 13 * (8 * g + m)) (j0 := 222 + 13 * (8 * g + m)) (t := sA t 0 (upd s (12 + g) (nI ((q g).length - 1)))) (by omega) (fun _ => Or.inl (by omega)) (fun i t' hi e => ?_) (fun t' e => ?_)
    · subst e
      rw [sA2s, sAA, sA2s]
      show st_X11_waitsNoMore_34 N (nI (222 + 13 * (8 * g + ((q g).length - 1)))) (nI (222 + 13 * (8 * g + m) + i)) (sA t 0 _) = _
      unfold st_X11_waitsNoMore_34
      simp (disch := omega) only [L1, L13, L760, Z_vpb, Z_ag0, Z_mul, Z_add, Z_le, if_pos, if_neg, lt_d, Z_aw0, sAA]
      rw [show 222 + 13 * (8 * g + m) + i + 13 = 222 + 13 * (8 * g + m) + 13 + i by omega]
    · subst e
      rw [sA2s, sAA]
      show st_X11_waitsNoMore_34 N (nI (222 + 13 * (8 * g + ((q g).length - 1)))) (nI (222 + 13 * (8 * g + m) + 13 * ((q g).length - 1 - m))) (sA t 0 _) = _
      unfold st_X11_waitsNoMore_34
      simp (disch := omega) only [Z_le, if_pos]
      congr 3
      funext j
      by_cases c : 222 + 13 * (8 * g + m) ≤ j ∧ j < 222 + 13 * (8 * g + m) + 13 * ((q g).length - 1 - m)
      · rw [pk_cpy_in c.1 c.2, pk_cpy_in c.1 c.2, pk_un (by omega)]
      · rw [pk_cpy_out (by omega), pk_cpy_out (by omega)]
  · refine ⟨?_, fun g' hg' => ?_⟩
    · rw [pk_cpy_out (by omega), pk_un (by omega)]; exact hk.1
    · rw [pk_cpy_out (by omega)]
      by_cases e : g' = g
      · subst e; rw [pk_us, up_s, hlen]
      · rw [pk_un (by omega), up_n e]; exact hk.2 g' hg'
  · intro g' k hg' hk'
    by_cases e : g' = g
    · subst e
      rw [up_s] at hk' ⊢
      rw [hlen] at hk'
      rw [gD_del]
      by_cases c : k < m
      · rw [if_pos c]
        have h9 := (hQ g' hg').2 _ (gD_mem (d := []) (show k < (q g').length by omega))
        have h10 := h9.2.1
        refine wAt_c (hq g' k hg' (by omega)) (fun j h1 h2 => ?_)
        rw [pk_cpy_out (by omega), pk_un (by omega)]
      · rw [if_neg c]
        have h9 := (hQ g' hg').2 _ (gD_mem (d := []) (show k + 1 < (q g').length by omega))
        have h10 := h9.2.1
        obtain ⟨q0, q1⟩ := hq g' (k + 1) hg' (by omega)
        have e : ∀ j, j < 13 → va_cpy s (upd s (12 + g') (nI ((q g').length - 1))) (222 + 13 * (8 * g' + m) + 13) (222 + 13 * (8 * g' + m)) (13 * ((q g').length - 1 - m)) (222 + 13 * (8 * g' + k) + j) = s (222 + 13 * (8 * g' + (k + 1)) + j) := fun j hj => by
          rw [pk_cpy_in (by omega) (by omega)]
          congr 1
          omega
        refine ⟨(e 0 (by omega)).trans q0, fun x hx => ?_⟩
        rw [Nat.add_assoc (222 + 13 * (8 * g' + k)), e (1 + x) (by omega)]
        exact (congrArg s (by omega)).trans (q1 x hx)
    · rw [up_n e] at hk' ⊢
      have h9 := (hQ g' hg').2 _ (gD_mem (d := []) hk')
      have h10 := h9.2.1
      have h11 := (hQ g' hg').1
      refine wAt_c (hq g' k hg' hk') (fun j h1 h2 => ?_)
      rw [pk_cpy_out (by omega), pk_un (by omega)]
  · intro j h1 h2
    rw [pk_cpy_out (by omega), pk_un h1]
theorem M_waits {q : Nat → List (List Nat)} {L : List Msg} {t : HV} {s : Nat → Int32} (hk : RMk q L s) (hq : RMq q s) (hQ : okQu q) {g p N : Nat} {w : List Nat} (hg : g < 2) (h8 : (q g).length < 8) (hp : 430 ≤ p) (hp2 : p + 13 < 760) (hw : wAt s p w) (hw2 : w.length ≤ 12) (hN : 400 < N) : ∃ s', F_X11_waits N (nI g) (nI p) (sA t 0 s) = some (sA t 0 s') ∧ RMk (up q g (q g ++ [w])) L s' ∧ RMq (up q g (q g ++ [w])) s' ∧ ∀ j, j ≠ 12 + g → (j < 222 ∨ 430 ≤ j) → s' j = s j := by
  have h12 := hk.2 g hg
  have hlen : (q g ++ [w]).length = (q g).length + 1 := by rw [List.length_append]; rfl
  refine ⟨upd (va_cpy s s p (222 + 13 * (8 * g + (q g).length)) 13) (12 + g) (nI ((q g).length + 1)), ?_, ?_, ?_, ?_⟩
  · unfold F_X11_waits F_X11_waitingAt
    simp (disch := omega) only [L0, L8, L12, L13, L222, L760, Z_vpb, Z_ag0, h12, lt_d, if_pos, Z_add, Z_mul]
    rw [show (nI 0, sA t 0 s) = (nI (0 + 0), sA t 0 s) from rfl]
    refine lp_cpy (n := 13) (c := 0) (d := 0) (from_ := p) (to := 222 + 13 * (8 * g + (q g).length)) (j0 := 0) (t := sA t 0 s) (by omega) (fun _ => Or.inl (by omega)) (fun i t' hi e => ?_) (fun t' e => ?_)
    · subst e
      rw [sA2s, sAA, sA2s]
      show st_X11_waits_17 N (nI g) (nI p) (nI (222 + 13 * (8 * g + (q g).length))) (nI (0 + i)) (sA t 0 _) = _
      unfold st_X11_waits_17
      simp (disch := omega) only [L1, L13, L760, Z_vpb, Z_ag0, Z_mul, Z_add, Z_le, if_pos, if_neg, lt_d, Z_aw0, sAA, Nat.zero_add]
    · subst e
      rw [sA2s, sAA]
      show st_X11_waits_17 N (nI g) (nI p) (nI (222 + 13 * (8 * g + (q g).length))) (nI (0 + 13)) (sA t 0 _) = _
      unfold st_X11_waits_17
      have e12 : va_cpy s s p (222 + 13 * (8 * g + (q g).length)) 13 (12 + g) = nI (q g).length := by rw [pk_cpy_out (by omega)]; exact h12
      simp (disch := omega) only [L1, L12, L13, L760, Z_vpb, Z_ag0, Z_mul, Z_add, Z_le, if_pos, lt_d, Z_aw0, e12, Nat.zero_add]
  · refine ⟨?_, fun g' hg' => ?_⟩
    · rw [pk_un (by omega), pk_cpy_out (by omega)]; exact hk.1
    · by_cases e : g' = g
      · subst e; rw [pk_us, up_s, hlen]
      · rw [pk_un (by omega), pk_cpy_out (by omega), up_n e]; exact hk.2 g' hg'
  · intro g' k hg' hk'
    by_cases e : g' = g
    · subst e
      rw [up_s] at hk' ⊢
      rw [hlen] at hk'
      rw [gD_app]
      by_cases c : k < (q g').length
      · rw [if_pos c]
        have h9 := (hQ g' hg').2 _ (gD_mem (d := []) c)
        have h10 := h9.2.1
        refine wAt_c (hq g' k hg' c) (fun j h1 h2 => ?_)
        rw [pk_un (by omega), pk_cpy_out (by omega)]
      · have ek : k = (q g').length := by omega
        subst ek
        rw [if_neg c, Nat.sub_self]
        show wAt _ _ w
        have e : ∀ j, j < 13 → upd (va_cpy s s p (222 + 13 * (8 * g' + (q g').length)) 13) (12 + g') (nI ((q g').length + 1)) (222 + 13 * (8 * g' + (q g').length) + j) = s (p + j) := fun j hj => by
          rw [pk_un (by omega), pk_cpy_in (by omega) (by omega)]
          congr 1
          omega
        refine ⟨(e 0 (by omega)).trans hw.1, fun x hx => ?_⟩
        rw [Nat.add_assoc (222 + 13 * (8 * g' + (q g').length)), e (1 + x) (by omega)]
        exact (congrArg s (by omega)).trans (hw.2 x hx)
    · rw [up_n e] at hk' ⊢
      have h9 := (hQ g' hg').2 _ (gD_mem (d := []) hk')
      have h10 := h9.2.1
      have h11 := (hQ g' hg').1
      refine wAt_c (hq g' k hg' hk') (fun j h1 h2 => ?_)
      rw [pk_un (by omega), pk_cpy_out (by omega)]
  · intro j h1 h2
    rw [pk_un h1, pk_cpy_out (by omega)]
