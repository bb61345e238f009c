/-! ===== the least work limit: who has no message left gets none ===== -/
def noM (A : AS) (g : Nat) : Prop := Hq A g = [] ∧ Hp A g = bare ∧ ∀ m ∈ Hl A, m.1 ≠ g
theorem cnt_0 {p : Nat → Bool} : ∀ {n : Nat}, cnt p n = 0 → ∀ k, k < n → p k = false := by
  intro n
  induction n with
  | zero => intro _ k hk; exact absurd hk (Nat.not_lt_zero k)
  | succ n ih =>
    intro h k hk
    rw [cnt_s] at h
    have h1 : cnt p n = 0 := by omega
    by_cases e : k = n
    · subst e
      cases c : p k with
      | false => rfl
      | true => rw [c] at h; simp at h
    · exact ih h1 k (by omega)
theorem cnt_no {p : Nat → Bool} {n : Nat} (h : ∀ k, k < n → p k = false) : cnt p n = 0 := by
  induction n with
  | zero => rfl
  | succ n ih =>
    rw [cnt_s, ih (fun k hk => h k (by omega)), h n (by omega)]
    rfl
theorem hmB_f {A : AS} {T g : Nat} (hI : Inv A T) (hg : g < 2) : (hmB A g = false) ↔ noM A g := by
  unfold hmB noM
  rw [decide_eq_false_iff_not]
  constructor
  · intro h
    have h1 : ¬ 0 < (Hq A g).length := fun q => h (Or.inl q)
    have h2 : (Hp A g).2.2 = [] := Classical.byContradiction (fun q => h (Or.inr (Or.inl q)))
    have h3 : cnt (pstB A g) (Hl A).length = 0 := by
      by_cases c : 0 < cnt (pstB A g) (Hl A).length
      · exact absurd (Or.inr (Or.inr c)) h
      · omega
    refine ⟨List.eq_nil_of_length_eq_zero (by omega), (hI.2.2.2.2.2.1 g hg).1 h2, fun m hm e => ?_⟩
    obtain ⟨k, hk, hk2⟩ := gD_of (d := bare) hm
    have h4 := cnt_0 h3 k hk
    have h5 : pstB A g k = true := by rw [pstB_t, hk2]; exact e
    rw [h4] at h5
    cases h5
  · rintro ⟨h1, h2, h3⟩ (q | q | q)
    · rw [h1] at q; exact absurd q (Nat.not_lt_zero 0)
    · rw [h2] at q; exact q rfl
    · rw [cnt_no (fun k hk => ?_)] at q
      · exact absurd q (Nat.not_lt_zero 0)
      · unfold pstB
        exact decide_eq_false (h3 _ (gD_mem hk))
theorem noM_e {A B : AS} {g : Nat} (h : noM A g) (e1 : Hq B g = Hq A g) (e2 : Hp B g = Hp A g) (e3 : Hl B = Hl A) : noM B g := ⟨e1.trans h.1, e2.trans h.2.1, by rw [e3]; exact h.2.2⟩
theorem noM_sift {f : AS → Msg → Option AS} {g : Nat} (hf : ∀ A m B, f A m = some B → m.1 ≠ g → Hq B g = Hq A g ∧ Hp B g = Hp A g) : ∀ (L K : List Msg) (A : AS), Hl A = K ++ L → noM A g → noM (sift f L K A) g := by
  intro L
  induction L with
  | nil => intro K A _ h; exact h
  | cons m L ih =>
    intro K A hE h
    show noM (match f A m with
      | some B => sift f L K (Sl B (K ++ L))
      | none => sift f L (K ++ [m]) A) g
    cases e : f A m with
    | none => exact ih _ _ (by rw [hE, List.append_assoc]; rfl) h
    | some B =>
      have hm : m.1 ≠ g := h.2.2 m (by rw [hE]; exact List.mem_append_right _ List.mem_cons_self)
      obtain ⟨q1, q2⟩ := hf A m B e hm
      refine ih _ _ rfl ⟨?_, ?_, ?_⟩
      · exact (q1.trans h.1 : Hq B g = [])
      · exact (q2.trans h.2.1 : Hp B g = bare)
      · intro m' hm'
        refine h.2.2 m' ?_
        rw [hE]
        rcases List.mem_append.mp (show m' ∈ K ++ L from hm') with q | q
        · exact List.mem_append_left _ q
        · exact List.mem_append_right _ (List.mem_cons_of_mem _ q)
theorem noM_wr {A : AS} {g g' : Nat} (h : noM A g) (hne : g ≠ g') : noM (act (opWr A g')) g := by
  have e : noM (opWr A g') g := by
    unfold opWr
    split
    · refine ⟨h.1, ?_, h.2.2⟩
      show up (Hp A) g' _ g = bare
      rw [up_n hne]
      exact h.2.1
    · refine ⟨h.1, ?_, fun m hm => ?_⟩
      · show up (Hp A) g' _ g = bare
        rw [up_n hne]
        exact h.2.1
      · rcases List.mem_append.mp (show m ∈ Hl A ++ [(g', (Hp A g').2.1, (Hp A g').2.2)] from hm) with q | q
        · exact h.2.2 m q
        · rw [List.mem_singleton.mp q]
          exact fun q => hne q.symm
  exact e
theorem noM_beg {A : AS} {g g' k : Nat} {w : List Nat} (h : noM A g) (hne : g ≠ g') : noM (opBeg A g' k w) g := by
  refine ⟨?_, ?_, h.2.2⟩
  · show up (Hq A) g' _ g = []
    rw [up_n hne]
    exact h.1
  · show up (Hp A) g' _ g = bare
    rw [up_n hne]
    exact h.2.1
theorem noM_wrAll {g g' : Nat} : ∀ (n : Nat) (A : AS), noM A g → noM (wrAll g' n A) g := by
  intro n
  induction n with
  | zero => intro A h; exact h
  | succ n ih =>
    intro A h
    unfold wrAll
    by_cases e : g = g'
    · subst e
      rw [if_neg (by rw [h.2.1]; exact fun q => q rfl), h.1]
      have hz : fStart (Hr A) (Hn A 0) ((([] : List (List Nat)).getD 0 [])).length = none := if_pos rfl
      rw [hz]
      exact h
    · by_cases c : (Hp A g').2.2 ≠ []
      · rw [if_pos c]; exact ih _ (noM_wr h e)
      · rw [if_neg c]
        cases fStart (Hr A) (Hn A 0) ((Hq A g').getD 0 []).length with
        | none => exact h
        | some k => exact ih _ (noM_wr (noM_beg h e) e)
theorem opFail_qn {A : AS} {m : Msg} {g : Nat} (h : m.1 ≠ g) : Hq (opFail A m) g = Hq A g := by
  show Hq (opF2 A m.1 m.2.2) g = _
  unfold opF2
  split
  · show up (Hq A) m.1 _ g = _
    rw [up_n (fun q => h q.symm)]
  · rfl
theorem noM_fip {A : AS} {g g' : Nat} (h : noM A g) : noM (opFIP A g') g := by
  unfold opFIP
  by_cases e : g = g'
  · subst e
    rw [if_neg (by rw [h.2.1]; exact Bool.false_ne_true)]
    exact h
  · split
    · refine noM_e h (opFail_qn (fun q => e q.symm)) ?_ opFail_l
      show up (Hp A) g' bare g = _
      rw [up_n e]
    · exact h
theorem noM_day {A : AS} {g : Nat} (h : noM A g) : noM (opDay A) g := by
  have h1 : noM (sift (fDel (1 - Hn A 6 % 2)) (Hl A) [] A) g := noM_sift (fun A m B e hm => by
    unfold fDel at e
    split at e
    · cases e; exact ⟨rfl, rfl⟩
    · cases e) _ _ _ rfl h
  have h2 : noM (opD3 A) g := noM_e (noM_wrAll (g' := Hn A 6 % 2) (Hn A 7) _ h1) rfl rfl rfl
  unfold opDay
  split
  · unfold opInsp
    have h3 : noM (opPrune (opD3 A)) g := noM_e h2 rfl rfl rfl
    refine noM_sift (fun A m B e hm => ?_) _ _ _ rfl (noM_fip (noM_fip h3))
    unfold fFail at e
    split at e
    · cases e
      exact ⟨opFail_qn hm, by rw [opFail_p]⟩
    · cases e
  · exact h2
theorem noM_days {A : AS} {g : Nat} {i : Nat} (h : noM (days i A) g) : ∀ n, i ≤ n → noM (days n A) g := by
  intro n
  induction n with
  | zero => intro hn; have : i = 0 := by omega
            subst this; exact h
  | succ n ih =>
    intro hn
    by_cases e : i = n + 1
    · rw [← e]; exact h
    · exact noM_day (ih (by omega))
theorem C_hasM {A : AS} {T : Nat} {h : Nat → HV} (hH : RC A h) (hI : Inv A T) {N g : Nat} (hg : g < 2) (hN : 40 < N) : F_X5_hasMessages N (nI g) h = some (hmB A g) := by
  have bI := hI
  obtain ⟨hT, ⟨⟨b0, b0'⟩, ⟨b1, b1'⟩, b2, ⟨b3, b3'⟩, ⟨b4, b4'⟩, ⟨b5, b5'⟩, b6, b7⟩, hRw, hNs, hQu, hPr, hVm⟩ := id hI
  have hG := hH.1.2 g hg
  have q8 := (hQu g hg).1
  have hL := Inv_l bI
  have hcl := cnt_le (pstB A g) (Hl A).length
  unfold F_X5_hasMessages hmB
  rw [Z_gsel hg, hG.2.2.1, C_countOf hH.2 bI hg hN, ob1_s]
  simp (disch := omega) only [L0, Z_lt, Z_le, C_isWriting hG (Inv_pl bI hg).1]
  by_cases c1 : 0 < (Hq A g).length
  · rw [if_pos c1, decide_eq_true (Or.inl c1)]
  · rw [if_neg c1]
    by_cases c2 : (Hp A g).2.2 ≠ []
    · rw [if_pos c2, decide_eq_true (Or.inr (Or.inl c2))]
    · rw [if_neg c2]
      by_cases c3 : 0 < cnt (pstB A g) (Hl A).length
      · rw [if_neg (by omega), decide_eq_true (Or.inr (Or.inr c3))]
      · rw [if_pos (by omega), decide_eq_false (fun q => by rcases q with q | q | q <;> contradiction)]
def limA (A : AS) (l : Nat) : AS := Sn A (up (Hn A) 1 l)
theorem Inv_lim {A : AS} {T l : Nat} (hI : Inv A T) (h1 : 1 ≤ l) (h2 : l ≤ 12) : Inv (limA A l) T := by
  have bI := hI
  obtain ⟨hT, ⟨⟨b0, b0'⟩, ⟨b1, b1'⟩, b2, ⟨b3, b3'⟩, ⟨b4, b4'⟩, ⟨b5, b5'⟩, b6, b7⟩, hRw, hNs, hQu, hPr, hVm⟩ := id hI
  have e : ∀ i, i ≠ 1 → Hn (limA A l) i = Hn A i := fun i hi => up_n hi
  have e1 : Hn (limA A l) 1 = l := (up_s : up (Hn A) 1 l 1 = l)
  refine ⟨hT, ?_, ?_, ?_, hQu, hPr, ?_⟩
  · unfold okNu
    rw [e1, e 0 (by decide), e 2 (by decide), e 3 (by decide), e 4 (by decide), e 5 (by decide), e 6 (by decide), e 7 (by decide)]
    exact ⟨⟨b0, b0'⟩, ⟨h1, h2⟩, b2, ⟨b3, b3'⟩, ⟨b4, b4'⟩, ⟨b5, b5'⟩, b6, b7⟩
  · rw [e 0 (by decide), e 6 (by decide)]; exact hRw
  · rw [e 0 (by decide)]; exact hNs
  · rw [e 0 (by decide)]; exact hVm
noncomputable def sufB (A : AS) (g n l : Nat) : Bool := !hmB (days n (limA A l)) g
theorem C_suf {A : AS} {T : Nat} {S : SS} (hC : RC A (S 0)) (hI : Inv A T) {N g n l : Nat} (hg : g < 2) (hn : n ≤ 60) (h1 : 1 ≤ l) (h2 : l ≤ 12) (hT2 : T + n < 2 ^ 20) (hN : 400 < N) : ∃ S', F_X10_suffices N (nI l) (nI g) (nI n) S = some (sufB A g n l, S') ∧ ∀ j, j ≠ 1 → S' j = S j := by
  obtain ⟨c1, c2⟩ := C_copy (j := 1) (j2 := 0) (by decide) hC hI
  unfold F_X10_suffices
  rw [lt_d, lt_d]
  generalize F_X5_copyFrom 1 0 S = S1 at c1 c2
  have hl := Inv_lim hI h1 h2
  have key := lpN_upx (f := fun z => st_X10_suffices_22 N (nI g) (nI n) z.1 z.2) (fun i (x : Int32 × SS) => x.1 = nI i ∧ RC (days i (limA A l)) (x.2 1) ∧ ∀ j, j ≠ 1 → x.2 j = S j) (fun r => ∃ S', r = (sufB A g n l, S') ∧ ∀ j, j ≠ 1 → S' j = S j) (n := n) (N := N) (x0 := (0, up S1 1 (up (S1 1) 0 (sS (S1 1 0) 1 (nI l))))) (by omega) ⟨rfl, ?_, fun j hj => ?_⟩ (fun i x hi hP => ?_) (fun x hP => ?_)
  · obtain ⟨r, e, S', rfl, o⟩ := key
    exact ⟨S', e, o⟩
  · show RC (limA A l) (up S1 1 (up (S1 1) 0 (sS (S1 1 0) 1 (nI l))) 1)
    rw [up_s]
    obtain ⟨⟨⟨q1, q2, q3⟩, q4⟩, q5⟩ := c1
    refine ⟨⟨?_, fun g hg => ?_⟩, ?_⟩
    · rw [up_s]
      exact ⟨RHn_set q1 l, RHc_oth q2 _ (by decide), q3⟩
    · rw [up_n (by omega)]; exact q4 g hg
    · rw [up_n (by omega)]; exact q5
  · show up S1 1 _ j = _
    rw [up_n hj]
    exact c2 j hj
  · obtain ⟨x1, x2⟩ := x
    obtain ⟨e1, r1, f1⟩ := hP
    dsimp only at e1 r1 f1
    cases e1
    have i1 := Inv_days hl i (by omega)
    have hm := C_hasM r1 i1 (N := N) hg (by omega)
    cases c : hmB (days i (limA A l)) g with
    | true =>
      obtain ⟨h2', e2, r2, i2⟩ := C_day r1 i1 (by omega) (N := N) (by omega)
      refine Or.inl ⟨(nI (i + 1), up x2 1 h2'), ?_, rfl, ?_, fun j hj => ?_⟩
      · show st_X10_suffices_22 N (nI g) (nI n) (nI i) x2 = _
        unfold st_X10_suffices_22
        rw [hm, c]
        simp (disch := omega) only [L1, Z_le, Z_add, if_neg, e2, ob1_s, lt_d, ↓reduceIte]
      · show RC _ (up x2 1 h2' 1)
        rw [up_s]
        exact r2
      · show up x2 1 h2' j = _
        rw [up_n hj]
        exact f1 j hj
    | false =>
      have hno : noM (days n (limA A l)) g := noM_days ((hmB_f i1 hg).mp c) n (by omega)
      have hfin : sufB A g n l = true := by
        unfold sufB
        rw [(hmB_f (Inv_days hl n (by omega)) hg).mpr hno]
        rfl
      refine Or.inr ⟨(true, x2), ?_, x2, by rw [hfin], f1⟩
      show st_X10_suffices_22 N (nI g) (nI n) (nI i) x2 = _
      unfold st_X10_suffices_22
      rw [hm, c]
      simp (disch := omega) only [Z_le, if_neg, ob1_s, Bool.false_eq_true, ↓reduceIte]
  · obtain ⟨x1, x2⟩ := x
    obtain ⟨e1, r1, f1⟩ := hP
    dsimp only at e1 r1 f1
    cases e1
    have i1 := Inv_days hl n (by omega)
    have hm := C_hasM r1 i1 (N := N) hg (by omega)
    refine ⟨(sufB A g n l, x2), ?_, x2, rfl, f1⟩
    show st_X10_suffices_22 N (nI g) (nI n) (nI n) x2 = _
    unfold st_X10_suffices_22 sufB
    rw [hm]
    cases c : hmB (days n (limA A l)) g with
    | true => simp (disch := omega) only [Z_le, if_pos, ob1_s, ↓reduceIte, Bool.not_true]
    | false => simp (disch := omega) only [Z_le, if_pos, ob1_s, Bool.false_eq_true, ↓reduceIte, Bool.not_false]
theorem RM_lim {A : AS} {T : Nat} {s : Nat → Int32} (hM : RM A s) (hI : Inv A T) (l : Nat) : RM (limA A l) (upd s 1 (nI l)) := by
  obtain ⟨h1, h2, h3, h4, h5, h6, h7⟩ := hM
  exact ⟨RMf_set h1 _, RMc_c h2 (fun j a b _ _ _ => pk_un (by omega)), RMk_c h3 (fun j a b => pk_un (by omega)), RMr_c h4 (fun j a b => pk_un (by omega)), RMq_c h5 hI.2.2.2.2.1 (fun j a b => pk_un (by omega)), RMp_c h6 (fun g hg => (Inv_pl hI hg).1) (fun j a b => pk_un (by omega)), (show RMl (Hl A) _ from RMl_c h7 (RMl_ok hI) (fun j a b => pk_un (by omega)))⟩
noncomputable def lwR (A : AS) (g n : Nat) : Int32 := oI (fstF (sufB A g n) 12 1)
