/-! ===== a day ends ===== -/
def opNext (A : AS) : AS := Sn A (up (up (Hn A) 6 (Hn A 6 + 1)) 7 (Hn A 1))
noncomputable def opD3 (A : AS) : AS := opNext (opGrow (wrAll (Hn A 6 % 2) (Hn A 7) (sift (fDel (1 - Hn A 6 % 2)) (Hl A) [] A)))
noncomputable def opDay (A : AS) : AS := if Hn (opD3 A) 6 % Hn (opD3 A) 4 = 0 then opInsp (opD3 A) else opD3 A
theorem wrAll_n {g : Nat} : ∀ (n : Nat) (A : AS) (i : Nat), i < 7 → Hn (wrAll g n A) i = Hn A i := by
  intro n
  induction n with
  | zero => intro A i _; rfl
  | succ n ih =>
    have hw : ∀ (B : AS) (i : Nat), i < 7 → Hn (act (opWr B g)) i = Hn B i := fun B i hi => by
      have h1 : Hn (act (opWr B g)) i = Hn (opWr B g) i := up_n (by omega)
      rw [h1]
      unfold opWr
      split <;> rfl
    intro A i hi
    unfold wrAll
    by_cases c : (Hp A g).2.2 ≠ []
    · rw [if_pos c, ih _ i hi, hw _ i hi]
    · rw [if_neg c]
      cases fStart (Hr A) (Hn A 0) ((Hq A g).getD 0 []).length with
      | none => rfl
      | some k =>
        show Hn (wrAll g n (act (opWr (opBeg A g k ((Hq A g).getD 0 [])) g))) i = _
        rw [ih _ i hi, hw _ i hi]
        rfl
theorem sift_n {f : AS → Msg → Option AS} (hf : ∀ A m B, f A m = some B → Hn B = Hn A) : ∀ (L K : List Msg) (A : AS), Hn (sift f L K A) = Hn A := by
  intro L
  induction L with
  | nil => intro K A; rfl
  | cons m L ih =>
    intro K A
    show Hn (match f A m with
      | some B => sift f L K (Sl B (K ++ L))
      | none => sift f L (K ++ [m]) A) = _
    cases e : f A m with
    | none => exact ih _ _
    | some B => exact (ih _ _).trans (show Hn (Sl B (K ++ L)) = Hn A from (hf A m B e : Hn B = Hn A))
theorem fDel_n {g : Nat} : ∀ A m B, fDel g A m = some B → Hn B = Hn A := by
  intro A m B h
  unfold fDel at h
  split at h
  · cases h; rfl
  · cases h
theorem fFail_n : ∀ A m B, fFail A m = some B → Hn B = Hn A := by
  intro A m B h
  unfold fFail at h
  split at h
  · cases h; exact opFail_n
  · cases h
theorem opFIP_n {A : AS} {g : Nat} : Hn (opFIP A g) = Hn A := by
  unfold opFIP
  split
  · exact opFail_n
  · rfl
theorem opInsp_n {A : AS} : Hn (opInsp A) = Hn A := by
  unfold opInsp
  rw [sift_n fFail_n, opFIP_n, opFIP_n]
  rfl
theorem opD3_n {A : AS} : Hn (opD3 A) 4 = Hn A 4 ∧ Hn (opD3 A) 6 = Hn A 6 + 1 := by
  have h4 : ∀ B, Hn (opNext (opGrow B)) 4 = Hn B 4 := fun B => by
    show up (up (Hn B) 6 (Hn B 6 + 1)) 7 (Hn B 1) 4 = Hn B 4
    rw [up_n (by decide), up_n (by decide)]
  have h6 : ∀ B, Hn (opNext (opGrow B)) 6 = Hn B 6 + 1 := fun B => by
    show up (up (Hn B) 6 (Hn B 6 + 1)) 7 (Hn B 1) 6 = Hn B 6 + 1
    rw [up_n (by decide), up_s]
  unfold opD3
  rw [h4, h6, wrAll_n _ _ 4 (by decide), wrAll_n _ _ 6 (by decide), sift_n fDel_n]
  exact ⟨rfl, rfl⟩
theorem Inv_next {A : AS} {T : Nat} (hI : Inv A T) (hT2 : T + 1 < 2 ^ 20) : Inv (opNext (opGrow A)) (T + 1) := by
  have bI := hI
  obtain ⟨hT, ⟨⟨b0, b0'⟩, ⟨b1, b1'⟩, b2, ⟨b3, b3'⟩, ⟨b4, b4'⟩, ⟨b5, b5'⟩, b6, b7⟩, hRw, hNs, hQu, hPr, hVm⟩ := id hI
  have e0 : ∀ i, i < 6 → Hn (opNext (opGrow A)) i = Hn A i := fun i hi => by
    show up (up (Hn A) 6 (Hn A 6 + 1)) 7 (Hn A 1) i = Hn A i
    rw [up_n (by omega), up_n (by omega)]
  have e6 : Hn (opNext (opGrow A)) 6 = Hn A 6 + 1 := by
    show up (up (Hn A) 6 (Hn A 6 + 1)) 7 (Hn A 1) 6 = Hn A 6 + 1
    rw [up_n (by decide), up_s]
  have e7 : Hn (opNext (opGrow A)) 7 = Hn A 1 := by
    show up (up (Hn A) 6 (Hn A 6 + 1)) 7 (Hn A 1) 7 = Hn A 1
    exact up_s
  have hg : growR (Hr A) (Hn A 2) = groR (Hr A) (Hn A 2) (Hn A 0) := by
    funext a k
    exact (groR_n hRw).symm
  have eR : Hr (opNext (opGrow A)) = groR (Hr A) (Hn A 2) (Hn A 0) := hg
  refine ⟨hT2, ?_, ?_, ?_, hQu, fun g hg' => ?_, ?_⟩
  · refine ⟨?_, ?_, ?_, ?_, ?_, ?_, ?_, ?_⟩
    · rw [e0 0 (by decide)]; exact ⟨b0, b0'⟩
    · rw [e0 1 (by decide)]; exact ⟨b1, b1'⟩
    · rw [e0 2 (by decide)]; exact b2
    · rw [e0 3 (by decide)]; exact ⟨b3, b3'⟩
    · rw [e0 4 (by decide)]; exact ⟨b4, b4'⟩
    · rw [e0 5 (by decide)]; exact ⟨b5, b5'⟩
    · rw [e6]; omega
    · rw [e7]; exact b1'
  · rw [eR, e0 0 (by decide), e6]
    exact groR_ok hRw b2
  · rw [e0 0 (by decide)]
    refine Nat.le_trans ?_ hNs
    have hle : ∀ n, cnt (nstB (growR (Hr A) (Hn A 2))) n ≤ cnt (nstB (Hr A)) n := by
      intro n
      induction n with
      | zero => exact Nat.le_refl _
      | succ n ih =>
        unfold cnt
        have e3 : growR (Hr A) (Hn A 2) 3 n = Hr A 3 n - 1 := rfl
        by_cases c : nstB (growR (Hr A) (Hn A 2)) n = true
        · have c2 : nstB (Hr A) n = true := by
            rw [nstB_t] at c ⊢
            omega
          rw [if_pos c, if_pos c2]
          omega
        · rw [if_neg c]
          split <;> omega
    exact hle _
  · refine ⟨(hPr g hg').1, fun h => ⟨((hPr g hg').2 h).1, fun x hx hx2 => ?_⟩⟩
    have h0 := ((hPr g hg').2 h).2 x hx hx2
    show growR (Hr A) (Hn A 2) 2 ((Hp A g).2.1 + x) = 0
    show (if 0 < Hr A 2 ((Hp A g).2.1 + x) then _ else 0) = 0
    rw [if_neg (by omega)]
  · rw [e0 0 (by decide)]
    exact vM_4 hVm (fun k => rfl)
theorem RC_next {A : AS} {h : Nat → HV} (hH : RC A h) : RC (opNext A) (up h 0 (sS (sS (h 0) 6 (nI (Hn A 6 + 1))) 7 (nI (Hn A 1)))) := by
  obtain ⟨⟨⟨h1, h2, h3⟩, h4⟩, h5⟩ := hH
  refine ⟨⟨?_, fun g hg => ?_⟩, ?_⟩
  · rw [up_s]
    exact ⟨RHn_set (RHn_set h1 _) _, RHc_oth (RHc_oth h2 _ (by decide)) _ (by decide), h3⟩
  · rw [up_n (by omega)]; exact h4 g hg
  · rw [up_n (by omega)]; exact h5
theorem Inv_sift {f : AS → Msg → Option AS} {T : Nat} (hf : ∀ A m K M B, Inv A T → Hl A = K ++ m :: M → f A m = some B → Inv (Sl B (K ++ M)) T) : ∀ (L K : List Msg) (A : AS), Inv A T → Hl A = K ++ L → Inv (sift f L K A) T := by
  intro L
  induction L with
  | nil => intro K A hI _; exact hI
  | cons m L ih =>
    intro K A hI hE
    show Inv (match f A m with
      | some B => sift f L K (Sl B (K ++ L))
      | none => sift f L (K ++ [m]) A) T
    cases e : f A m with
    | none => exact ih _ _ hI (by rw [hE, List.append_assoc]; rfl)
    | some B => exact ih _ _ (hf A m K L B hI hE e) rfl
theorem Inv_deliver {A : AS} {T g : Nat} (hI : Inv A T) : Inv (sift (fDel g) (Hl A) [] A) T := by
  refine Inv_sift (fun A m K M B hI hE e => ?_) (Hl A) [] A hI rfl
  unfold fDel at e
  split at e
  · cases e; exact Inv_del hI hE
  · cases e
theorem Inv_wrAll {T g : Nat} (hg : g < 2) : ∀ (n : Nat) (A : AS), Inv A T → Inv (wrAll g n A) T := by
  intro n
  induction n with
  | zero => intro A hI; exact hI
  | succ n ih =>
    intro A hI
    unfold wrAll
    by_cases c : (Hp A g).2.2 ≠ []
    · rw [if_pos c]
      exact ih _ (Inv_act (Inv_wr hI hg c))
    · rw [if_neg c]
      cases hf : fStart (Hr A) (Hn A 0) ((Hq A g).getD 0 []).length with
      | none => exact hI
      | some k =>
        obtain ⟨i1, i2, _⟩ := Inv_beg hI hg (Classical.byContradiction c) hf
        exact ih _ (Inv_act (Inv_wr i1 hg i2))
theorem C_day {A : AS} {T : Nat} {h : Nat → HV} (hH : RC A h) (hI : Inv A T) (hT2 : T + 1 < 2 ^ 20) {N : Nat} (hN : 40 < N) : ∃ h', F_X5_endOneDay N h = some h' ∧ RC (opDay A) h' ∧ Inv (opDay A) (T + 1) := by
  have h6 := hI.2.1.2.2.2.2.2.2.1
  have hg2 : Hn A 6 % 2 < 2 := Nat.mod_lt _ (by decide)
  have hac := C_active hH.1.1 hI
  obtain ⟨h1, e1, r1, i1⟩ := C_deliver hH hI (N := N) (g := 1 - Hn A 6 % 2) (by omega) hN
  have n1 := sift_n (f := fDel (1 - Hn A 6 % 2)) fDel_n (Hl A) [] A
  have hac2 := C_active r1.1.1 i1
  rw [n1] at hac2
  have h7 := i1.2.1.2.2.2.2.2.2.2
  obtain ⟨h2, e2, r2, i2⟩ := C_write (T := T) hg2 hN (Hn A 7) N _ h1 (by rw [n1] at h7; omega) r1 i1 (by rw [n1])
  obtain ⟨h3, e3, r3⟩ := C_grow r2 i2 hN
  have r4 := RC_next r3
  have i4 := Inv_next i2 hT2
  have e3' : ∀ i, i < 7 → Hn (opGrow (wrAll (Hn A 6 % 2) (Hn A 7) (sift (fDel (1 - Hn A 6 % 2)) (Hl A) [] A))) i = Hn A i := fun i hi => by
    show Hn (wrAll _ _ _) i = _
    rw [wrAll_n _ _ i hi, n1]
  have q6 : (h3 0).1 6 = nI (Hn A 6) := by rw [r3.1.1.1 6 (by decide), e3' 6 (by decide)]
  have q1 : (h3 0).1 1 = nI (Hn A 1) := by rw [r3.1.1.1 1 (by decide), e3' 1 (by decide)]
  have q4 : (h3 0).1 4 = nI (Hn A 4) := by rw [r3.1.1.1 4 (by decide), e3' 4 (by decide)]
  rw [e3' 6 (by decide), e3' 1 (by decide)] at r4
  have h4 := hI.2.1.2.2.2.2.1
  have hT := hI.1
  have r4' : RC (opD3 A) (up h3 0 (sS (sS (h3 0) 6 (nI (Hn A 6 + 1))) 7 (nI (Hn A 1)))) := r4
  have i4' : Inv (opD3 A) (T + 1) := i4
  have hstep : F_X5_endOneDay N h = if (Hn A 6 + 1) % Hn A 4 = 0 then (ob1 (F_X5_prune N (up h3 0 (sS (sS (h3 0) 6 (nI (Hn A 6 + 1))) 7 (nI (Hn A 1))))) fun h11 => (ob1 (F_X5_failInProgress N (nI 0) h11) fun h13 => (ob1 (F_X5_failInProgress N (nI 1) h13) fun h15 => (ob1 (F_X5_failPosted N h15) fun h17 => some h17)))) else some (up h3 0 (sS (sS (h3 0) 6 (nI (Hn A 6 + 1))) 7 (nI (Hn A 1)))) := by
    unfold F_X5_endOneDay
    rw [hac, L1, Z_sub (by omega), e1, ob1_s, hac2]
    have e2' : F_X5_writeLetters N (nI (Hn A 6 % 2)) h1 = some h2 := by
      unfold F_X5_writeLetters
      rw [Z_gsel hg2]
      exact e2
    rw [e2', ob1_s, e3, ob1_s]
    simp (disch := omega) only [lt_d, up_s, up_up, q6, Z_add, sS_1n, q1, q4, sS_1]
    have m4 : ∀ v w : Int32, (sS (sS (h3 0) 6 v) 7 w).1 4 = nI (Hn A 4) := fun v w => by rw [sS_1n (by decide), sS_1n (by decide)]; exact q4
    have m6 : ∀ v w : Int32, (sS (sS (h3 0) 6 v) 7 w).1 6 = v := fun v w => by rw [sS_1n (by decide), sS_1]
    have m1 : ∀ v : Int32, (sS (h3 0) 6 v).1 1 = nI (Hn A 1) := fun v => by rw [sS_1n (by decide)]; exact q1
    simp (disch := omega) only [L0, m4, m6, m1, Z_le, Z_eq, Z_rem, if_neg]
    by_cases c : (Hn A 6 + 1) % Hn A 4 = 0
    · rw [if_pos c, if_pos (by rw [c])]
    · have hlt := Nat.mod_lt (Hn A 6 + 1) (show 0 < Hn A 4 by omega)
      rw [if_neg c, if_neg (by rw [Z_eq (by omega) (by omega)]; exact c)]
  rw [hstep]
  unfold opDay
  rw [opD3_n.1, opD3_n.2]
  by_cases c : (Hn A 6 + 1) % Hn A 4 = 0
  · rw [if_pos c, if_pos c]
    obtain ⟨h5, e5, r5⟩ := C_prune r4' i4' hN
    have i5 : Inv (opPrune (opD3 A)) (T + 1) := Inv_pru i4' _
    obtain ⟨h6, e6, r6⟩ := C_fip r5 i5 (g := 0) (by decide) hN
    have i6 := Inv_fip (g := 0) i5 (by decide)
    obtain ⟨h7, e7, r7⟩ := C_fip r6 i6 (g := 1) (by decide) hN
    have i7 := Inv_fip (g := 1) i6 (by decide)
    obtain ⟨h8, e8, r8, i8⟩ := C_failPosted r7 i7 hN
    refine ⟨h8, ?_, r8, i8⟩
    rw [e5, ob1_s, e6, ob1_s, e7, ob1_s, e8, ob1_s]
  · rw [if_neg c, if_neg c]
    exact ⟨_, rfl, r4', i4'⟩
