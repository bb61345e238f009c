/-! ===== vfact: what the acts ask of the days and of the nests ===== -/
theorem days_s {n : Nat} {A : AS} : days (n + 1) A = opDay (days n A) := rfl
theorem D3_n {A : AS} {i : Nat} (h : i < 6) : Hn (opD3 A) i = Hn A i := by
  have e : Hn (opD3 A) i = Hn (wrAll (Hn A 6 % 2) (Hn A 7) (sift (fDel (1 - Hn A 6 % 2)) (Hl A) [] A)) i := by
    unfold opD3 opNext
    show up (up _ 6 _) 7 _ i = _
    rw [up_n (by omega), up_n (by omega)]
    rfl
  rw [e, wrAll_n _ _ i (by omega), sift_n fDel_n]
theorem nx_6 {B : AS} : Hn (opNext B) 6 = Hn B 6 + 1 := by
  show up (up (Hn B) 6 (Hn B 6 + 1)) 7 (Hn B 1) 6 = _
  rw [up_n (by decide), up_s]
theorem D3_6 {A : AS} : Hn (opD3 A) 6 = Hn A 6 + 1 := by
  have e : Hn (opD3 A) 6 = Hn (wrAll (Hn A 6 % 2) (Hn A 7) (sift (fDel (1 - Hn A 6 % 2)) (Hl A) [] A)) 6 + 1 := by
    unfold opD3
    exact nx_6
  rw [e, wrAll_n _ _ 6 (by omega), sift_n fDel_n]
theorem insp_n {A : AS} : Hn (opInsp A) = Hn A := by
  unfold opInsp
  rw [sift_n fFail_n, opFIP_n, opFIP_n]
  rfl
theorem day_n {A : AS} {i : Nat} (h : i < 6) : Hn (opDay A) i = Hn A i := by
  unfold opDay
  split
  · rw [insp_n, D3_n h]
  · exact D3_n h
theorem day_6 {A : AS} : Hn (opDay A) 6 = Hn A 6 + 1 := by
  unfold opDay
  split
  · rw [insp_n, D3_6]
  · exact D3_6
theorem days_n {A : AS} {i : Nat} (h : i < 6) : ∀ n, Hn (days n A) i = Hn A i := by
  intro n
  induction n with
  | zero => rfl
  | succ n ih => rw [days_s, day_n h, ih]
theorem days_6 {A : AS} : ∀ n, Hn (days n A) 6 = Hn A 6 + n := by
  intro n
  induction n with
  | zero => rfl
  | succ n ih => rw [days_s, day_6, ih]; rfl
/-! the pruned are counted at inspections alone -/
theorem sift_c {f : AS → Msg → Option AS} {i : Nat} (hf : ∀ A m B, f A m = some B → Hc B i = Hc A i) : ∀ (L K : List Msg) (A : AS), Hc (sift f L K A) i = Hc A i := by
  intro L
  induction L with
  | nil => intro K A; rfl
  | cons m L ih =>
    intro K A
    show Hc (match f A m with
      | some B => sift f L K (Sl B (K ++ L))
      | none => sift f L (K ++ [m]) A) i = _
    cases e : f A m with
    | none => exact ih _ _
    | some B => exact (ih _ _).trans (show Hc (Sl B (K ++ L)) i = Hc A i from (hf A m B e : Hc B i = Hc A i))
theorem wrAll_c {g : Nat} : ∀ (n : Nat) (A : AS), Hc (wrAll g n A) 1 = Hc A 1 := by
  intro n
  induction n with
  | zero => intro A; rfl
  | succ n ih =>
    have hw : ∀ (B : AS), Hc (act (opWr B g)) 1 = Hc B 1 := fun B => by
      have h1 : Hc (act (opWr B g)) 1 = Hc (opWr B g) 1 := rfl
      rw [h1]
      unfold opWr
      split
      · exact up_n (f := Hc B) (v := Hc B 0 + 1) (show (1 : Nat) ≠ 0 by decide)
      · exact up_n (f := Hc B) (v := Hc B 0 + 1) (show (1 : Nat) ≠ 0 by decide)
    intro A
    unfold wrAll
    by_cases c : (Hp A g).2.2 ≠ []
    · rw [if_pos c, ih _, hw _]
    · rw [if_neg c]
      cases fStart (Hr A) (Hn A 0) ((Hq A g).getD 0 []).length with
      | none => rfl
      | some k =>
        show Hc (wrAll g n (act (opWr (opBeg A g k ((Hq A g).getD 0 [])) g))) 1 = _
        rw [ih _, hw _]
        rfl
theorem fDel_c {g : Nat} (A : AS) (m : Msg) (B : AS) (h : fDel g A m = some B) (hg : 1 < 12 + m.1) : Hc B 1 = Hc A 1 := by
  unfold fDel at h
  split at h
  · cases h
    unfold opDel
    exact up_n (f := Hc A) (by omega)
  · cases h
theorem D3_c {A : AS} : Hc (opD3 A) 1 = Hc A 1 := by
  have e : Hc (opD3 A) 1 = Hc (wrAll (Hn A 6 % 2) (Hn A 7) (sift (fDel (1 - Hn A 6 % 2)) (Hl A) [] A)) 1 := rfl
  rw [e, wrAll_c, sift_c (fun A m B h => fDel_c A m B h (by omega))]
theorem days_c {A : AS} {T : Nat} (hI : Inv A T) : ∀ n, n < Hn A 4 - Hn A 6 % Hn A 4 → Hc (days n A) 1 = Hc A 1 := by
  intro n
  have b4 := hI.2.1.2.2.2.2.1
  induction n with
  | zero => intro _; rfl
  | succ n ih =>
    intro h
    rw [days_s, ← ih (by omega)]
    unfold opDay
    rw [if_neg, D3_c]
    rw [D3_6, D3_n (i := 4) (by decide), days_n (i := 4) (by decide), days_6]
    intro e
    have h1 := Nat.mod_lt (Hn A 6) (show 0 < Hn A 4 by omega)
    have h2 : (Hn A 6 + n + 1) % Hn A 4 = (Hn A 6 % Hn A 4 + (n + 1)) % Hn A 4 := by rw [Nat.mod_add_mod]; rfl
    rw [h2, Nat.mod_eq_of_lt (by omega)] at e
    omega
/-! the first day without a twig -/
theorem prd_0 {A : AS} {k : Nat} : (prd A k = 0) = ¬ 0 < Hr A 2 k := by
  apply propext
  unfold prd
  constructor
  · intro h c
    cases e : fstF (fun n => decide (¬ 0 < Hr (days n A) 2 k)) 61 0 with
    | none => rw [e] at h; exact absurd h (by decide)
    | some m =>
      rw [e] at h
      have hs := fstF_some e
      have hm : nI m = nI 0 := h
      rw [Z_eq (by omega) (by omega)] at hm
      subst hm
      exact absurd c (of_decide_eq_true hs.2.2.1)
  · intro c
    rw [fstF_is (k := 0) (by omega) (by omega) (decide_eq_true c) (fun j h1 h2 => absurd h2 (by omega))]
    rfl
theorem prd_n {A : AS} {k n : Nat} (hn : n < 61) (h : prd A k = nI n) : ¬ 0 < Hr (days n A) 2 k := by
  unfold prd at h
  cases e : fstF (fun n => decide (¬ 0 < Hr (days n A) 2 k)) 61 0 with
  | none =>
    rw [e] at h
    have h' : (-1 : Int32) = nI n := h
    rw [Z_m1' (by omega)] at h'
    exact h'.elim
  | some m =>
    rw [e] at h
    have hs := fstF_some e
    have hm : nI m = nI n := h
    rw [Z_eq (by omega) (by omega)] at hm
    subst hm
    exact of_decide_eq_true hs.2.2.1
/-! the best slot for a nest -/
theorem bnF_none {A : AS} : ∀ n, (bnF A n).1 = none → (bnF A n).2 = none ∧ ∀ k, k < n → Hr A 3 k ≠ 0 := by
  intro n
  induction n with
  | zero => intro _; exact ⟨rfl, fun k hk => absurd hk (Nat.not_lt_zero k)⟩
  | succ n ih =>
    intro h
    rw [bnF_s] at h ⊢
    by_cases c : Hr A 3 n = 0 ∧ ∀ m, (bnF A n).2 = some m → m < svN A n
    · rw [if_pos c] at h; cases h
    · rw [if_neg c] at h ⊢
      obtain ⟨i1, i2⟩ := ih h
      refine ⟨i1, fun k hk => ?_⟩
      by_cases e : k = n
      · subst e
        exact fun q => c ⟨q, fun m hm => by rw [i1] at hm; cases hm⟩
      · exact i2 k (by omega)
theorem bnF_lt {A : AS} : ∀ n k, (bnF A n).1 = some k → k < n := by
  intro n
  induction n with
  | zero => intro k h; cases h
  | succ n ih =>
    intro k h
    rw [bnF_s] at h
    split at h
    · cases h; omega
    · have := ih k h; omega
theorem cnt_all {p : Nat → Bool} : ∀ n, (∀ k, k < n → p k = true) → cnt p n = n := by
  intro n
  induction n with
  | zero => intro _; rfl
  | succ n ih =>
    intro h
    have e : cnt p (n + 1) = cnt p n + b2N (p n) := rfl
    rw [e, ih (fun k hk => h k (by omega)), h n (by omega)]
    rfl
theorem best_ok {A : AS} {T : Nat} (hI : Inv A T) : 0 ≤ bstR A ∨ nI (cnt (nstB (Hr A)) (Hn A 0)) = 6 ∨ cnt (nstB (Hr A)) (Hn A 0) = Hn A 0 := by
  have h40 := hI.2.1.1.2
  have h6 : cnt (nstB (Hr A)) (Hn A 0) ≤ 6 := hI.2.2.2.1
  unfold bstR
  by_cases c : 6 ≤ cnt (nstB (Hr A)) (Hn A 0)
  · exact Or.inr (Or.inl (by rw [L6, show cnt (nstB (Hr A)) (Hn A 0) = 6 by omega]))
  · rw [if_neg c]
    cases e : (bnF A (Hn A 0)).1 with
    | none =>
      obtain ⟨-, e2⟩ := bnF_none _ e
      exact Or.inr (Or.inr (cnt_all _ (fun k hk => decide_eq_true (by have := e2 k hk; omega))))
    | some k =>
      have := bnF_lt _ _ e
      refine Or.inl ?_
      show (0 : Int32) ≤ nI k
      rw [L0, Z_le (by omega) (by omega)]
      omega
/-! small numbers -/
theorem lwR_b {A : AS} {g n : Nat} : ¬ lwR A g n < -1 ∧ ¬ (12 : Int32) < lwR A g n := by
  unfold lwR
  cases e : fstF (sufB A g n) 12 1 with
  | none => exact ⟨show ¬ (-1 : Int32) < -1 by decide, show ¬ (12 : Int32) < -1 by decide⟩
  | some k =>
    have hs := fstF_some e
    refine ⟨show ¬ nI k < -1 from ?_, show ¬ (12 : Int32) < nI k from ?_⟩
    · intro h
      have : nI k ≤ -1 := by
        rw [Int32.le_iff_toInt_le]
        rw [Int32.lt_iff_toInt_lt] at h
        omega
      rw [Z_lm1 (by omega)] at this
      exact this
    · rw [L12, Z_lt (by omega) (by omega)]
      omega
theorem tr_lem {v r : Nat} (hv : v < 2 ^ 24) (h1 : 1 ≤ v) (hr : r < 9) : (if 1 < (nI v - 1) - nI r then (nI v - 1) - nI r else 1) = nI (trmV v (1 + r)) := by
  rw [L1, Z_sub h1]
  unfold trmV
  by_cases c : r < v - 1
  · rw [Z_sub (by omega), if_pos (show 1 + r < v by omega)]
    by_cases c2 : 1 < v - 1 - r
    · rw [if_pos (by rw [Z_lt (by omega) (by omega)]; exact c2), Nat.sub_sub]
    · rw [if_neg (by rw [Z_lt (by omega) (by omega)]; exact c2), show v - (1 + r) = 1 by omega]
  · rw [if_neg (show ¬ 1 + r < v by omega), if_neg]
    intro h
    have h2 : (1 : Int32) ≤ nI (v - 1) - nI r := by
      rw [Int32.le_iff_toInt_le]
      rw [show nI 1 = (1 : Int32) from rfl, Int32.lt_iff_toInt_lt] at h
      omega
    rw [Z_trm (by omega) (by omega)] at h2
    exact c h2
