/-! ===== a message's slots are cleared ===== -/
def clrR (R : Nat → Nat → Nat) (s n : Nat) : Nat → Nat → Nat := fun a k => if (a = 2 ∨ a = 4) ∧ s ≤ k ∧ k < s + n then 0 else R a k
def cntT (R : Nat → Nat → Nat) (s n : Nat) : Nat := cnt (fun x => twgB R (s + x)) n
def opClr (A : AS) (s n : Nat) : AS := Sc (Sr A (clrR (Hr A) s n)) (up (Hc A) 2 (Hc A 2 + nI (cntT (Hr A) s n)))
theorem clrR_0 {R : Nat → Nat → Nat} {s : Nat} : clrR R s 0 = R := by
  funext a k
  unfold clrR
  rw [if_neg (by omega)]
theorem clrR_ok {R : Nat → Nat → Nat} {n D : Nat} (h : okRw R n D) (s m : Nat) : okRw (clrR R s m) n D := by
  intro k
  obtain ⟨h1, h2, h3, h4, h5, h6, h7, h8⟩ := h k
  have e0 : clrR R s m 0 k = R 0 k := if_neg (by omega)
  have e1 : clrR R s m 1 k = R 1 k := if_neg (by omega)
  have e3 : clrR R s m 3 k = R 3 k := if_neg (by omega)
  have e2 : clrR R s m 2 k ≤ R 2 k := by unfold clrR; split <;> omega
  have e4 : clrR R s m 4 k ≤ R 4 k := by unfold clrR; split <;> omega
  rw [e0, e1, e3]
  refine ⟨fun q => ?_, h2, fun q => h3 (by omega), h4, h5, by omega, h7, by omega⟩
  have := h1 q
  omega
theorem cntT_0 {R : Nat → Nat → Nat} {s : Nat} : cntT R s 0 = 0 := rfl
theorem cntT_s {R : Nat → Nat → Nat} {s n : Nat} : cntT R s (n + 1) = cntT R s n + if 0 < R 2 (s + n) then 1 else 0 := by
  show cnt _ n + (if twgB R (s + n) = true then 1 else 0) = _
  simp only [twgB_t]
  rfl
theorem opClr_0 {A : AS} {s : Nat} : opClr A s 0 = A := by
  unfold opClr
  rw [clrR_0, cntT_0, show Hc A 2 + nI 0 = Hc A 2 from Int32.add_zero _, up_id]
  rfl
theorem C_clr {A : AS} {T : Nat} {h : Nat → HV} (hH : RH A (h 0)) (hI : Inv A T) {N s n : Nat} (hs : s + n ≤ 40) (hN : 40 < N) : ∃ h', F_X5_clearMessage N (nI s) (nI n) h = some h' ∧ RH (opClr A s n) (h' 0) ∧ ∀ j, j ≠ 0 → h' j = h j := by
  unfold F_X5_clearMessage
  refine lpN_up (fun i x => x.1 = nI (s + i) ∧ RH (opClr A s i) (x.2 0) ∧ ∀ j, j ≠ 0 → x.2 j = h j) _ (n := n) (by omega) ⟨rfl, by rw [opClr_0]; exact hH, fun _ _ => rfl⟩ (fun i x hi hP => ?_) (fun x hP => ?_)
  · obtain ⟨x1, x2⟩ := x
    obtain ⟨e1, ⟨hn, hc, hr⟩, hf⟩ := hP
    dsimp only at e1 hn hc hr hf
    cases e1
    have b := Inv_b hI (s + i) (a := 2) (by decide)
    have g2 : rget 40 ((x2 0).2 2) (nI (s + i)) = nI (Hr A 2 (s + i)) := by
      rw [RHr_get hr (by decide) (by omega)]
      show nI (clrR (Hr A) s i 2 (s + i)) = _
      unfold clrR
      rw [if_neg (by omega)]
    have e : st_X5_clearMessage_2 N (nI s) (nI n) (nI (s + i)) x2 = some (.inl (nI (s + (i + 1)), up x2 0 (if Hr A 2 (s + i) ≤ 0 then sA (x2 0) 4 (rset 40 ((x2 0).2 4) (nI (s + i)) (nI 0)) else sA (sS (sA (x2 0) 2 (rset 40 ((x2 0).2 2) (nI (s + i)) (nI 0))) 18 ((x2 0).1 18 + nI 1)) 4 (rset 40 ((x2 0).2 4) (nI (s + i)) (nI 0))))) := by
      unfold st_X5_clearMessage_2
      simp (disch := omega) only [L0, L1, Z_add, Z_le, g2, lt_d, if_neg, up_s, up_up]
      by_cases c : Hr A 2 (s + i) ≤ 0
      · rw [if_pos c, if_pos c]
        rfl
      · rw [if_neg c, if_neg c]
        rfl
    refine ⟨_, e, ?_, ?_, ?_⟩
    · rfl
    · show RH _ (up x2 0 _ 0)
      rw [up_s]
      by_cases c : Hr A 2 (s + i) ≤ 0
      · rw [if_pos c]
        refine ⟨RHn_1 hn rfl, ?_, RHr_eq (RHr_set hr 0 (by omega)) (fun a k ha hk => ?_)⟩
        · show RHc (up (Hc A) 2 (Hc A 2 + nI (cntT (Hr A) s (i + 1)))) _
          rw [cntT_s, if_neg (by omega), Nat.add_zero]
          exact RHc_1 hc rfl
        · show rowS (clrR (Hr A) s i) 4 (s + i) 0 a k = clrR (Hr A) s (i + 1) a k
          unfold rowS clrR
          by_cases q : a = 4 ∧ k = s + i
          · rw [if_pos q, if_pos (by omega)]
          · rw [if_neg q]
            by_cases q2 : (a = 2 ∨ a = 4) ∧ s ≤ k ∧ k < s + i
            · rw [if_pos q2, if_pos (by omega)]
            · rw [if_neg q2]
              by_cases q3 : a = 2 ∧ k = s + i
              · rw [if_pos (by omega), q3.1, q3.2]; omega
              · rw [if_neg (by omega)]
      · rw [if_neg c]
        refine ⟨RHn_1 (RHn_oth (RHn_1 hn rfl) _ (by decide)) rfl, ?_, RHr_eq (RHr_set (a := 4) (u := sS (sA (x2 0) 2 (rset 40 ((x2 0).2 2) (nI (s + i)) (nI 0))) 18 ((x2 0).1 18 + nI 1)) (RHr_2 (RHr_set hr 0 (by omega)) rfl) 0 (by omega)) (fun a k ha hk => ?_)⟩
        · show RHc (up (Hc A) 2 (Hc A 2 + nI (cntT (Hr A) s (i + 1)))) _
          have h2 := hc 2 (by decide)
          have h3 : (x2 0).1 18 = Hc A 2 + nI (cntT (Hr A) s i) := h2.trans (show up (Hc A) 2 _ 2 = _ from up_s)
          rw [cntT_s, if_pos (by omega), h3, Int32.add_assoc, Z_add]
          have h4 := RHc_set (i := 2) (RHc_1 (u' := sA (x2 0) 2 (rset 40 ((x2 0).2 2) (nI (s + i)) (nI 0))) hc rfl) (Hc A 2 + nI (cntT (Hr A) s i + 1))
          refine RHc_1 (u := sS (sA (x2 0) 2 (rset 40 ((x2 0).2 2) (nI (s + i)) (nI 0))) (16 + 2) (Hc A 2 + nI (cntT (Hr A) s i + 1))) ?_ rfl
          show RHc (up (Hc A) 2 _) _
          have h5 : up (Hc (opClr A s i)) 2 (Hc A 2 + nI (cntT (Hr A) s i + 1)) = up (Hc A) 2 (Hc A 2 + nI (cntT (Hr A) s i + 1)) := up_up
          rw [← h5]
          exact h4
        · show rowS (rowS (clrR (Hr A) s i) 2 (s + i) 0) 4 (s + i) 0 a k = clrR (Hr A) s (i + 1) a k
          unfold rowS clrR
          by_cases q : a = 4 ∧ k = s + i
          · rw [if_pos q, if_pos (by omega)]
          · rw [if_neg q]
            by_cases q1 : a = 2 ∧ k = s + i
            · rw [if_pos q1, if_pos (by omega)]
            · rw [if_neg q1]
              by_cases q2 : (a = 2 ∨ a = 4) ∧ s ≤ k ∧ k < s + i
              · rw [if_pos q2, if_pos (by omega)]
              · rw [if_neg q2, if_neg (by omega)]
    · intro j hj
      show up x2 0 _ j = _
      rw [up_n hj]
      exact hf j hj
  · obtain ⟨x1, x2⟩ := x
    obtain ⟨e1, hr, hf⟩ := hP
    dsimp only at e1 hr hf
    cases e1
    refine ⟨x2, ?_, hr, hf⟩
    show st_X5_clearMessage_2 N (nI s) (nI n) (nI (s + n)) x2 = _
    unfold st_X5_clearMessage_2
    simp (disch := omega) only [Z_add, Z_le, if_pos]
