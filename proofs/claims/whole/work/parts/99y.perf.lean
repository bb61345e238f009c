/-! ===== a command of the list carried out ===== -/
theorem ob_eta {α β : Type} {x : Option (α × β)} : (ob x fun v s => some (v, s)) = x := by
  cases x with
  | none => rfl
  | some q => rfl
theorem pS_0 {N : Nat} {a b : Int32} {S : SS} : F_X10_performOnSlot N 0 a b S = if F_X5_hasSlot a (S 0) = true then (if F_X5_mayPlant a (S 0) = true then some (true, up S 0 (F_X5_plantByHand a b (S 0))) else some (false, S)) else some (false, S) := rfl
theorem pS_1 {N : Nat} {a b : Int32} {S : SS} : F_X10_performOnSlot N 1 a b S = if F_X5_hasSlot a (S 0) = true then (if F_X5_mayRemove a (S 0) = true then some (true, up S 0 (F_X5_removeByHand a (S 0))) else some (false, S)) else some (false, S) := rfl
theorem pS_2 {N : Nat} {a b : Int32} {S : SS} : F_X10_performOnSlot N 2 a b S = if F_X5_hasSlot a (S 0) = true then (if F_X5_mayTrim a (S 0) = true then some (true, up S 0 (F_X5_trimByHand a b (S 0))) else some (false, S)) else some (false, S) := rfl
theorem pS_3 {N : Nat} {a b : Int32} {S : SS} : F_X10_performOnSlot N 3 a b S = if F_X5_hasSlot a (S 0) = true then (ob1 (F_X5_mayNest N a (S 0)) fun v => if v = true then some (true, up S 0 (F_X5_placeNest a b (S 0))) else some (false, S)) else some (false, S) := rfl
def pfm (N k : Nat) (a b d : Int32) (S : SS) : Option (Bool × SS) := if k < 4 then F_X10_performOnSlot N k a b S else if k = 4 then (if F_X5_mayQueue a (S 0) = true then some (true, up S 0 (F_X5_receive a ((S 11 4).2 0) 800 b d (S 0))) else some (false, S)) else if k = 5 then (if F_X5_mayCancel a b (S 0) = true then some (true, up S 0 (up (S 0) (gsel a) (F_X4_cancel b (S 0 (gsel a))))) else some (false, S)) else if k = 6 then some (true, up S 0 (up (S 0) 0 (sS (S 0 0) 1 a))) else lpN N (fun z => st_X10_perform_191 N a z.1 z.2) (0, S)
theorem perf_e {N i k : Nat} {S : SS} (hi : i < 30) (hk : k < 8) (h : (S 11 5).2 0 i = nI (k + 1)) : F_X10_perform N (nI i) S = pfm N k ((S 11 5).2 1 i) ((S 11 5).2 2 i) ((S 11 5).2 3 i) S := by
  have hr : ∀ f : Nat → Int32, rget 30 f (nI i) = f i := fun f => by rw [Z_rget (by omega) (by decide), if_pos hi]
  have i9 : (nI (k + 1) - 1) = nI k := by rw [L1, Z_sub (by omega), Nat.add_sub_cancel]
  unfold F_X10_perform pfm
  rw [hr, hr, hr, hr, h, if_neg (show ¬ nI (k + 1) = 0 by rw [L0, Z_eq (by omega) (by omega)]; omega), i9, if_pos (show vpb (nI k) 8 = true by rw [Z_vpb (by omega)]; exact hk), nI_clamp (by omega), lt_d]
  match k, hk with
  | 0, _ => rw [if_pos (by decide), ob_eta, if_pos (by decide)]
  | 1, _ => rw [if_neg (by decide), if_pos (by decide), ob_eta, if_pos (by decide)]
  | 2, _ => rw [if_neg (by decide), if_neg (by decide), if_pos (by decide), ob_eta, if_pos (by decide)]
  | 3, _ => rw [if_neg (by decide), if_neg (by decide), if_neg (by decide), if_pos (by decide), ob_eta, if_pos (by decide)]
  | 4, _ => rfl
  | 5, _ => rfl
  | 6, _ => rfl
  | 7, _ => rfl
def dfm (N k : Nat) (a b : Int32) (t : HV) : Option (Bool × HV) := if k = 0 then F_X11_plantNow N a b t else if k = 1 then F_X11_removeNow N a t else if k = 2 then F_X11_trimNow a b t else if k = 3 then F_X11_nestNow N a b t else if k = 4 then F_X11_messageNow N a t else if k = 5 then F_X11_cancelNow N a b t else if k = 6 then F_X11_workNow a t else F_X11_endNow N a t
theorem does_e {N i k : Nat} {t : HV} {s : Nat → Int32} {v : Bool} {t' : HV} (hi : i < 30) (hk : k < 8) (h : t.2 19 (16 * i) = nI k) (hN : 900 < N) (hr : dfm N k (t.2 19 (16 * i + 1)) (t.2 19 (16 * i + 2)) (sA (sA t 9 (va_cpy (t.2 19) (t.2 9) (16 * i + 3) 0 13)) 0 s) = some (v, t')) : F_X11_doesOne N (nI (16 * i)) (sA t 0 s) = some (v, t') := by
  unfold F_X11_doesOne
  rw [show nI (16 * i) + 1 = nI (16 * i + 1) by rw [L1, Z_add], show nI (16 * i) + 2 = nI (16 * i + 2) by rw [L2, Z_add], if_pos (show vpb (nI (16 * i + 1)) 480 = true by rw [Z_vpb (by omega)]; omega), if_pos (show vpb (nI (16 * i + 2)) 480 = true by rw [Z_vpb (by omega)]; omega), Z_ag (by omega), Z_ag (by omega), sA_2n (show (19 : Nat) ≠ 0 by decide), L0, show (nI 0, sA t 0 s) = (nI (0 + 0), sA t 0 s) from rfl]
  refine lp_cpy (n := 13) (c := 19) (d := 9) (from_ := 16 * i + 3) (to := 0) (j0 := 0) (t := sA t 0 s) (by omega) (fun q => absurd q (by decide)) (fun j t2 hj e => ?_) (fun t2 e => ?_)
  · show st_X11_doesOne_21 N (nI (16 * i)) _ _ (nI (0 + j)) t2 = _
    unfold st_X11_doesOne_21
    simp (disch := omega) only [L1, L3, L13, Nat.zero_add, Z_le, Z_add, Z_vpb, Z_ag, Z_aw, if_neg, if_pos, lt_d]
  · subst e
    show st_X11_doesOne_21 N (nI (16 * i)) _ _ (nI (0 + 13)) _ = _
    unfold st_X11_doesOne_21
    rw [if_pos (by decide), if_pos (show vpb (nI (16 * i)) 480 = true by rw [Z_vpb (by omega)]; omega), Z_ag (by omega), sA_2n (show (19 : Nat) ≠ 9 by decide), sA_2n (show (19 : Nat) ≠ 0 by decide), h, sA_2n (show (9 : Nat) ≠ 0 by decide), sA_co (show (0 : Nat) ≠ 9 by decide)]
    generalize sA (sA t 9 (va_cpy (t.2 19) (t.2 9) (16 * i + 3) 0 13)) 0 s = X at hr ⊢
    unfold dfm at hr
    match k, hk with
    | 0, _ => rw [if_pos (by decide)] at hr ⊢; rw [hr, ob_s]
    | 1, _ => rw [if_neg (by decide), if_pos (by decide)] at hr ⊢; rw [hr, ob_s]
    | 2, _ => rw [if_neg (by decide), if_neg (by decide), if_pos (by decide)] at hr ⊢; rw [hr, ob_s]
    | 3, _ => rw [if_neg (by decide), if_neg (by decide), if_neg (by decide), if_pos (by decide)] at hr ⊢; rw [hr, ob_s]
    | 4, _ => rw [if_neg (by decide), if_neg (by decide), if_neg (by decide), if_neg (by decide), if_pos (by decide)] at hr ⊢; rw [hr, ob_s]
    | 5, _ => rw [if_neg (by decide), if_neg (by decide), if_neg (by decide), if_neg (by decide), if_neg (by decide), if_pos (by decide)] at hr ⊢; rw [hr, ob_s]
    | 6, _ => rw [if_neg (by decide), if_neg (by decide), if_neg (by decide), if_neg (by decide), if_neg (by decide), if_neg (by decide), if_pos (by decide)] at hr ⊢; rw [hr, ob_s]
    | 7, _ => rw [if_neg (by decide), if_neg (by decide), if_neg (by decide), if_neg (by decide), if_neg (by decide), if_neg (by decide), if_neg (by decide)] at hr ⊢; rw [hr, ob_s]
/-- both carry out one command alike -/
def DX (T : Nat) (S : SS) (t : HV) (F : Option (Bool × SS)) (G : Option (Bool × HV)) : Prop := ∃ v S' A' t' s', F = some (v, S') ∧ G = some (v, sA t' 0 s') ∧ RC A' (S' 0) ∧ RM A' s' ∧ Inv A' (T + 60) ∧ (∀ j, j ≠ 0 → S' j = S j) ∧ (∀ j, j ≠ 8 → t'.1 j = t.1 j) ∧ ∀ a, a ≠ 0 → t'.2 a = t.2 a
theorem DX_n {T : Nat} {S : SS} {t : HV} {s : Nat → Int32} {A : AS} {F : Option (Bool × SS)} {G : Option (Bool × HV)} (hC : RC A (S 0)) (hM : RM A s) (hI : Inv A T) (hT : T + 60 < 2 ^ 20) (e1 : F = some (false, S)) (e2 : G = some (false, sA t 0 s)) : DX T S t F G := ⟨false, S, A, t, s, e1, e2, hC, hM, Inv_up hI (by omega) hT, fun _ _ => rfl, fun _ _ => rfl, fun _ _ => rfl⟩
theorem DX_y {T : Nat} {S : SS} {t : HV} {s' : Nat → Int32} {A' : AS} {h' : Nat → HV} {v : Int32} {F : Option (Bool × SS)} {G : Option (Bool × HV)} (hC : RC A' h') (hM : RM A' s') (hI : Inv A' T) (hT : T + 60 < 2 ^ 20) (e1 : F = some (true, up S 0 h')) (e2 : G = some (true, sA (sS t 8 v) 0 s')) : DX T S t F G := ⟨true, _, A', _, s', e1, e2, by rw [up_s]; exact hC, hM, Inv_up hI (by omega) hT, fun j hj => up_n hj, fun j hj => sS_1n hj, fun _ _ => rfl⟩
theorem hs_c {A : AS} {T : Nat} {h : Nat → HV} {s : Nat → Int32} (hH : RC A h) (hM : RM A s) (hI : Inv A T) (a : Nat) : (F_X5_hasSlot (nI a) h = false ∧ ∀ t, F_X11_isSlot (nI a) (sA t 0 s) = some false) ∨ ∃ k, k < Hn A 0 ∧ nI a = nI k ∧ F_X5_hasSlot (nI a) h = true := by
  rcases C_hasSlot hH.1.1 hI (nI a) with ⟨e, hx⟩ | ⟨e, k, hk, q⟩
  · exact Or.inl ⟨e, fun t => M_isSlotN hM.1 hI hx⟩
  · exact Or.inr ⟨k, hk, q, e⟩
theorem D_0 {N a b T : Nat} {A : AS} {S : SS} {t : HV} {s : Nat → Int32} (hC : RC A (S 0)) (hM : RM A s) (hI : Inv A T) (hT6 : T + 60 < 2 ^ 20) (hN : 900 < N) (hc : 97 ≤ b) (hc2 : b ≤ 122) : DX T S t (F_X10_performOnSlot N 0 (nI a) (nI b) S) (F_X11_plantNow N (nI a) (nI b) (sA t 0 s)) := by
  have bI := hI
  obtain ⟨hT, ⟨⟨b0, b0'⟩, ⟨b1, b1'⟩, b2, ⟨b3, b3'⟩, ⟨b4, b4'⟩, ⟨b5, b5'⟩, b6, b7⟩, hRw, hNs, hQu, hPr, hVm⟩ := id hI
  rw [pS_0]
  rcases hs_c hC hM hI a with ⟨e1, e2⟩ | ⟨k, hk, q, e1⟩
  · rw [e1, if_neg Bool.false_ne_true]
    exact DX_n hC hM hI hT6 rfl (M_plantN hM hI (by omega) (Or.inl (e2 t)))
  · rw [e1, if_pos rfl, q]
    have hle := plR_le (R := Hr A) (a := Hn A 7) (k := k)
    have hz : (nI (plR (Hr A) (Hn A 7) k) = 0) = (plR (Hr A) (Hn A 7) k = 0) := by rw [L0, Z_eq (by omega) (by omega)]
    have hmay : (F_X5_mayPlant (nI k) (S 0) = true) = (plR (Hr A) (Hn A 7) k = 0) := by
      unfold F_X5_mayPlant
      rw [C_plR hC.1.1 bI (by omega)]
      by_cases c : plR (Hr A) (Hn A 7) k = 0
      · rw [if_pos (by rw [hz]; exact c)]; simp [c]
      · rw [if_neg (by rw [hz]; exact c)]; simp [c]
    by_cases c0 : plR (Hr A) (Hn A 7) k = 0
    · have h7 : 0 < Hn A 7 := by
        unfold plR at c0
        split at c0
        · assumption
        · omega
      have h4 : Hr A 4 k = 0 := by
        unfold plR at c0
        rw [if_pos h7] at c0
        split at c0
        · omega
        · split at c0 <;> omega
      obtain ⟨s', m1, m2⟩ := M_plant (t := t) hM bI hk hc hc2 c0 (N := N) (by omega)
      rw [if_pos (by rw [hmay]; exact c0)]
      exact DX_y (C_plant hC bI (c := b) hk h7) m2 (Inv_pl2 bI hk hc hc2 h4) hT6 rfl m1
    · rw [if_neg (by rw [hmay]; exact c0)]
      exact DX_n hC hM hI hT6 rfl (M_plantN hM hI (by omega) (Or.inr ⟨k, hk, rfl, c0⟩))
theorem D_1 {N a T : Nat} {b : Int32} {A : AS} {S : SS} {t : HV} {s : Nat → Int32} (hC : RC A (S 0)) (hM : RM A s) (hI : Inv A T) (hT6 : T + 60 < 2 ^ 20) (hN : 900 < N) : DX T S t (F_X10_performOnSlot N 1 (nI a) b S) (F_X11_removeNow N (nI a) (sA t 0 s)) := by
  have bI := hI
  obtain ⟨hT, ⟨⟨b0, b0'⟩, ⟨b1, b1'⟩, b2, ⟨b3, b3'⟩, ⟨b4, b4'⟩, ⟨b5, b5'⟩, b6, b7⟩, hRw, hNs, hQu, hPr, hVm⟩ := id hI
  rw [pS_1]
  rcases hs_c hC hM hI a with ⟨e1, e2⟩ | ⟨k, hk, q, e1⟩
  · rw [e1, if_neg Bool.false_ne_true]
    exact DX_n hC hM hI hT6 rfl (M_remN hM hI (by omega) (Or.inl (e2 t)))
  · rw [e1, if_pos rfl, q]
    have hle := reR_le (R := Hr A) (a := Hn A 7) (d := Hn A 6) (k := k)
    have hz : (nI (reR (Hr A) (Hn A 7) (Hn A 6) k) = 0) = (reR (Hr A) (Hn A 7) (Hn A 6) k = 0) := by rw [L0, Z_eq (by omega) (by omega)]
    have hmay : (F_X5_mayRemove (nI k) (S 0) = true) = (reR (Hr A) (Hn A 7) (Hn A 6) k = 0) := by
      unfold F_X5_mayRemove
      rw [C_reR hC.1.1 bI (by omega)]
      by_cases c : reR (Hr A) (Hn A 7) (Hn A 6) k = 0
      · rw [if_pos (by rw [hz]; exact c)]; simp [c]
      · rw [if_neg (by rw [hz]; exact c)]; simp [c]
    by_cases c0 : reR (Hr A) (Hn A 7) (Hn A 6) k = 0
    · have ht0 : toR (Hr A) (Hn A 7) (Hn A 6) k = 0 := by
        unfold reR at c0
        split at c0
        · assumption
        · exact c0
      have h7 : 0 < Hn A 7 := by
        unfold toR at ht0
        split at ht0
        · assumption
        · omega
      obtain ⟨s', m1, m2⟩ := M_rem (t := t) hM bI hk c0 (N := N) (by omega)
      rw [if_pos (by rw [hmay]; exact c0)]
      exact DX_y (C_rem hC bI hk h7) m2 (Inv_rem bI hk) hT6 rfl m1
    · rw [if_neg (by rw [hmay]; exact c0)]
      exact DX_n hC hM hI hT6 rfl (M_remN hM hI (by omega) (Or.inr ⟨k, hk, rfl, c0⟩))
theorem D_2 {N a b T : Nat} {A : AS} {S : SS} {t : HV} {s : Nat → Int32} (hC : RC A (S 0)) (hM : RM A s) (hI : Inv A T) (hT6 : T + 60 < 2 ^ 20) (hb : b ≤ 99) : DX T S t (F_X10_performOnSlot N 2 (nI a) (nI b) S) (F_X11_trimNow (nI a) (nI b) (sA t 0 s)) := by
  have bI := hI
  obtain ⟨hT, ⟨⟨b0, b0'⟩, ⟨b1, b1'⟩, b2, ⟨b3, b3'⟩, ⟨b4, b4'⟩, ⟨b5, b5'⟩, b6, b7⟩, hRw, hNs, hQu, hPr, hVm⟩ := id hI
  rw [pS_2]
  rcases hs_c hC hM hI a with ⟨e1, e2⟩ | ⟨k, hk, q, e1⟩
  · rw [e1, if_neg Bool.false_ne_true]
    exact DX_n hC hM hI hT6 rfl (M_trmN hM hI (Or.inl (e2 t)))
  · rw [e1, if_pos rfl, q]
    have hle := trR_le (R := Hr A) (a := Hn A 7) (d := Hn A 6) (k := k)
    have hz : (nI (trR (Hr A) (Hn A 7) (Hn A 6) k) = 0) = (trR (Hr A) (Hn A 7) (Hn A 6) k = 0) := by rw [L0, Z_eq (by omega) (by omega)]
    have hmay : (F_X5_mayTrim (nI k) (S 0) = true) = (trR (Hr A) (Hn A 7) (Hn A 6) k = 0) := by
      unfold F_X5_mayTrim
      rw [C_trR hC.1.1 bI (by omega)]
      by_cases c : trR (Hr A) (Hn A 7) (Hn A 6) k = 0
      · rw [if_pos (by rw [hz]; exact c)]; simp [c]
      · rw [if_neg (by rw [hz]; exact c)]; simp [c]
    by_cases c0 : trR (Hr A) (Hn A 7) (Hn A 6) k = 0
    · have ht0 : toR (Hr A) (Hn A 7) (Hn A 6) k = 0 := by
        unfold trR at c0
        split at c0
        · assumption
        · exact c0
      have h72 : 0 < Hn A 7 ∧ 0 < Hr A 2 k := by
        unfold toR at ht0
        split at ht0
        · split at ht0
          · exact ⟨by assumption, by assumption⟩
          · omega
        · omega
      obtain ⟨s', m1, m2⟩ := M_trm (t := t) hM bI hk hb c0
      rw [if_pos (by rw [hmay]; exact c0)]
      exact DX_y (C_trm hC bI hk hb h72.1) m2 (Inv_trm bI hk h72.2) hT6 rfl m1
    · rw [if_neg (by rw [hmay]; exact c0)]
      exact DX_n hC hM hI hT6 rfl (M_trmN hM hI (Or.inr ⟨k, hk, rfl, c0⟩))
theorem D_3 {N a b T : Nat} {A : AS} {S : SS} {t : HV} {s : Nat → Int32} (hC : RC A (S 0)) (hM : RM A s) (hI : Inv A T) (hT6 : T + 60 < 2 ^ 20) (hN : 900 < N) (hb : b ≤ 30) : DX T S t (F_X10_performOnSlot N 3 (nI a) (nI b) S) (F_X11_nestNow N (nI a) (nI b) (sA t 0 s)) := by
  rw [pS_3]
  rcases hs_c hC hM hI a with ⟨e1, e2⟩ | ⟨k, hk, q, e1⟩
  · rw [e1, if_neg Bool.false_ne_true]
    exact DX_n hC hM hI hT6 rfl (M_nstN hM hI (by omega) (Or.inl (e2 t)))
  · rw [e1, if_pos rfl, q, C_mayNest hC.1.1 hI hk (by omega), ob1_s]
    cases c0 : nstOk A k with
    | true =>
      have h6 : cnt (nstB (Hr A)) (Hn A 0) < 6 := (of_decide_eq_true c0).1
      obtain ⟨s', m1, m2⟩ := M_nst (t := t) hM hI hk hb c0 (N := N) (by omega)
      rw [if_pos rfl]
      exact DX_y (C_nst hC hI (d := b) hk) m2 (Inv_nst hI hk hb h6) hT6 rfl m1
    | false =>
      rw [if_neg Bool.false_ne_true]
      exact DX_n hC hM hI hT6 rfl (M_nstN hM hI (by omega) (Or.inr ⟨k, hk, rfl, c0⟩))
theorem D_4 {N g b d n T : Nat} {B : Nat → Nat} {A : AS} {S : SS} {t : HV} {s : Nat → Int32} (hCB : CB B n (S 11 4)) (hC : RC A (S 0)) (hM : RM A s) (hI : Inv A T) (hT6 : T + 60 < 2 ^ 20) (hN : 900 < N) (hg : g < 2) (hd : 0 < d) (hd2 : d ≤ 12) (hbd : b + d ≤ n) (hl : ∀ k, k < d → 97 ≤ B (b + k) ∧ B (b + k) ≤ 122) (hw : wAt (t.2 9) 0 (wdL B b d)) : DX T S t (if F_X5_mayQueue (nI g) (S 0) = true then some (true, up S 0 (F_X5_receive (nI g) ((S 11 4).2 0) 800 (nI b) (nI d) (S 0))) else some (false, S)) (F_X11_messageNow N (nI g) (sA t 0 s)) := by
  have bI := hI
  obtain ⟨hT, ⟨⟨b0, b0'⟩, ⟨b1, b1'⟩, b2, ⟨b3, b3'⟩, ⟨b4, b4'⟩, ⟨b5, b5'⟩, b6, b7⟩, hRw, hNs, hQu, hPr, hVm⟩ := id hI
  have h800 := hCB.1
  have hlen : (wdL B b d).length = d := wdL_len
  have q8 := (hQu g hg).1
  have hmay : F_X5_mayQueue (nI g) (S 0) = decide ((Hq A g).length < 8) := by
    unfold F_X5_mayQueue
    rw [Z_gsel hg, show (S 0 (1 + g)).1 2 = nI (Hq A g).length from (hC.1.2 g hg).2.2.1]
    by_cases c : (Hq A g).length < 8
    · rw [if_neg (show ¬ (8 : Int32) ≤ nI (Hq A g).length by rw [L8, Z_le (by omega) (by omega)]; omega), decide_eq_true c]
    · rw [if_pos (show (8 : Int32) ≤ nI (Hq A g).length by rw [L8, Z_le (by omega) (by omega)]; omega), decide_eq_false c]
  rw [hmay]
  by_cases c : (Hq A g).length < 8
  · obtain ⟨s', m1, m2⟩ := M_msg (t := t) hM bI hg c (w := wdL B b d) hw (by rw [hlen]; exact hd2) (N := N) (by omega)
    have hque := C_que (h := S 0) hC bI hg c (src := (S 11 4).2 0) (n2 := 800) (a := b) (w := wdL B b d) (by decide) (by rw [hlen]; omega) (by rw [hlen]; exact hd2) (fun x hx => by
      rw [hlen] at hx
      rw [wdL_at hx]
      exact (hCB.2.1 (b + x) (by omega)).2)
    rw [hlen] at hque
    rw [decide_eq_true c, if_pos rfl]
    exact DX_y hque m2 (Inv_que bI c (wdL_ok hd hd2 hl)) hT6 rfl m1
  · rw [decide_eq_false c, if_neg Bool.false_ne_true]
    exact DX_n hC hM hI hT6 rfl (M_msgN hM hg (by omega))
theorem D_5 {N g b T : Nat} {A : AS} {S : SS} {t : HV} {s : Nat → Int32} (hC : RC A (S 0)) (hM : RM A s) (hI : Inv A T) (hT6 : T + 60 < 2 ^ 20) (hN : 900 < N) (hg : g < 2) : DX T S t (if F_X5_mayCancel (nI g) (nI b) (S 0) = true then some (true, up S 0 (up (S 0) (gsel (nI g)) (F_X4_cancel (nI b) (S 0 (gsel (nI g)))))) else some (false, S)) (F_X11_cancelNow N (nI g) (nI b) (sA t 0 s)) := by
  have bI := hI
  obtain ⟨hT, ⟨⟨b0, b0'⟩, ⟨b1, b1'⟩, b2, ⟨b3, b3'⟩, ⟨b4, b4'⟩, ⟨b5, b5'⟩, b6, b7⟩, hRw, hNs, hQu, hPr, hVm⟩ := id hI
  have hG := hC.1.2 g hg
  have q8 := (hQu g hg).1
  unfold F_X5_mayCancel
  rw [Z_gsel hg, C_mayCan hG q8]
  rcases in_c (nI b) (n := (Hq A g).length) (by omega) with ⟨e3, _⟩ | ⟨m, hm, em, e3⟩
  · rw [e3, if_neg Bool.false_ne_true]
    exact DX_n hC hM hI hT6 rfl (M_canN hM hI hg e3)
  · obtain ⟨s', m1, m2⟩ := M_can (t := t) hM bI hg hm (N := N) (by omega)
    rw [e3, if_pos rfl, em]
    exact DX_y (C_can hC bI hg hm) m2 (Inv_can bI) hT6 rfl m1
theorem D_6 {N a T : Nat} {A : AS} {S : SS} {t : HV} {s : Nat → Int32} (hC : RC A (S 0)) (hM : RM A s) (hI : Inv A T) (hT6 : T + 60 < 2 ^ 20) (h1 : 1 ≤ a) (h12 : a ≤ 12) : DX T S t (some (true, up S 0 (up (S 0) 0 (sS (S 0 0) 1 (nI a))))) (F_X11_workNow (nI a) (sA t 0 s)) := by
  obtain ⟨m1, m2⟩ := M_work (t := t) hM hI a
  exact DX_y (C_lim hC a) m2 (Inv_lim hI h1 h12) hT6 rfl m1
theorem D_7 {N a T : Nat} {A : AS} {S : SS} {t : HV} {s : Nat → Int32} (hC : RC A (S 0)) (hM : RM A s) (hI : Inv A T) (hT6 : T + 60 < 2 ^ 20) (hN : 900 < N) (h60 : a ≤ 60) : DX T S t (lpN N (fun z => st_X10_perform_191 N (nI a) z.1 z.2) (0, S)) (F_X11_endNow N (nI a) (sA t 0 s)) := by
  obtain ⟨s', m1, m2⟩ := M_end (t := t) hM hI h60 (by omega) (N := N) (by omega)
  obtain ⟨S', l1, l2, l3⟩ := C_goBy hC hI h60 (by omega) (N := N) (by omega) (Bool × SS) (fun z => st_X10_perform_191 N (nI a) z.1 z.2) (fun i x h' hi e => by
    show st_X10_perform_191 N (nI a) (nI i) x = _
    unfold st_X10_perform_191
    rw [if_neg (by rw [Z_le (by omega) (by omega)]; omega), e, ob1_s, lt_d, L1, Z_add]) (fun x => (true, x)) (fun x => by
    show st_X10_perform_191 N (nI a) (nI a) x = _
    unfold st_X10_perform_191
    rw [if_pos (by rw [Z_le (by omega) (by omega)]; omega)])
  exact ⟨true, S', days a A, _, s', l1, m1, l2, m2, Inv_up (Inv_days hI a (by omega)) (by omega) hT6, l3, fun j hj => sS_1n hj, fun _ _ => rfl⟩
theorem D_one {B : Nat → Nat} {n i T N : Nat} {c : Cmd} {A : AS} {S : SS} {t : HV} {s : Nat → Int32} (hk : kE B n c i S t) (hi : i < 30) (hCB : CB B n (S 11 4)) (hC : RC A (S 0)) (hM : RM A s) (hI : Inv A T) (hT6 : T + 60 < 2 ^ 20) (hN : 900 < N) : DX T S (sA t 9 (va_cpy (t.2 19) (t.2 9) (16 * i + 3) 0 13)) (F_X10_perform N (nI i) S) (F_X11_doesOne N (nI (16 * i)) (sA t 0 s)) := by
  obtain ⟨h1, h2, ⟨a1, a2, a3⟩, h4, ⟨b1, b2, b3⟩⟩ := hk
  obtain ⟨k, a, b, d⟩ := c
  dsimp only at h1 h2 a1 a2 a3 h4 b1 b2 b3
  have hk8 : k < 8 := h1.1
  have key : DX T S (sA t 9 (va_cpy (t.2 19) (t.2 9) (16 * i + 3) 0 13)) (pfm N k ((S 11 5).2 1 i) ((S 11 5).2 2 i) ((S 11 5).2 3 i) S) (dfm N k (t.2 19 (16 * i + 1)) (t.2 19 (16 * i + 2)) (sA (sA t 9 (va_cpy (t.2 19) (t.2 9) (16 * i + 3) 0 13)) 0 s)) := by
    obtain ⟨o1, o2, o3, o4, o5, o6, o7, o8, o9, o10⟩ := h1
    dsimp only at o1 o2 o3 o4 o5 o6 o7 o8 o9 o10
    rw [a1, b1]
    unfold pfm dfm
    match k, hk8 with
    | 0, _ =>
      rw [if_pos (by decide), if_pos (by decide), a2 (by omega), b2 (by omega)]
      exact D_0 hC hM hI hT6 hN (o4 rfl).1 (o4 rfl).2
    | 1, _ =>
      rw [if_pos (by decide), if_neg (by decide), if_pos (by decide)]
      exact D_1 hC hM hI hT6 hN
    | 2, _ =>
      rw [if_pos (by decide), if_neg (by decide), if_neg (by decide), if_pos (by decide), a2 (by omega), b2 (by omega)]
      exact D_2 hC hM hI hT6 (o5 rfl).2
    | 3, _ =>
      rw [if_pos (by decide), if_neg (by decide), if_neg (by decide), if_neg (by decide), if_pos (by decide), a2 (by omega), b2 (by omega)]
      exact D_3 hC hM hI hT6 hN (o6 rfl).2
    | 4, _ =>
      obtain ⟨w1, w2, w3, w4, w5⟩ := o7 rfl
      rw [if_neg (show ¬ (4 : Nat) < 4 by decide), if_pos (show (4 : Nat) = 4 from rfl), if_neg (show ¬ (4 : Nat) = 0 by decide), if_neg (show ¬ (4 : Nat) = 1 by decide), if_neg (show ¬ (4 : Nat) = 2 by decide), if_neg (show ¬ (4 : Nat) = 3 by decide), if_pos (show (4 : Nat) = 4 from rfl), a2 (by omega), a3 rfl]
      refine D_4 hCB hC hM hI hT6 hN w1 w2 w3 w4 w5 ?_
      rw [sA2s]
      obtain ⟨c1, c2⟩ := b3 rfl
      refine ⟨?_, fun x hx => ?_⟩
      · rw [pk_cpy_in (by omega) (by omega), ← c1]
      · have hx12 : x < 12 := by rw [wdL_len] at hx; omega
        rw [pk_cpy_in (by omega) (by omega), ← c2 x hx]
        exact congrArg (t.2 19) (by omega)
    | 5, _ =>
      rw [if_neg (show ¬ (5 : Nat) < 4 by decide), if_neg (show ¬ (5 : Nat) = 4 by decide), if_pos (show (5 : Nat) = 5 from rfl), if_neg (show ¬ (5 : Nat) = 0 by decide), if_neg (show ¬ (5 : Nat) = 1 by decide), if_neg (show ¬ (5 : Nat) = 2 by decide), if_neg (show ¬ (5 : Nat) = 3 by decide), if_neg (show ¬ (5 : Nat) = 4 by decide), if_pos (show (5 : Nat) = 5 from rfl), a2 (by omega), b2 (by omega)]
      exact D_5 hC hM hI hT6 hN (o8 rfl).1
    | 6, _ =>
      rw [if_neg (show ¬ (6 : Nat) < 4 by decide), if_neg (show ¬ (6 : Nat) = 4 by decide), if_neg (show ¬ (6 : Nat) = 5 by decide), if_pos (show (6 : Nat) = 6 from rfl), if_neg (show ¬ (6 : Nat) = 0 by decide), if_neg (show ¬ (6 : Nat) = 1 by decide), if_neg (show ¬ (6 : Nat) = 2 by decide), if_neg (show ¬ (6 : Nat) = 3 by decide), if_neg (show ¬ (6 : Nat) = 4 by decide), if_neg (show ¬ (6 : Nat) = 5 by decide), if_pos (show (6 : Nat) = 6 from rfl)]
      exact D_6 (N := N) hC hM hI hT6 (o9 rfl).1 (o9 rfl).2
    | 7, _ =>
      rw [if_neg (show ¬ (7 : Nat) < 4 by decide), if_neg (show ¬ (7 : Nat) = 4 by decide), if_neg (show ¬ (7 : Nat) = 5 by decide), if_neg (show ¬ (7 : Nat) = 6 by decide), if_neg (show ¬ (7 : Nat) = 0 by decide), if_neg (show ¬ (7 : Nat) = 1 by decide), if_neg (show ¬ (7 : Nat) = 2 by decide), if_neg (show ¬ (7 : Nat) = 3 by decide), if_neg (show ¬ (7 : Nat) = 4 by decide), if_neg (show ¬ (7 : Nat) = 5 by decide), if_neg (show ¬ (7 : Nat) = 6 by decide)]
      exact D_7 hC hM hI hT6 hN o2
  obtain ⟨v, S', A', t', s', e1, e2, r⟩ := key
  exact ⟨v, S', A', t', s', (perf_e hi hk8 h2).trans e1, does_e hi hk8 h4 hN e2, r⟩
