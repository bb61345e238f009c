/-! ===== the two machines beside each other ===== -/
theorem Zox_l {α β : Type} {v : α} {g : Nat → Option β} {f : α → Option β} : ox (some (.inl v)) g f = f v := rfl
theorem Zox_r {α β : Type} {k : Nat} {g : Nat → Option β} {f : α → Option β} : ox (some (.inr k)) g f = g k := rfl
theorem Inv_up {A : AS} {T T' : Nat} (hI : Inv A T) (h : T ≤ T') (h2 : T' < 2 ^ 20) : Inv A T' := by
  obtain ⟨hT, ⟨q0, q1, q2, q3, q4, q5, q6, q7⟩, r⟩ := hI
  exact ⟨h2, ⟨q0, q1, q2, q3, q4, q5, Nat.le_trans q6 h, q7⟩, r⟩
def RS (A : AS) (T : Nat) (h : Nat → HV) (s : Nat → Int32) : Prop := RC A h ∧ RM A s ∧ Inv A T
theorem RS_up {A : AS} {T T' : Nat} {h : Nat → HV} {s : Nat → Int32} (hR : RS A T h s) (hT : T ≤ T') (h2 : T' < 2 ^ 20) : RS A T' h s := ⟨hR.1, hR.2.1, Inv_up hR.2.2 hT h2⟩
def RLs (S : SS) (τ : HV) (T : Nat) : Prop := ∃ sv : Bool, (S 11 6).1 3 = b2i sv ∧ τ.1 7 = b2i sv ∧ (sv = true → ∃ B, RS B T (S 2) (τ.2 1))
def A0 : AS := (fun _ => 0, fun _ => 0, fun _ _ => 0, fun _ => [], fun _ => bare, [])
def CH (L : List AS) (S : SS) : Prop := L.length ≤ 8 ∧ ∃ x, x < 8 ∧ (S 11 7).1 1 = nI x ∧ (S 11 7).1 2 = nI L.length ∧ ∀ i, i < L.length → RC (L.getD i A0) (S (3 + (x + 8 - L.length + i) % 8))
def MH (L : List AS) (τ : HV) : Prop := τ.1 5 = nI L.length ∧ ∀ i, i < L.length → RM (L.getD i A0) (fun k => τ.2 4 (760 * i + k))
def RLh (S : SS) (τ : HV) (T : Nat) : Prop := ∃ L, CH L S ∧ MH L τ ∧ ∀ B ∈ L, Inv B T
def RLt (S : SS) (τ : HV) : Prop := ∃ n, n ≤ 800 ∧ (S 11 4).1 1 = nI n ∧ τ.1 11 = nI n ∧ (∀ k, k < n → ∃ b, b < 256 ∧ (S 11 4).2 0 k = nI b ∧ τ.2 10 k = nI b) ∧ τ.1 17 = (S 11 4).1 7 ∧ τ.1 18 = (S 11 4).1 8
def RLo (S : SS) (τ : HV) : Prop := ∃ n, n ≤ 40 ∧ (S 11 6).1 8 = nI n ∧ τ.1 22 = nI n ∧ ∀ k, k < n → (S 11 6).2 0 k = τ.2 21 k
def LR (S : SS) (τ : HV) (T : Nat) : Prop := (∃ A, RS A T (S 0) (τ.2 0)) ∧ RLs S τ T ∧ RLh S τ T ∧ RLt S τ ∧ RLo S τ
theorem RLs_e {S S' : SS} {τ τ' : HV} {T T' : Nat} (h : RLs S τ T) (hT : T ≤ T') (h2 : T' < 2 ^ 20) (e1 : (S' 11 6).1 3 = (S 11 6).1 3) (e2 : S' 2 = S 2) (e3 : τ'.1 7 = τ.1 7) (e4 : τ'.2 1 = τ.2 1) : RLs S' τ' T' := by
  obtain ⟨sv, h1, h3, h4⟩ := h
  refine ⟨sv, e1.trans h1, e3.trans h3, fun q => ?_⟩
  obtain ⟨B, hB⟩ := h4 q
  rw [e2, e4]
  exact ⟨B, RS_up hB hT h2⟩
theorem CH_e {L : List AS} {S S' : SS} (h : CH L S) (e1 : S' 11 7 = S 11 7) (e2 : ∀ j, 3 ≤ j → j < 11 → S' j = S j) : CH L S' := by
  obtain ⟨h8, x, hx, q1, q2, q3⟩ := h
  refine ⟨h8, x, hx, by rw [e1]; exact q1, by rw [e1]; exact q2, fun i hi => ?_⟩
  have hlt := Nat.mod_lt (x + 8 - L.length + i) (show 0 < 8 by decide)
  rw [e2 _ (by omega) (by omega)]
  exact q3 i hi
theorem MH_e {L : List AS} {τ τ' : HV} (h : MH L τ) (e3 : τ'.1 5 = τ.1 5) (e4 : τ'.2 4 = τ.2 4) : MH L τ' := ⟨e3.trans h.1, fun i hi => by rw [e4]; exact h.2 i hi⟩
theorem RLh_e {S S' : SS} {τ τ' : HV} {T T' : Nat} (h : RLh S τ T) (hT : T ≤ T') (h2 : T' < 2 ^ 20) (e1 : S' 11 7 = S 11 7) (e2 : ∀ j, 3 ≤ j → j < 11 → S' j = S j) (e3 : τ'.1 5 = τ.1 5) (e4 : τ'.2 4 = τ.2 4) : RLh S' τ' T' := by
  obtain ⟨L, h1, h3, h4⟩ := h
  exact ⟨L, CH_e h1 e1 e2, MH_e h3 e3 e4, fun B hB => Inv_up (h4 B hB) hT h2⟩
theorem RLt_e {S S' : SS} {τ τ' : HV} (h : RLt S τ) (e1 : S' 11 4 = S 11 4) (e2 : τ'.1 11 = τ.1 11) (e3 : τ'.2 10 = τ.2 10) (e4 : τ'.1 17 = τ.1 17) (e5 : τ'.1 18 = τ.1 18) : RLt S' τ' := by
  obtain ⟨n, hn, q1, q2, q3, q4, q5⟩ := h
  exact ⟨n, hn, by rw [e1]; exact q1, e2.trans q2, by rw [e1, e3]; exact q3, by rw [e1]; exact e4.trans q4, by rw [e1]; exact e5.trans q5⟩
theorem RLo_e {S S' : SS} {τ τ' : HV} (h : RLo S τ) (e1 : (S' 11 6).1 8 = (S 11 6).1 8) (e2 : (S' 11 6).2 0 = (S 11 6).2 0) (e3 : τ'.1 22 = τ.1 22) (e4 : τ'.2 21 = τ.2 21) : RLo S' τ' := by
  obtain ⟨n, hn, q1, q2, q3⟩ := h
  exact ⟨n, hn, e1.trans q1, e3.trans q2, by rw [e2, e4]; exact q3⟩
/-- what the other machine notes besides: nothing of it is looked at -/
theorem LR_e {S S' : SS} {τ τ' : HV} {T T' : Nat} (h : LR S τ T) (hT : T ≤ T') (h2 : T' < 2 ^ 20) (eS : ∀ j, j ≠ 1 → S' j = S j) (e1 : ∀ i, i = 5 ∨ i = 7 ∨ i = 11 ∨ i = 17 ∨ i = 18 ∨ i = 22 → τ'.1 i = τ.1 i) (e2 : ∀ a, a = 0 ∨ a = 1 ∨ a = 4 ∨ a = 10 ∨ a = 21 → τ'.2 a = τ.2 a) : LR S' τ' T' := by
  obtain ⟨⟨A, hA⟩, hs, hh, ht, ho⟩ := h
  have e11 := eS 11 (by decide)
  refine ⟨⟨A, ?_⟩, RLs_e hs hT h2 (by rw [e11]) (eS 2 (by decide)) (e1 7 (by omega)) (e2 1 (by omega)), RLh_e hh hT h2 (by rw [e11]) (fun j h1 _ => eS j (by omega)) (e1 5 (by omega)) (e2 4 (by omega)), RLt_e ht (by rw [e11]) (e1 11 (by omega)) (e2 10 (by omega)) (e1 17 (by omega)) (e1 18 (by omega)), RLo_e ho (by rw [e11]) (by rw [e11]) (e1 22 (by omega)) (e2 21 (by omega))⟩
  rw [eS 0 (by decide), e2 0 (by omega)]
  exact RS_up hA hT h2
theorem LR_6 {S : SS} {τ : HV} {T : Nat} (h : LR S τ T) (v : Int32) (hT : T < 2 ^ 20) : LR S (sS τ 6 v) T := LR_e h (Nat.le_refl _) hT (fun _ _ => rfl) (fun i hi => sS_1n (by omega)) (fun _ _ => rfl)
theorem LR_up {S : SS} {τ : HV} {T T' : Nat} (h : LR S τ T) (hT : T ≤ T') (h2 : T' < 2 ^ 20) : LR S τ T' := LR_e h hT h2 (fun _ _ => rfl) (fun _ _ => rfl) (fun _ _ => rfl)
theorem LR_get {S : SS} {τ : HV} {T : Nat} (h : LR S τ T) : ∃ A t s, τ = sA t 0 s ∧ RC A (S 0) ∧ RM A s ∧ Inv A T := by
  obtain ⟨⟨A, h1, h2, h3⟩, _⟩ := h
  exact ⟨A, τ, τ.2 0, (sA_id rfl).symm, h1, h2, h3⟩
theorem sS_sA {t : HV} {s : Nat → Int32} {i : Nat} {v : Int32} : sS (sA t 0 s) i v = sA (sS t i v) 0 s := rfl
/-- a call that only looks on -/
def rQ {V : Type} (F : Option (V ⊕ Nat)) (G : Option (V × HV)) (τ : HV) (e9 : Nat) : Prop := (∃ v, F = some (.inl v) ∧ G = some (v, sS τ 6 0)) ∨ ∃ b, F = some (.inr e9) ∧ G = some (b, sS τ 6 1)
theorem rQl {V : Type} {F : Option (V ⊕ Nat)} {G : Option (V × HV)} {t : HV} {s : Nat → Int32} {e9 : Nat} (h : ∃ v, F = some (.inl v) ∧ G = some (v, sA (sS t 6 0) 0 s)) : rQ F G (sA t 0 s) e9 := Or.inl h
