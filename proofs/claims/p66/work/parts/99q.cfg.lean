/-! ===== a text of a hedge: the statements ===== -/
theorem tS_i {B : Nat → Nat} {n p : Nat} (hp : p ≤ n) : tS B n (tS B n p) = tS B n p := by
  have hs := tS_le (B := B) hp
  have h := runE_sp (q := fun k => isSp (B k)) hp
  exact runE_is (Nat.le_refl _) hs.2 (fun j a b => absurd b (by omega)) h.2.2.2
theorem tK_i {B : Nat → Nat} {n p : Nat} (hp : p ≤ n) : tK B n (tS B n p) = tK B n p := by
  unfold tK
  rw [tS_i hp]
theorem tE_i {B : Nat → Nat} {n p : Nat} (hp : p ≤ n) : tE B n (tS B n p) = tE B n p := by
  unfold tE
  rw [tS_i hp]
theorem isW_i {B : Nat → Nat} {n p : Nat} {w : List Int32} (hp : p ≤ n) : isW B n (tS B n p) w = isW B n p w := by
  rw [Bool.eq_iff_iff, isW_t, isW_t, tK_i hp, tE_i hp, tS_i hp]
theorem wlN_i {B : Nat → Nat} {n p : Nat} (hp : p ≤ n) : wlN B n (tS B n p) = wlN B n p := by
  unfold wlN
  rw [tS_i hp]
theorem nxT_i {B : Nat → Nat} {n p : Nat} {t : HV} (hp : p ≤ n) : nxT B n (tS B n p) (nxT B n p t) = nxT B n p t := by
  have e : nxT B n (tS B n p) (nxT B n p t) = sS (sS (sS (nxT B n p t) 12 (nI (tS B n p))) 13 (nI (tS B n p))) 14 (nI (wlN B n p)) := by
    show sS (sS (sS (nxT B n p t) 12 (nI (tS B n (tS B n p)))) 13 (nI (tS B n (tS B n p)))) 14 (nI (wlN B n (tS B n p))) = _
    rw [tS_i hp, wlN_i hp]
  rw [e, sS_id nx_12, sS_id nx_13, sS_id nx_14]
def atA (A : AS) : AS := Sn A (up (Hn A) 7 (Hn A 1))
def fm (t t' : HV) : Prop := (∀ i, (i < 8 ∨ (9 ≤ i ∧ i < 12) ∨ 17 ≤ i) → t'.1 i = t.1 i) ∧ ∀ a, a ≠ 0 → a ≠ 9 → t'.2 a = t.2 a
theorem fm_r {t : HV} : fm t t := ⟨fun _ _ => rfl, fun _ _ _ => rfl⟩
theorem fm_t {t t' t2 : HV} (h : fm t t') (h2 : fm t' t2) : fm t t2 := ⟨fun i hi => (h2.1 i hi).trans (h.1 i hi), fun a h0 h9 => (h2.2 a h0 h9).trans (h.2 a h0 h9)⟩
theorem fr_fm {t t' : HV} (h : fr t t') : fm t t' := ⟨fun i hi => h.2 i (by omega), fun a _ _ => by rw [h.1]⟩
theorem fm_A {t t' : HV} (h : fm t t') {a : Nat} {r : Nat → Int32} (ha : a = 0 ∨ a = 9) : fm t (sA t' a r) := ⟨fun i hi => h.1 i hi, fun b h0 h9 => by rw [sA_2n (by omega)]; exact h.2 b h0 h9⟩
theorem fm_S {t t' : HV} (h : fm t t') {i : Nat} {v : Int32} (hi : i = 8 ∨ (12 ≤ i ∧ i < 17)) : fm t (sS t' i v) := ⟨fun j hj => by rw [sS_1n (by omega)]; exact h.1 j hj, h.2⟩
def fS (S0 S : SS) : Prop := (∀ j, j ≠ 1 → j ≠ 11 → S j = S0 j) ∧ ∀ q, q ≠ 4 → S 11 q = S0 11 q
def sT (S : SS) (g : HV) : SS := up S 11 (up (S 11) 4 g)
theorem sT_4 {S : SS} {g : HV} : sT S g 11 4 = g := by unfold sT; rw [up_s, up_s]
theorem sT_o {S : SS} {g : HV} {j : Nat} (h : j ≠ 11) : sT S g j = S j := up_n h
theorem sT_q {S : SS} {g : HV} {q : Nat} (h : q ≠ 4) : sT S g 11 q = S 11 q := by unfold sT; rw [up_s, up_n h]
theorem fS_T {S0 S : SS} {g : HV} (h : fS S0 S) : fS S0 (sT S g) := ⟨fun j h1 h2 => by rw [sT_o h2]; exact h.1 j h1 h2, fun q hq => by rw [sT_q hq]; exact h.2 q hq⟩
theorem fS_1 {S0 S : SS} {u : Nat → HV} (h : fS S0 S) : fS S0 (up S 1 u) := ⟨fun j h1 h2 => by rw [up_n h1]; exact h.1 j h1 h2, fun q hq => by rw [up_n (by decide)]; exact h.2 q hq⟩
/-- both before a token at p, nothing wrong so far -/
def PJ (B : Nat → Nat) (n p : Nat) (A : AS) (T : Nat) (S0 : SS) (t0 : HV) (S : SS) (t : HV) : Prop := (p ≤ n ∧ CB B n (S 11 4) ∧ (S 11 4).1 2 = nI p ∧ (S 11 4).1 7 = 0 ∧ (S 11 4).1 8 = -1 ∧ RC (atA A) (S 1) ∧ fS S0 S) ∧ (MB B n t ∧ t.1 12 = nI p ∧ t.1 15 = 0 ∧ t.1 16 = -1 ∧ RM A (t.2 0) ∧ fm t0 t) ∧ (Inv A T ∧ (∀ g, g < 2 → Hp A g = bare) ∧ Hl A = [])
def PE (S0 : SS) (t0 : HV) (S : SS) (t : HV) : Prop := ∃ c q, 0 < c ∧ c < 5 ∧ CX2 c q (S 11 4) ∧ fS S0 S ∧ t.1 15 = nI c ∧ t.1 16 = nI q ∧ fm t0 t
theorem PE_n {S0 S : SS} {t0 t : HV} (h : PE S0 t0 S t) : t.1 15 ≠ 0 := by
  obtain ⟨c, q, h0, h4, _, _, h15, _⟩ := h
  rw [h15, L0]
  intro e
  rw [Z_eq (by omega) (by omega)] at e
  omega
theorem num_cq {B : Nat → Nat} {n lo hi p c q : Nat} (h : numR B n lo hi p = .inl (c, q)) : 0 < c ∧ c < 5 := by
  unfold numR at h
  split at h
  · split at h
    · cases h
    · cases h; exact ⟨by decide, by decide⟩
  · cases h; exact ⟨by decide, by decide⟩
theorem let_cq {B : Nat → Nat} {n p c q : Nat} (h : letR B n p = .inl (c, q)) : 0 < c ∧ c < 5 := by
  unfold letR at h
  split at h
  · cases h
  · cases h; exact ⟨by decide, by decide⟩
theorem wrd_cq {B : Nat → Nat} {n p c q : Nat} (h : wrdR B n p = .inl (c, q)) : 0 < c ∧ c < 5 := by
  unfold wrdR at h
  split at h
  · cases h
  · cases h; exact ⟨by decide, by decide⟩
theorem sem_cq {B : Nat → Nat} {n p c q : Nat} (h : semR B n p = .inl (c, q)) : 0 < c ∧ c < 5 := by
  unfold semR at h
  split at h
  · cases h
  · cases h; exact ⟨by decide, by decide⟩
theorem no4 {A : AS} {T : Nat} (hI : Inv A T) (hp : ∀ g, g < 2 → Hp A g = bare) (hl : Hl A = []) (k : Nat) : Hr A 4 k = 0 := by
  have bI := hI
  obtain ⟨hT, ⟨⟨b0, b0'⟩, ⟨b1, b1'⟩, b2, ⟨b3, b3'⟩, ⟨b4, b4'⟩, ⟨b5, b5'⟩, b6, b7⟩, hRw, hNs, hQu, hPr, hVm⟩ := id hI
  by_cases c : 0 < Hr A 4 k
  · obtain ⟨m, hm, _⟩ := hVm.2.1 k c
    unfold msgs at hm
    rw [hl, prg_0 (by rw [hp 0 (by decide)]; rfl), prg_0 (by rw [hp 1 (by decide)]; rfl)] at hm
    cases hm
  · omega
theorem RC_tw {A : AS} {h : Nat → HV} (hH : RC A h) {k c o l : Nat} (hk : k < 40) : RC (opTw A k c o l) (F_X5_placeTwig (nI k) (nI c) (nI o) (nI l) h) := by
  obtain ⟨r1, f1⟩ := C_placeTwig hH.1 (k := k) (c := c) (o := o) (l := l) hk
  exact ⟨r1, by rw [f1 3 (by decide)]; exact hH.2⟩
theorem Inv_at {A : AS} {T : Nat} (hI : Inv A T) : Inv (atA A) T := by
  have bI := hI
  obtain ⟨hT, ⟨⟨b0, b0'⟩, ⟨b1, b1'⟩, b2, ⟨b3, b3'⟩, ⟨b4, b4'⟩, ⟨b5, b5'⟩, b6, b7⟩, hRw, hNs, hQu, hPr, hVm⟩ := id hI
  have e : ∀ i, i ≠ 7 → Hn (atA A) i = Hn A i := fun i hi => up_n hi
  have e1 : Hn (atA A) 7 = Hn A 1 := (up_s : up (Hn A) 7 (Hn A 1) 7 = Hn A 1)
  refine ⟨hT, ?_, ?_, ?_, hQu, hPr, ?_⟩
  · unfold okNu
    rw [e1, e 0 (by decide), e 1 (by decide), e 2 (by decide), e 3 (by decide), e 4 (by decide), e 5 (by decide), e 6 (by decide)]
    exact ⟨⟨b0, b0'⟩, ⟨b1, b1'⟩, b2, ⟨b3, b3'⟩, ⟨b4, b4'⟩, ⟨b5, b5'⟩, b6, by omega⟩
  · rw [e 0 (by decide), e 6 (by decide)]; exact hRw
  · rw [e 0 (by decide)]; exact hNs
  · rw [e 0 (by decide)]; exact hVm
/-- what a statement comes to -/
def JX (B : Nat → Nat) (n p T : Nat) (S0 : SS) (t0 : HV) (F : Option (Bool × SS)) (G : Option HV) : Prop := ∃ b S' t', F = some (b, S') ∧ G = some t' ∧ ((b = true ∧ ∃ p' A', p < p' ∧ PJ B n p' A' T S0 t0 S' t') ∨ (b = false ∧ PE S0 t0 S' t'))
theorem PJ_ref {B : Nat → Nat} {n e T c q : Nat} {A : AS} {S0 S : SS} {t0 t : HV} (h : PJ B n e A T S0 t0 S t) (h0 : 0 < c) (h5 : c < 5) (hq : (S 11 4).1 4 = nI q) (hq2 : t.1 13 = nI q) : PE S0 t0 (sT S (sS (sS (S 11 4) 7 (nI c)) 8 ((S 11 4).1 4))) (sS (sS t 15 (nI c)) 16 (t.1 13)) := by
  obtain ⟨⟨_, _, _, _, _, _, h7⟩, ⟨_, _, _, _, _, m6⟩, _⟩ := h
  refine ⟨c, q, h0, h5, ?_, fS_T h7, ?_, ?_, fm_S (fm_S m6 (by omega)) (by omega)⟩
  · rw [sT_4, hq]; exact refuse_7
  · rw [sS_1n (by decide), sS_1]
  · rw [sS_1]; exact hq2
