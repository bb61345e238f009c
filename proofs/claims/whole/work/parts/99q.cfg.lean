/-! ===== a text of a hedge: the statements ===== -/
theorem tS_i {B : Nat → Nat} {n p : Nat} (hp : p ≤ n) : tS B n (tS B n p) = tS B n p := by
  have hs := tS_le (B := B) hp
  have h := runE_sp (q := fun k => isSp (B k)) hp
  exact runE_is (Nat.le_refl _) hs.2 (fun j a b => absurd b (by omega)) h.2.2.2
theorem tK_i {B : Nat → Nat} {n p : Nat} (hp : p ≤ n) : tK B n (tS B n p) = tK B n p := by
  unfold tK
  rw [tS_i hp]
theorem tE_i {B : Nat → Nat} {n p : Nat} (hp : p ≤ n) : tE B n (tS B n p) = tE B n p := by
  unfold tE
  rw [tS_i hp]
theorem isW_i {B : Nat → Nat} {n p : Nat} {w : List Int32} (hp : p ≤ n) : isW B n (tS B n p) w = isW B n p w := by
  rw [Bool.eq_iff_iff, isW_t, isW_t, tK_i hp, tE_i hp, tS_i hp]
theorem wlN_i {B : Nat → Nat} {n p : Nat} (hp : p ≤ n) : wlN B n (tS B n p) = wlN B n p := by
  unfold wlN
  rw [tS_i hp]
theorem nxT_i {B : Nat → Nat} {n p : Nat} {t : HV} (hp : p ≤ n) : nxT B n (tS B n p) (nxT B n p t) = nxT B n p t := by
  have e : nxT B n (tS B n p) (nxT B n p t) = sS (sS (sS (nxT B n p t) 12 (nI (tS B n p))) 13 (nI (tS B n p))) 14 (nI (wlN B n p)) := by
    show sS (sS (sS (nxT B n p t) 12 (nI (tS B n (tS B n p)))) 13 (nI (tS B n (tS B n p)))) 14 (nI (wlN B n (tS B n p))) = _
    rw [tS_i hp, wlN_i hp]
  rw [e, sS_id nx_12, sS_id nx_13, sS_id nx_14]
def atA (A : AS) : AS := Sn A (up (Hn A) 7 (Hn A 1))
def fm (t t' : HV) : Prop := (∀ i, (i < 8 ∨ (9 ≤ i ∧ i < 12) ∨ 17 ≤ i) → t'.1 i = t.1 i) ∧ ∀ a, a ≠ 0 → a ≠ 9 → t'.2 a = t.2 a
theorem fm_r {t : HV} : fm t t := ⟨fun _ _ => rfl, fun _ _ _ => rfl⟩
theorem fm_t {t t' t2 : HV} (h : fm t t') (h2 : fm t' t2) : fm t t2 := ⟨fun i hi => (h2.1 i hi).trans (h.1 i hi), fun a h0 h9 => (h2.2 a h0 h9).trans (h.2 a h0 h9)⟩
theorem fr_fm {t t' : HV} (h : fr t t') : fm t t' := ⟨fun i hi => h.2 i (by omega), fun a _ _ => by rw [h.1]⟩
theorem fm_A {t t' : HV} (h : fm t t') {a : Nat} {r : Nat → Int32} (ha : a = 0 ∨ a = 9) : fm t (sA t' a r) := ⟨fun i hi => h.1 i hi, fun b h0 h9 => by rw [sA_2n (by omega)]; exact h.2 b h0 h9⟩
theorem fm_S {t t' : HV} (h : fm t t') {i : Nat} {v : Int32} (hi : i = 8 ∨ (12 ≤ i ∧ i < 17)) : fm t (sS t' i v) := ⟨fun j hj => by rw [sS_1n (by omega)]; exact h.1 j hj, h.2⟩
def fS (S0 S : SS) : Prop := (∀ j, j ≠ 1 → j ≠ 11 → S j = S0 j) ∧ ∀ q, q ≠ 4 → S 11 q = S0 11 q
def sT (S : SS) (g : HV) : SS := up S 11 (up (S 11) 4 g)
theorem sT_4 {S : SS} {g : HV} : sT S g 11 4 = g := by unfold sT; rw [up_s, up_s]
theorem sT_o {S : SS} {g : HV} {j : Nat} (h : j ≠ 11) : sT S g j = S j := up_n h
theorem sT_q {S : SS} {g : HV} {q : Nat} (h : q ≠ 4) : sT S g 11 q = S 11 q := by unfold sT; rw [up_s, up_n h]
theorem fS_T {S0 S : SS} {g : HV} (h : fS S0 S) : fS S0 (sT S g) := ⟨fun j h1 h2 => by rw [sT_o h2]; exact h.1 j h1 h2, fun q hq => by rw [sT_q hq]; exact h.2 q hq⟩
theorem fS_1 {S0 S : SS} {u : Nat → HV} (h : fS S0 S) : fS S0 (up S 1 u) := ⟨fun j h1 h2 => by rw [up_n h1]; exact h.1 j h1 h2, fun q hq => by rw [up_n (by decide)]; exact h.2 q hq⟩
/-- both before a token at p, nothing wrong so far -/
def PJ (B : Nat → Nat) (n p : Nat) (A : AS) (T : Nat) (S0 : SS) (t0 : HV) (S : SS) (t : HV) : Prop := (p ≤ n ∧ CB B n (S 11 4) ∧ (S 11 4).1 2 = nI p ∧ (S 11 4).1 7 = 0 ∧ (S 11 4).1 8 = -1 ∧ RC (atA A) (S 1) ∧ fS S0 S) ∧ (MB B n t ∧ t.1 12 = nI p ∧ t.1 15 = 0 ∧ t.1 16 = -1 ∧ RM A (t.2 0) ∧ fm t0 t) ∧ (Inv A T ∧ (∀ g, g < 2 → Hp A g = bare) ∧ Hl A = [])
def PE (S0 : SS) (t0 : HV) (S : SS) (t : HV) : Prop := ∃ c q, 0 < c ∧ c < 5 ∧ CX2 c q (S 11 4) ∧ fS S0 S ∧ t.1 15 = nI c ∧ t.1 16 = nI q ∧ fm t0 t
theorem PE_n {S0 S : SS} {t0 t : HV} (h : PE S0 t0 S t) : t.1 15 ≠ 0 := by
  obtain ⟨c, q, h0, h4, _, _, h15, _⟩ := h
  rw [h15, L0]
  intro e
  rw [Z_eq (by omega) (by omega)] at e
  omega
theorem num_cq {B : Nat → Nat} {n lo hi p c q : Nat} (h : numR B n lo hi p = .inl (c, q)) : 0 < c ∧ c < 5 := by
  unfold numR at h
  split at h
  · split at h
    · cases h
    · cases h; exact ⟨by decide, by decide⟩
  · cases h; exact ⟨by decide, by decide⟩
theorem let_cq {B : Nat → Nat} {n p c q : Nat} (h : letR B n p = .inl (c, q)) : 0 < c ∧ c < 5 := by
  unfold letR at h
  split at h
  · cases h
  · cases h; exact ⟨by decide, by decide⟩
theorem wrd_cq {B : Nat → Nat} {n p c q : Nat} (h : wrdR B n p = .inl (c, q)) : 0 < c ∧ c < 5 := by
  unfold wrdR at h
  split at h
  · cases h
  · cases h; exact ⟨by decide, by decide⟩
theorem sem_cq {B : Nat → Nat} {n p c q : Nat} (h : semR B n p = .inl (c, q)) : 0 < c ∧ c < 5 := by
  unfold semR at h
  split at h
  · cases h
  · cases h; exact ⟨by decide, by decide⟩
theorem no4 {A : AS} {T : Nat} (hI : Inv A T) (hp : ∀ g, g < 2 → Hp A g = bare) (hl : Hl A = []) (k : Nat) : Hr A 4 k = 0 := by
  have bI := hI
  obtain ⟨hT, ⟨⟨b0, b0'⟩, ⟨b1, b1'⟩, b2, ⟨b3, b3'⟩, ⟨b4, b4'⟩, ⟨b5, b5'⟩, b6, b7⟩, hRw, hNs, hQu, hPr, hVm⟩ := id hI
  by_cases c : 0 < Hr A 4 k
  · obtain ⟨m, hm, _⟩ := hVm.2.1 k c
    unfold msgs at hm
    rw [hl, prg_0 (by rw [hp 0 (by decide)]; rfl), prg_0 (by rw [hp 1 (by decide)]; rfl)] at hm
    cases hm
  · omega
theorem RC_tw {A : AS} {h : Nat → HV} (hH : RC A h) {k c o l : Nat} (hk : k < 40) : RC (opTw A k c o l) (F_X5_placeTwig (nI k) (nI c) (nI o) (nI l) h) := by
  obtain ⟨r1, f1⟩ := C_placeTwig hH.1 (k := k) (c := c) (o := o) (l := l) hk
  exact ⟨r1, by rw [f1 3 (by decide)]; exact hH.2⟩
theorem Inv_at {A : AS} {T : Nat} (hI : Inv A T) : Inv (atA A) T := by
  have bI := hI
  obtain ⟨hT, ⟨⟨b0, b0'⟩, ⟨b1, b1'⟩, b2, ⟨b3, b3'⟩, ⟨b4, b4'⟩, ⟨b5, b5'⟩, b6, b7⟩, hRw, hNs, hQu, hPr, hVm⟩ := id hI
  have e : ∀ i, i ≠ 7 → Hn (atA A) i = Hn A i := fun i hi => up_n hi
  have e1 : Hn (atA A) 7 = Hn A 1 := (up_s : up (Hn A) 7 (Hn A 1) 7 = Hn A 1)
  refine ⟨hT, ?_, ?_, ?_, hQu, hPr, ?_⟩
  · unfold okNu
    rw [e1, e 0 (by decide), e 1 (by decide), e 2 (by decide), e 3 (by decide), e 4 (by decide), e 5 (by decide), e 6 (by decide)]
    exact ⟨⟨b0, b0'⟩, ⟨b1, b1'⟩, b2, ⟨b3, b3'⟩, ⟨b4, b4'⟩, ⟨b5, b5'⟩, b6, by omega⟩
  · rw [e 0 (by decide), e 6 (by decide)]; exact hRw
  · rw [e 0 (by decide)]; exact hNs
  · rw [e 0 (by decide)]; exact hVm
/-- the end of a statement: the sign ';' on both sides -/
theorem J_sem {B : Nat → Nat} {n e T N : Nat} {A : AS} {S0 S : SS} {t0 t : HV} (h : PJ B n e A T S0 t0 S t) (hN : 900 < N) : ∃ b g' t', F_X9_readSemicolon N (S 11 4) = some (b, g') ∧ F_X11_semicolon N t = some t' ∧ ((b = true ∧ ∃ p', e < p' ∧ PJ B n p' A T S0 t0 (sT S g') t') ∨ (b = false ∧ PE S0 t0 (sT S g') t')) := by
  obtain ⟨⟨h1, h2, h3, h4, h5, h6, h7⟩, ⟨m1, m2, m3, m4, m5, m6⟩, i1⟩ := h
  cases hr : semR B n e with
  | inl cq =>
    obtain ⟨g', f1, f2⟩ := (C_sem h2 h1 h3 hN).2 cq.1 cq.2 hr
    obtain ⟨t', f3, f4⟩ := (M_sem m1 h1 m2 m3 hN).2 cq.1 cq.2 hr
    obtain ⟨c0, c4⟩ := sem_cq (c := cq.1) (q := cq.2) hr
    exact ⟨false, g', t', f1, f3, Or.inr ⟨rfl, cq.1, cq.2, c0, c4, by rw [sT_4]; exact f2, fS_T h7, f4.2.1, f4.2.2, fm_t m6 (fr_fm f4.1)⟩⟩
  | inr e' =>
    obtain ⟨g', f1, f2⟩ := (C_sem h2 h1 h3 hN).1 e' hr
    obtain ⟨t', f3, f4⟩ := (M_sem m1 h1 m2 m3 hN).1 e' hr
    have hok := semR_ok h1 hr
    refine ⟨true, g', t', f1, f3, Or.inl ⟨rfl, e', hok.1, ⟨hok.2, by rw [sT_4]; exact f2.1, by rw [sT_4]; exact f2.2.1, by rw [sT_4, f2.2.2.1 7 (by decide)]; exact h4, by rw [sT_4, f2.2.2.1 8 (by decide)]; exact h5, by rw [sT_o (by decide)]; exact h6, fS_T h7⟩, ⟨MB_f m1 f4.1, f4.2.1, f4.2.2.1, f4.2.2.2.trans m4, by rw [f4.1.1]; exact m5, fm_t m6 (fr_fm f4.1)⟩, i1⟩⟩
/-- a number on both sides -/
theorem J_num {B : Nat → Nat} {n p T N lo hi : Nat} {A : AS} {S0 S : SS} {t0 t : HV} (h : PJ B n p A T S0 t0 S t) (hlo : lo < 2 ^ 20) (hhi : hi < 2 ^ 20) (hN : 900 < N) : (∃ g' t', F_X9_readNumber N (nI lo) (nI hi) (S 11 4) = some (false, g') ∧ F_X11_number N (nI lo) (nI hi) t = some (nI lo, t') ∧ t'.1 15 ≠ 0 ∧ PE S0 t0 (sT S g') t') ∨ ∃ v e g' t', F_X9_readNumber N (nI lo) (nI hi) (S 11 4) = some (true, g') ∧ F_X11_number N (nI lo) (nI hi) t = some (nI v, t') ∧ lo ≤ v ∧ v ≤ hi ∧ p < e ∧ g'.1 6 = nI v ∧ g'.1 4 = nI (tS B n p) ∧ t'.1 13 = nI (tS B n p) ∧ PJ B n e A T S0 t0 (sT S g') t' := by
  obtain ⟨⟨h1, h2, h3, h4, h5, h6, h7⟩, ⟨m1, m2, m3, m4, m5, m6⟩, i1⟩ := h
  cases hr : numR B n lo hi p with
  | inl cq =>
    obtain ⟨g', f1, f2⟩ := (C_num h2 h1 h3 hlo hhi hN).2 cq.1 cq.2 hr
    obtain ⟨t', f3, f4⟩ := (M_num m1 h1 m2 m3 hlo hhi hN).2 cq.1 cq.2 hr
    obtain ⟨c0, c4⟩ := num_cq (c := cq.1) (q := cq.2) hr
    have hPE : PE S0 t0 (sT S g') t' := ⟨cq.1, cq.2, c0, c4, by rw [sT_4]; exact f2, fS_T h7, f4.2.1, f4.2.2, fm_t m6 (fr_fm f4.1)⟩
    exact Or.inl ⟨g', t', f1, f3, PE_n hPE, hPE⟩
  | inr ve =>
    obtain ⟨g', f1, f2, f6, f7⟩ := (C_num h2 h1 h3 hlo hhi hN).1 ve.1 ve.2 hr
    obtain ⟨t', f3, f4, f5⟩ := (M_num m1 h1 m2 m3 hlo hhi hN).1 ve.1 ve.2 hr
    have hok := numR_ok (v := ve.1) (e := ve.2) h1 hr
    exact Or.inr ⟨ve.1, ve.2, g', t', f1, f3, hok.1, hok.2.1, hok.2.2.1, f6, f7, f5, ⟨hok.2.2.2.1, by rw [sT_4]; exact f2.1, by rw [sT_4]; exact f2.2.1, by rw [sT_4, f2.2.2.1 7 (by decide)]; exact h4, by rw [sT_4, f2.2.2.1 8 (by decide)]; exact h5, by rw [sT_o (by decide)]; exact h6, fS_T h7⟩, ⟨MB_f m1 f4.1, f4.2.1, f4.2.2.1, f4.2.2.2.trans m4, by rw [f4.1.1]; exact m5, fm_t m6 (fr_fm f4.1)⟩, i1⟩
theorem J_let {B : Nat → Nat} {n p T N : Nat} {A : AS} {S0 S : SS} {t0 t : HV} (h : PJ B n p A T S0 t0 S t) (hN : 900 < N) : (∃ g' v t', F_X9_readLetter N (S 11 4) = some (false, g') ∧ F_X11_letterHere N t = some (v, t') ∧ t'.1 15 ≠ 0 ∧ PE S0 t0 (sT S g') t') ∨ ∃ c e g' t', F_X9_readLetter N (S 11 4) = some (true, g') ∧ F_X11_letterHere N t = some (nI c, t') ∧ 97 ≤ c ∧ c ≤ 122 ∧ p < e ∧ g'.1 6 = nI c ∧ PJ B n e A T S0 t0 (sT S g') t' := by
  obtain ⟨⟨h1, h2, h3, h4, h5, h6, h7⟩, ⟨m1, m2, m3, m4, m5, m6⟩, i1⟩ := h
  cases hr : letR B n p with
  | inl cq =>
    obtain ⟨g', f1, f2⟩ := (C_let h2 h1 h3 hN).2 cq.1 cq.2 hr
    obtain ⟨v, t', f3, f4⟩ := (M_let m1 h1 m2 m3 hN).2 cq.1 cq.2 hr
    obtain ⟨c0, c4⟩ := let_cq (c := cq.1) (q := cq.2) hr
    have hPE : PE S0 t0 (sT S g') t' := ⟨cq.1, cq.2, c0, c4, by rw [sT_4]; exact f2, fS_T h7, f4.2.1, f4.2.2, fm_t m6 (fr_fm f4.1)⟩
    exact Or.inl ⟨g', v, t', f1, f3, PE_n hPE, hPE⟩
  | inr ve =>
    obtain ⟨g', f1, f2, f6⟩ := (C_let h2 h1 h3 hN).1 ve.1 ve.2 hr
    obtain ⟨t', f3, f4⟩ := (M_let m1 h1 m2 m3 hN).1 ve.1 ve.2 hr
    have hok := letR_ok (c := ve.1) (e := ve.2) h1 hr
    exact Or.inr ⟨ve.1, ve.2, g', t', f1, f3, hok.1, hok.2.1, hok.2.2.1, f6, ⟨hok.2.2.2, by rw [sT_4]; exact f2.1, by rw [sT_4]; exact f2.2.1, by rw [sT_4, f2.2.2.1 7 (by decide)]; exact h4, by rw [sT_4, f2.2.2.1 8 (by decide)]; exact h5, by rw [sT_o (by decide)]; exact h6, fS_T h7⟩, ⟨MB_f m1 f4.1, f4.2.1, f4.2.2.1, f4.2.2.2.trans m4, by rw [f4.1.1]; exact m5, fm_t m6 (fr_fm f4.1)⟩, i1⟩
/-- what a statement comes to -/
def JX (B : Nat → Nat) (n p T : Nat) (S0 : SS) (t0 : HV) (F : Option (Bool × SS)) (G : Option HV) : Prop := ∃ b S' t', F = some (b, S') ∧ G = some t' ∧ ((b = true ∧ ∃ p' A', p < p' ∧ PJ B n p' A' T S0 t0 S' t') ∨ (b = false ∧ PE S0 t0 S' t'))
theorem PJ_ref {B : Nat → Nat} {n e T c q : Nat} {A : AS} {S0 S : SS} {t0 t : HV} (h : PJ B n e A T S0 t0 S t) (h0 : 0 < c) (h5 : c < 5) (hq : (S 11 4).1 4 = nI q) (hq2 : t.1 13 = nI q) : PE S0 t0 (sT S (sS (sS (S 11 4) 7 (nI c)) 8 ((S 11 4).1 4))) (sS (sS t 15 (nI c)) 16 (t.1 13)) := by
  obtain ⟨⟨_, _, _, _, _, _, h7⟩, ⟨_, _, _, _, _, m6⟩, _⟩ := h
  refine ⟨c, q, h0, h5, ?_, fS_T h7, ?_, ?_, fm_S (fm_S m6 (by omega)) (by omega)⟩
  · rw [sT_4, hq]; exact refuse_7
  · rw [sS_1n (by decide), sS_1]
  · rw [sS_1]; exact hq2
theorem J_twig {B : Nat → Nat} {n p T N : Nat} {A : AS} {S0 S : SS} {t0 t : HV} (h : PJ B n p A T S0 t0 S (sS t 12 ((t.1 13) + (t.1 14)))) (hN : 900 < N) : JX B n p T S0 t0 (F_X3_readTwig N 1 S) (ob1 (F_X11_twigLine N t) fun t22 => (ob1 (F_X11_semicolon N t22) fun t24 => some t24)) := by
  have hI := h.2.2.1
  have bI := hI
  obtain ⟨hT, ⟨⟨b0, b0'⟩, ⟨b1, b1'⟩, b2, ⟨b3, b3'⟩, ⟨b4, b4'⟩, ⟨b5, b5'⟩, b6, b7⟩, hRw, hNs, hQu, hPr, hVm⟩ := id hI
  have hC1 : (S 1 0).1 0 = nI (Hn A 0) := h.1.2.2.2.2.2.1.1.1.1 0 (by decide)
  have hM1 : t.2 0 0 = nI (Hn A 0) := h.2.1.2.2.2.2.1.1 0 (by decide)
  unfold F_X3_readTwig F_X11_twigLine F_X11_goesPast
  simp only [lt_d]
  have ea : ag (sS t 12 ((t.1 13) + (t.1 14))) 0 0 = nI (Hn A 0) := by rw [L0, Z_ag (by decide), sS_2, hM1]
  have hz1 : nI (Hn A 0) - 1 = nI (Hn A 0 - 1) := by rw [L1, Z_sub (by omega)]
  rw [hC1, if_pos (by decide), ea, hz1]
  rcases J_num (lo := 0) (hi := Hn A 0 - 1) h (by omega) (by omega) hN with ⟨g1, t1, f1, f2, f3, f4⟩ | ⟨k, e1, g1, t1, f1, f2, _, hk2, hpe, f5, f6, f7, f4⟩
  · rw [show (nI 0 : Int32) = 0 from rfl] at f1 f2
    rw [f1, f2, ob_s, ob_s, if_neg f3, if_neg Bool.false_ne_true, must_t, lett_e f3, ob_s, numb_e f3, ob_s, numb_e f3, ob_s, if_neg f3, ob1_s, semi_e f3, ob1_s]
    exact ⟨false, _, _, rfl, rfl, Or.inr ⟨rfl, f4⟩⟩
  · have hk : k < Hn A 0 := by omega
    have hC1' := f4.1.2.2.2.2.2.1
    have i4 := f4.2.2
    have t15 := f4.2.1.2.2.1
    have hM1' := f4.2.1.2.2.2.2.1
    rw [show (nI 0 : Int32) = 0 from rfl] at f1 f2
    rw [f1, f2, ob_s, ob_s, if_pos t15, if_pos rfl]
    rw [show sT S g1 = up S 11 (up (S 11) 4 g1) from rfl] at f4 hC1'
    have hX : up S 11 (up (S 11) 4 g1) 11 4 = g1 := sT_4
    have hCt := C_hasTwig hC1'.1.1 (Inv_at i4.1) (k := k) (by omega)
    have hMt : F_X11_hasTwig (nI k) t1 = some (decide (0 < Hr A 2 k)) := by
      have := M_hasTwig (t := t1) hM1'.2.2.2.1 hRw (k := k) (by omega)
      rw [sA_id rfl] at this
      exact this
    rw [hX, f5, hMt, ob1_s, refuse_e, lt2_d, must_f t15, must_t]
    by_cases c : 0 < Hr A 2 k
    · have hPE := PJ_ref (c := 3) f4 (by decide) (by decide) (by rw [hX]; exact f6) f7
      rw [hX] at hPE
      have hne := PE_n hPE
      rw [show (3 : Int32) = nI 3 from rfl, if_pos (show F_X5_hasTwig (nI k) (up S 11 (up (S 11) 4 g1) 1) = true by rw [hCt]; exact c), if_pos (decide_eq_true c), lett_e hne, ob_s, numb_e hne, ob_s, numb_e hne, ob_s, if_neg hne, ob1_s, semi_e hne, ob1_s]
      exact ⟨false, _, _, rfl, rfl, Or.inr ⟨rfl, hPE⟩⟩
    · rw [if_neg (show ¬ F_X5_hasTwig (nI k) (up S 11 (up (S 11) 4 g1) 1) = true by rw [hCt]; exact c), if_neg (fun q => c (of_decide_eq_true q))]
      have hJ2 := J_let f4 hN
      rw [hX] at hJ2
      rcases hJ2 with ⟨g2, v2, t2, f1, f2, f3, f4⟩ | ⟨c2, e2, g2, t2, f1, f2, hc, hc2, hpe2, f5', f4⟩
      · rw [f1, f2, ob_s, ob_s, if_neg Bool.false_ne_true, numb_e f3, ob_s, numb_e f3, ob_s, if_neg f3, ob1_s, semi_e f3, ob1_s]
        exact ⟨false, _, _, rfl, rfl, Or.inr ⟨rfl, f4⟩⟩
      · rw [f1, f2, ob_s, ob_s, if_pos rfl]
        rw [show ∀ (Q : SS) (g : HV), sT Q g = up Q 11 (up (Q 11) 4 g) from fun _ _ => rfl] at f4
        generalize hS2 : up (up S 11 (up (S 11) 4 g1)) 11 (up (up S 11 (up (S 11) 4 g1) 11) 4 g2) = S2 at f4 ⊢
        have hX2 : S2 11 4 = g2 := by rw [← hS2]; exact sT_4
        have hJ3 := J_num (lo := 0) (hi := 1) f4 (by decide) (by decide) hN
        rw [hX2] at hJ3 ⊢
        rcases hJ3 with ⟨g3, t3, f1, f2, f3, f4⟩ | ⟨o, e3, g3, t3, f1, f2, _, ho, hpe3, f5o, _, _, f4⟩
        · rw [show (nI 1 : Int32) = 1 from rfl, show (nI 0 : Int32) = 0 from rfl] at f1 f2
          rw [f1, f2, ob_s, ob_s, if_neg Bool.false_ne_true, numb_e f3, ob_s, if_neg f3, ob1_s, semi_e f3, ob1_s]
          exact ⟨false, _, _, rfl, rfl, Or.inr ⟨rfl, f4⟩⟩
        · rw [show (nI 1 : Int32) = 1 from rfl, show (nI 0 : Int32) = 0 from rfl] at f1 f2
          rw [f1, f2, ob_s, ob_s, if_pos rfl]
          rw [show ∀ (Q : SS) (g : HV), sT Q g = up Q 11 (up (Q 11) 4 g) from fun _ _ => rfl] at f4
          generalize hS3 : up S2 11 (up (S2 11) 4 g3) = S3 at f4 ⊢
          have hX3 : S3 11 4 = g3 := by rw [← hS3]; exact sT_4
          have hJ4 := J_num (lo := 1) (hi := 99) f4 (by decide) (by decide) hN
          rw [hX3] at hJ4 ⊢
          rcases hJ4 with ⟨g4, t4, f1, f2, f3, f4⟩ | ⟨l, e4, g4, t4, f1, f2, hl1, hl, hpe4, f5l, _, _, f4⟩
          · rw [show (nI 1 : Int32) = 1 from rfl, show (nI 99 : Int32) = 99 from rfl] at f1 f2
            rw [f1, f2, ob_s, ob_s, if_neg Bool.false_ne_true, if_neg f3, ob1_s, semi_e f3, ob1_s]
            exact ⟨false, _, _, rfl, rfl, Or.inr ⟨rfl, f4⟩⟩
          · rw [show (nI 1 : Int32) = 1 from rfl, show (nI 99 : Int32) = 99 from rfl] at f1 f2
            rw [show ∀ (Q : SS) (g : HV), sT Q g = up Q 11 (up (Q 11) 4 g) from fun _ _ => rfl] at f4
            rw [f1, f2, ob_s, ob_s, if_pos rfl]
            generalize hS4 : up S3 11 (up (S3 11) 4 g4) = S4 at f4 ⊢
            have hX4 : S4 11 4 = g4 := by rw [← hS4]; exact sT_4
            have f4' := f4
            obtain ⟨⟨h1, h2, h3, h4, h5, h6, h7⟩, ⟨m1, m2, m3, m4, m5, m6⟩, i1, i2, i3⟩ := f4
            have hz4 := no4 i1 i2 i3 k
            obtain ⟨s5, w1, w2, w3, w4⟩ := M_tw (t := t4) m5.2.2.2.1 m5.2.1 (k := k) (c := c2) (o := o) (l := l) (f := 0) (by omega) (by omega) (by rw [if_neg (by omega)])
            rw [sA_id rfl] at w1
            have hIn : Inv (opTw A k c2 o l) T := Inv_tw (B := opTw A k c2 o l) i1 hk hc hc2 (by omega) hl rfl rfl i1.2.2.2.2.1 (fun g hg => by show okPr _ (Hp A g); rw [i2 g hg]; exact okPr_bare) (List.Perm.refl _)
            have hRM : RM (opTw A k c2 o l) s5 := by
              obtain ⟨x1, x2, x3, x4, x5, x6, x7⟩ := m5
              exact ⟨RMf_c x1 (fun j a => w4 j (by omega) (by omega)), w3, RMk_c x3 (fun j a b => w4 j (by omega) (by omega)), w2, RMq_c x5 i1.2.2.2.2.1 (fun j a b => w4 j (by omega) (by omega)), RMp_c x6 (fun g hg => (Inv_pl i1 hg).1) (fun j a b => w4 j (by omega) (by omega)), (show RMl (Hl A) _ from RMl_c x7 (RMl_ok i1) (fun j a b => w4 j (by omega) (by omega)))⟩
            have hPJ : PJ B n e4 (opTw A k c2 o l) T S0 t0 (up S4 1 (F_X5_placeTwig (nI k) (nI c2) (nI o) (nI l) (S4 1))) (sA t4 0 s5) := by
              refine ⟨⟨h1, by rw [up_n (by decide)]; exact h2, by rw [up_n (by decide)]; exact h3, by rw [up_n (by decide)]; exact h4, by rw [up_n (by decide)]; exact h5, ?_, fS_1 h7⟩, ⟨MB_e m1 (sA_2n (by decide)) rfl, m2, m3, m4, by rw [sA2s]; exact hRM, fm_A m6 (by omega)⟩, hIn, i2, i3⟩
              rw [up_s]
              exact RC_tw (A := atA A) h6 (by omega)
            obtain ⟨b, g5, t5, y1, y2, y3⟩ := J_sem hPJ hN
            have ez0 : (up S4 1 (F_X5_placeTwig (nI k) (nI c2) (nI o) (nI l) (S4 1))) 11 4 = g4 := by rw [up_n (by decide)]; exact hX4
            rw [ez0] at y1
            rw [if_pos m3, show (0 : Int32) = nI 0 from rfl, w1, ob1_s, ob1_s, y2, ob1_s, hX4, f5', f5o, f5l, ez0, y1, ob_s]
            refine ⟨b, _, t5, rfl, rfl, ?_⟩
            rcases y3 with ⟨rfl, p', hp', y4⟩ | ⟨rfl, y4⟩
            · exact Or.inl ⟨rfl, p', _, by omega, y4⟩
            · exact Or.inr ⟨rfl, y4⟩
