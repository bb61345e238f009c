/-! ===== a text of commands: what follows a command's name ===== -/
def TQ (B : Nat → Nat) (n p : Nat) (g t : HV) : Prop := (p ≤ n ∧ CB B n g ∧ g.1 2 = nI p ∧ g.1 7 = 0 ∧ g.1 8 = -1) ∧ (MB B n t ∧ t.1 12 = nI p ∧ t.1 15 = 0 ∧ t.1 16 = -1)
def ER (g t : HV) : Prop := ∃ c q, 0 < c ∧ c < 5 ∧ CX2 c q g ∧ t.1 15 = nI c ∧ t.1 16 = nI q
theorem ER_n {g t : HV} (h : ER g t) : t.1 15 ≠ 0 := by
  obtain ⟨c, q, h0, h4, _, h15, _⟩ := h
  rw [h15, L0]
  intro e
  rw [Z_eq (by omega) (by omega)] at e
  omega
theorem ER_e {g t t' : HV} (h : ER g t) (e : t'.1 15 = t.1 15) (e2 : t'.1 16 = t.1 16) : ER g t' := by
  obtain ⟨c, q, h0, h4, h5, h15, h16⟩ := h
  exact ⟨c, q, h0, h4, h5, e.trans h15, e2.trans h16⟩
theorem ER_of {c q : Nat} {g t t' : HV} (h0 : 0 < c ∧ c < 5) (h : CX2 c q g) (m : MX c q t t') : ER g t' := ⟨c, q, h0.1, h0.2, h, m.2.1, m.2.2⟩
theorem TQ_ok {B : Nat → Nat} {n p e : Nat} {g g' t t' : HV} (h : TQ B n p g t) (he : e ≤ n) (c : CO B n e g g') (m : MO e t t') : TQ B n e g' t' := ⟨⟨he, c.1, c.2.1, by rw [c.2.2.1 7 (by decide)]; exact h.1.2.2.2.1, by rw [c.2.2.1 8 (by decide)]; exact h.1.2.2.2.2⟩, ⟨MB_f h.2.1 m.1, m.2.1, m.2.2.1, m.2.2.2.trans h.2.2.2.2⟩⟩
theorem T_num {B : Nat → Nat} {n p N lo hi : Nat} {g t : HV} (h : TQ B n p g t) (hlo : lo < 2 ^ 20) (hhi : hi < 2 ^ 20) (hN : 900 < N) : (∃ g' t', F_X9_readNumber N (nI lo) (nI hi) g = some (false, g') ∧ F_X11_number N (nI lo) (nI hi) t = some (nI lo, t') ∧ fr t t' ∧ ER g' t') ∨ ∃ v e g' t', F_X9_readNumber N (nI lo) (nI hi) g = some (true, g') ∧ F_X11_number N (nI lo) (nI hi) t = some (nI v, t') ∧ lo ≤ v ∧ v ≤ hi ∧ p < e ∧ g'.1 6 = nI v ∧ fr t t' ∧ TQ B n e g' t' := by
  cases hr : numR B n lo hi p with
  | inl cq =>
    obtain ⟨g', f1, f2⟩ := (C_num h.1.2.1 h.1.1 h.1.2.2.1 hlo hhi hN).2 cq.1 cq.2 hr
    obtain ⟨t', f3, f4⟩ := (M_num h.2.1 h.1.1 h.2.2.1 h.2.2.2.1 hlo hhi hN).2 cq.1 cq.2 hr
    exact Or.inl ⟨g', t', f1, f3, f4.1, ER_of (num_cq (c := cq.1) (q := cq.2) hr) f2 f4⟩
  | inr ve =>
    obtain ⟨g', f1, f2, f6, f7⟩ := (C_num h.1.2.1 h.1.1 h.1.2.2.1 hlo hhi hN).1 ve.1 ve.2 hr
    obtain ⟨t', f3, f4, f5⟩ := (M_num h.2.1 h.1.1 h.2.2.1 h.2.2.2.1 hlo hhi hN).1 ve.1 ve.2 hr
    have hok := numR_ok (v := ve.1) (e := ve.2) h.1.1 hr
    exact Or.inr ⟨ve.1, ve.2, g', t', f1, f3, hok.1, hok.2.1, hok.2.2.1, f6, f4.1, TQ_ok h hok.2.2.2.1 f2 f4⟩
theorem T_let {B : Nat → Nat} {n p N : Nat} {g t : HV} (h : TQ B n p g t) (hN : 900 < N) : (∃ g' v t', F_X9_readLetter N g = some (false, g') ∧ F_X11_letterHere N t = some (v, t') ∧ fr t t' ∧ ER g' t') ∨ ∃ c e g' t', F_X9_readLetter N g = some (true, g') ∧ F_X11_letterHere N t = some (nI c, t') ∧ 97 ≤ c ∧ c ≤ 122 ∧ p < e ∧ g'.1 6 = nI c ∧ fr t t' ∧ TQ B n e g' t' := by
  cases hr : letR B n p with
  | inl cq =>
    obtain ⟨g', f1, f2⟩ := (C_let h.1.2.1 h.1.1 h.1.2.2.1 hN).2 cq.1 cq.2 hr
    obtain ⟨v, t', f3, f4⟩ := (M_let h.2.1 h.1.1 h.2.2.1 h.2.2.2.1 hN).2 cq.1 cq.2 hr
    exact Or.inl ⟨g', v, t', f1, f3, f4.1, ER_of (let_cq (c := cq.1) (q := cq.2) hr) f2 f4⟩
  | inr ve =>
    obtain ⟨g', f1, f2, f6⟩ := (C_let h.1.2.1 h.1.1 h.1.2.2.1 hN).1 ve.1 ve.2 hr
    obtain ⟨t', f3, f4⟩ := (M_let h.2.1 h.1.1 h.2.2.1 h.2.2.2.1 hN).1 ve.1 ve.2 hr
    have hok := letR_ok (c := ve.1) (e := ve.2) h.1.1 hr
    exact Or.inr ⟨ve.1, ve.2, g', t', f1, f3, hok.1, hok.2.1, hok.2.2.1, f6, f4.1, TQ_ok h hok.2.2.2 f2 f4⟩
theorem T_sem {B : Nat → Nat} {n p N : Nat} {g t : HV} (h : TQ B n p g t) (hN : 900 < N) : (∃ g' t', F_X9_readSemicolon N g = some (false, g') ∧ F_X11_semicolon N t = some t' ∧ fr t t' ∧ ER g' t') ∨ ∃ e g' t', F_X9_readSemicolon N g = some (true, g') ∧ F_X11_semicolon N t = some t' ∧ p < e ∧ fr t t' ∧ TQ B n e g' t' := by
  cases hr : semR B n p with
  | inl cq =>
    obtain ⟨g', f1, f2⟩ := (C_sem h.1.2.1 h.1.1 h.1.2.2.1 hN).2 cq.1 cq.2 hr
    obtain ⟨t', f3, f4⟩ := (M_sem h.2.1 h.1.1 h.2.2.1 h.2.2.2.1 hN).2 cq.1 cq.2 hr
    exact Or.inl ⟨g', t', f1, f3, f4.1, ER_of (sem_cq (c := cq.1) (q := cq.2) hr) f2 f4⟩
  | inr e =>
    obtain ⟨g', f1, f2⟩ := (C_sem h.1.2.1 h.1.1 h.1.2.2.1 hN).1 e hr
    obtain ⟨t', f3, f4⟩ := (M_sem h.2.1 h.1.1 h.2.2.1 h.2.2.2.1 hN).1 e hr
    have hok := semR_ok h.1.1 hr
    exact Or.inr ⟨e, g', t', f1, f3, hok.1, f4.1, TQ_ok h hok.2 f2 f4⟩
abbrev Cmd : Type := Nat × Nat × Nat × Nat
def okCm (B : Nat → Nat) (n : Nat) (c : Cmd) : Prop := c.1 < 8 ∧ c.2.1 ≤ 60 ∧ (c.1 < 4 → c.2.1 ≤ 39) ∧ (c.1 = 0 → 97 ≤ c.2.2.1 ∧ c.2.2.1 ≤ 122) ∧ (c.1 = 2 → 1 ≤ c.2.2.1 ∧ c.2.2.1 ≤ 99) ∧ (c.1 = 3 → 1 ≤ c.2.2.1 ∧ c.2.2.1 ≤ 30) ∧ (c.1 = 4 → c.2.1 < 2 ∧ 0 < c.2.2.2 ∧ c.2.2.2 ≤ 12 ∧ c.2.2.1 + c.2.2.2 ≤ n ∧ ∀ k, k < c.2.2.2 → 97 ≤ B (c.2.2.1 + k) ∧ B (c.2.2.1 + k) ≤ 122) ∧ (c.1 = 5 → c.2.1 < 2 ∧ c.2.2.1 ≤ 7) ∧ (c.1 = 6 → 1 ≤ c.2.1 ∧ c.2.1 ≤ 12) ∧ (c.1 = 7 → 1 ≤ c.2.1)
theorem okCm_of {B : Nat → Nat} {n k v w c : Nat} (hk : k < 8) (h60 : v ≤ 60) (h1 : k < 4 → v ≤ 39) (h2 : k = 0 → 97 ≤ w ∧ w ≤ 122) (h3 : k = 2 → 1 ≤ w ∧ w ≤ 99) (h4 : k = 3 → 1 ≤ w ∧ w ≤ 30) (h5 : k = 4 → v < 2 ∧ 0 < c ∧ c ≤ 12 ∧ w + c ≤ n ∧ ∀ k, k < c → 97 ≤ B (w + k) ∧ B (w + k) ≤ 122) (h6 : k = 5 → v < 2 ∧ w ≤ 7) (h7 : k = 6 → 1 ≤ v ∧ v ≤ 12) (h8 : k = 7 → 1 ≤ v) : okCm B n (k, v, w, c) := ⟨hk, h60, h1, h2, h3, h4, h5, h6, h7, h8⟩
/-- what both lists hold of a command -/
def eC (c : Cmd) (i : Nat) (u : HV) : Prop := u.2 1 i = nI c.2.1 ∧ (c.1 = 0 ∨ c.1 = 2 ∨ c.1 = 3 ∨ c.1 = 5 ∨ c.1 = 4 → u.2 2 i = nI c.2.2.1) ∧ (c.1 = 4 → u.2 3 i = nI c.2.2.2)
def eM (B : Nat → Nat) (c : Cmd) (i : Nat) (r : Nat → Int32) : Prop := r (16 * i + 1) = nI c.2.1 ∧ (c.1 = 0 ∨ c.1 = 2 ∨ c.1 = 3 ∨ c.1 = 5 → r (16 * i + 2) = nI c.2.2.1) ∧ (c.1 = 4 → wAt r (16 * i + 3) (wdL B c.2.2.1 c.2.2.2))
def fX (i : Nat) (S S' : SS) : Prop := (∀ j, j ≠ 11 → S' j = S j) ∧ (∀ q, q ≠ 4 → q ≠ 5 → S' 11 q = S 11 q) ∧ (S' 11 5).1 = (S 11 5).1 ∧ (S' 11 5).2 0 = (S 11 5).2 0 ∧ ∀ r k, k ≠ i → (S' 11 5).2 r k = (S 11 5).2 r k
def fY (i : Nat) (t t' : HV) : Prop := (∀ j, (j < 12 ∨ 17 ≤ j) → t'.1 j = t.1 j) ∧ (∀ a, a ≠ 9 → a ≠ 19 → t'.2 a = t.2 a) ∧ ∀ x, (x ≤ 16 * i ∨ 16 * i + 16 ≤ x) → t'.2 19 x = t.2 19 x
theorem fX_T {i : Nat} {S S' : SS} {g : HV} (h : fX i S S') : fX i S (sT S' g) := ⟨fun j hj => by rw [sT_o hj]; exact h.1 j hj, fun q h4 h5 => by rw [sT_q h4]; exact h.2.1 q h4 h5, by rw [sT_q (by decide)]; exact h.2.2.1, by rw [sT_q (by decide)]; exact h.2.2.2.1, fun r k hk => by rw [sT_q (by decide)]; exact h.2.2.2.2 r k hk⟩
theorem fX_r {i : Nat} {S : SS} : fX i S S := ⟨fun _ _ => rfl, fun _ _ _ => rfl, rfl, rfl, fun _ _ _ => rfl⟩
/-- a cell of the list is written -/
def sL (S : SS) (a : Nat) (i : Nat) (v : Int32) : SS := up S 11 (up (S 11) 5 (sA (S 11 5) a (upd ((S 11 5).2 a) i v)))
theorem sL_e {S : SS} {a i : Nat} {v : Int32} (hi : i < 30) : up S 11 (up (S 11) 5 (sA (S 11 5) a (rset 30 ((S 11 5).2 a) (nI i) v))) = sL S a i v := by
  unfold sL
  rw [Z_rset (by omega) (by decide), if_pos hi]
theorem sL_5 {S : SS} {a i : Nat} {v : Int32} : sL S a i v 11 5 = sA (S 11 5) a (upd ((S 11 5).2 a) i v) := by unfold sL; rw [up_s, up_s]
theorem sL_q {S : SS} {a i q : Nat} {v : Int32} (h : q ≠ 5) : sL S a i v 11 q = S 11 q := by unfold sL; rw [up_s, up_n h]
theorem sL_o {S : SS} {a i j : Nat} {v : Int32} (h : j ≠ 11) : sL S a i v j = S j := up_n h
theorem fX_L {i a : Nat} {S S' : SS} {v : Int32} (h : fX i S S') (ha : a ≠ 0) : fX i S (sL S' a i v) := ⟨fun j hj => by rw [sL_o hj]; exact h.1 j hj, fun q h4 h5 => by rw [sL_q h5]; exact h.2.1 q h4 h5, by rw [sL_5]; exact h.2.2.1, by rw [sL_5, sA_2n (fun e => ha e.symm)]; exact h.2.2.2.1, fun r k hk => by
  rw [sL_5]
  by_cases e : r = a
  · subst e
    rw [sA2s, pk_un hk]; exact h.2.2.2.2 r k hk
  · rw [sA_2n e]; exact h.2.2.2.2 r k hk⟩
theorem fY_r {i : Nat} {t : HV} : fY i t t := ⟨fun _ _ => rfl, fun _ _ _ => rfl, fun _ _ => rfl⟩
theorem fY_f {i : Nat} {t t' t2 : HV} (h : fY i t t') (f : fr t' t2) : fY i t t2 := ⟨fun j hj => (f.2 j hj).trans (h.1 j hj), fun a h9 h19 => by rw [f.1]; exact h.2.1 a h9 h19, fun x hx => by rw [f.1]; exact h.2.2 x hx⟩
theorem fY_L {i x : Nat} {t t' : HV} {v : Int32} (h : fY i t t') (h1 : 16 * i < x) (h2 : x < 16 * i + 16) : fY i t (sA t' 19 (upd (t'.2 19) x v)) := ⟨fun j hj => h.1 j hj, fun a h9 h19 => by rw [sA_2n h19]; exact h.2.1 a h9 h19, fun y hy => by rw [sA2s, pk_un (by omega)]; exact h.2.2 y hy⟩
theorem TQ_e {B : Nat → Nat} {n p : Nat} {g g' t t' : HV} (h : TQ B n p g t) (eg : g' = g) (e1 : t'.1 = t.1) (e2 : t'.2 10 = t.2 10) : TQ B n p g' t' := by
  subst eg
  exact ⟨h.1, MB_e h.2.1 e2 (by rw [e1]), by rw [e1]; exact h.2.2.1, by rw [e1]; exact h.2.2.2.1, by rw [e1]; exact h.2.2.2.2⟩
def AJ (B : Nat → Nat) (n p i k : Nat) (S : SS) (t : HV) (F : Option (Bool × SS)) (G : Option HV) : Prop := ∃ b S' t', F = some (b, S') ∧ G = some t' ∧ fX i S S' ∧ fY i t t' ∧ ((b = true ∧ ∃ c e, c.1 = k ∧ okCm B n c ∧ p < e ∧ TQ B n e (S' 11 4) t' ∧ eC c i (S' 11 5) ∧ eM B c i (t'.2 19)) ∨ (b = false ∧ ER (S' 11 4) t'))
/-- one number alone -/
theorem A_one {B : Nat → Nat} {n p N i k lo hi : Nat} {S : SS} {t : HV} (h : TQ B n p (S 11 4) t) (hi2 : i < 30) (hlo : lo < 2 ^ 20) (hhi : hi < 2 ^ 20) (hN : 900 < N) (hok : ∀ v, lo ≤ v → v ≤ hi → okCm B n (k, v, 0, 0)) (hk : k ≠ 0 ∧ k ≠ 2 ∧ k ≠ 3 ∧ k ≠ 4 ∧ k ≠ 5) : AJ B n p i k S t (ob (F_X9_readNumber N (nI lo) (nI hi) (S 11 4)) fun v1 g2 => (lt (up S 11 (up (S 11) 4 g2)) fun S3 => (if v1 = true then (lt (up S3 11 (up (S3 11) 5 (sA (S3 11 5) 1 (rset 30 ((S3 11 5).2 1) (nI i) ((S3 11 4).1 6))))) fun S5 => some (true, S5)) else some (false, S3)))) (ob (F_X11_number N (nI lo) (nI hi) t) fun v15 t16 => (if vpb (nI (16 * i + 1)) 480 = true then (lt (aw t16 19 (nI (16 * i + 1)) v15) fun t18 => some t18) else none)) := by
  have hv : vpb (nI (16 * i + 1)) 480 = true := by rw [Z_vpb (by omega)]; omega
  rcases T_num h hlo hhi hN with ⟨g1, t1, f1, f2, f3, f4⟩ | ⟨v, e, g1, t1, f1, f2, l1, l2, hpe, f5, f3, f4⟩
  · rw [f1, f2, ob_s, ob_s, if_pos hv, lt_d, lt_d, if_neg Bool.false_ne_true, Z_aw (by omega)]
    exact ⟨false, sT S g1, _, rfl, rfl, fX_T fX_r, fY_L (fY_f fY_r f3) (by omega) (by omega), Or.inr ⟨rfl, by rw [sT_4]; exact ER_e f4 rfl rfl⟩⟩
  · rw [f1, f2, ob_s, ob_s, if_pos hv, lt_d, lt_d, if_pos rfl, lt_d, Z_aw (by omega), show up S 11 (up (S 11) 4 g1) = sT S g1 from rfl, sL_e hi2, sT_4, f5]
    refine ⟨true, _, _, rfl, rfl, fX_L (fX_T fX_r) (by decide), fY_L (fY_f fY_r f3) (by omega) (by omega), Or.inl ⟨rfl, (k, v, 0, 0), e, rfl, hok v l1 l2, hpe, TQ_e f4 (by rw [sL_q (by decide), sT_4]) rfl (sA_2n (by decide)), ⟨?_, ?_, ?_⟩, ⟨?_, ?_, ?_⟩⟩⟩
    · rw [sL_5, sA2s, pk_us]
    · rintro (q | q | q | q | q)
      · exact absurd q hk.1
      · exact absurd q hk.2.1
      · exact absurd q hk.2.2.1
      · exact absurd q hk.2.2.2.2
      · exact absurd q hk.2.2.2.1
    · intro q; exact absurd q hk.2.2.2.1
    · rw [sA2s, pk_us]
    · rintro (q | q | q | q)
      · exact absurd q hk.1
      · exact absurd q hk.2.1
      · exact absurd q hk.2.2.1
      · exact absurd q hk.2.2.2.2
    · intro q; exact absurd q hk.2.2.2.1
/-- a number and another -/
theorem A_two {B : Nat → Nat} {n p N i k lo hi lo2 hi2' : Nat} {S : SS} {t : HV} (h : TQ B n p (S 11 4) t) (hi2 : i < 30) (hlo : lo < 2 ^ 20) (hhi : hi < 2 ^ 20) (hlo2 : lo2 < 2 ^ 20) (hhi2 : hi2' < 2 ^ 20) (hN : 900 < N) (hok : ∀ v w, lo ≤ v → v ≤ hi → lo2 ≤ w → w ≤ hi2' → okCm B n (k, v, w, 0)) (hk : k ≠ 4) : AJ B n p i k S t (ob (F_X9_readNumber N (nI lo) (nI hi) (S 11 4)) fun v1 g2 => (lt (up S 11 (up (S 11) 4 g2)) fun S3 => (if v1 = true then (lt (up S3 11 (up (S3 11) 5 (sA (S3 11 5) 1 (rset 30 ((S3 11 5).2 1) (nI i) ((S3 11 4).1 6))))) fun S5 => (ob (F_X9_readNumber N (nI lo2) (nI hi2') (S5 11 4)) fun v6 g7 => (lt (up S5 11 (up (S5 11) 4 g7)) fun S8 => (lt (up S8 11 (up (S8 11) 5 (sA (S8 11 5) 2 (rset 30 ((S8 11 5).2 2) (nI i) ((S8 11 4).1 6))))) fun S10 => some (v6, S10))))) else some (false, S3)))) (ob (F_X11_number N (nI lo) (nI hi) t) fun v7 t8 => (if vpb (nI (16 * i + 1)) 480 = true then (lt (aw t8 19 (nI (16 * i + 1)) v7) fun t10 => (ob (F_X11_number N (nI lo2) (nI hi2') t10) fun v11 t12 => (if vpb (nI (16 * i + 1) + 1) 480 = true then (lt (aw t12 19 (nI (16 * i + 1) + 1) v11) fun t14 => some t14) else none))) else none)) := by
  have hv : vpb (nI (16 * i + 1)) 480 = true := by rw [Z_vpb (by omega)]; omega
  have hv2 : vpb (nI (16 * i + 1) + 1) 480 = true := by rw [L1, Z_add, Z_vpb (by omega)]; omega
  have ha2 : ∀ (x : HV) (v : Int32), aw x 19 (nI (16 * i + 1) + 1) v = sA x 19 (upd (x.2 19) (16 * i + 2) v) := fun x v => by rw [L1, Z_add, Z_aw (by omega)]
  rcases T_num h hlo hhi hN with ⟨g1, t1, f1, f2, f3, f4⟩ | ⟨v, e, g1, t1, f1, f2, l1, l2, hpe, f5, f3, f4⟩
  · have hne : (sA t1 19 (upd (t1.2 19) (16 * i + 1) (nI lo))).1 15 ≠ 0 := ER_n f4
    rw [f1, f2, ob_s, ob_s, if_pos hv, lt_d, lt_d, if_neg Bool.false_ne_true, Z_aw (by omega), lt_d, numb_e hne, ob_s, if_pos hv2, lt_d, ha2]
    exact ⟨false, sT S g1, _, rfl, rfl, fX_T fX_r, fY_L (fY_L (fY_f fY_r f3) (by omega) (by omega)) (by omega) (by omega), Or.inr ⟨rfl, by rw [sT_4]; exact ER_e f4 rfl rfl⟩⟩
  · rw [f1, f2, ob_s, ob_s, if_pos hv, lt_d, lt_d, if_pos rfl, lt_d, Z_aw (by omega), show up S 11 (up (S 11) 4 g1) = sT S g1 from rfl, sL_e hi2, sT_4, f5]
    have e4 : sL (sT S g1) 1 i (nI v) 11 4 = g1 := by rw [sL_q (by decide), sT_4]
    have hT2 : TQ B n e (sL (sT S g1) 1 i (nI v) 11 4) (sA t1 19 (upd (t1.2 19) (16 * i + 1) (nI v))) := TQ_e f4 e4 rfl (sA_2n (by decide))
    have hX2 : fX i S (sL (sT S g1) 1 i (nI v)) := fX_L (fX_T fX_r) (by decide)
    have hY2 : fY i t (sA t1 19 (upd (t1.2 19) (16 * i + 1) (nI v))) := fY_L (fY_f fY_r f3) (by omega) (by omega)
    rcases T_num hT2 hlo2 hhi2 hN with ⟨g2, t2, y1, y2, y3, y4⟩ | ⟨w, e2, g2, t2, y1, y2, k1, k2, hpe2, y5, y3, y4⟩
    · rw [y1, y2, ob_s, ob_s, lt_d, lt_d, if_pos hv2, lt_d, ha2, show up (sL (sT S g1) 1 i (nI v)) 11 (up (sL (sT S g1) 1 i (nI v) 11) 4 g2) = sT (sL (sT S g1) 1 i (nI v)) g2 from rfl, sL_e hi2]
      exact ⟨false, _, _, rfl, rfl, fX_L (fX_T hX2) (by decide), fY_L (fY_f hY2 y3) (by omega) (by omega), Or.inr ⟨rfl, by rw [sL_q (by decide), sT_4]; exact ER_e y4 rfl rfl⟩⟩
    · rw [y1, y2, ob_s, ob_s, lt_d, lt_d, if_pos hv2, lt_d, ha2, show up (sL (sT S g1) 1 i (nI v)) 11 (up (sL (sT S g1) 1 i (nI v) 11) 4 g2) = sT (sL (sT S g1) 1 i (nI v)) g2 from rfl, sL_e hi2, sT_4, y5]
      refine ⟨true, _, _, rfl, rfl, fX_L (fX_T hX2) (by decide), fY_L (fY_f hY2 y3) (by omega) (by omega), Or.inl ⟨rfl, (k, v, w, 0), e2, rfl, hok v w l1 l2 k1 k2, by omega, TQ_e y4 (by rw [sL_q (by decide), sT_4]) rfl (sA_2n (by decide)), ⟨?_, fun _ => ?_, fun q => absurd q hk⟩, ⟨?_, fun _ => ?_, fun q => absurd q hk⟩⟩⟩
      · rw [sL_5, sA_2n (by decide), sT_q (by decide), sL_5, sA2s, pk_us]
      · rw [sL_5, sA2s, pk_us]
      · rw [sA2s, pk_un (by omega), y3.1, sA2s, pk_us]
      · rw [sA2s, pk_us]
/-- a number and a letter -/
theorem A_let {B : Nat → Nat} {n p N i : Nat} {S : SS} {t : HV} (h : TQ B n p (S 11 4) t) (hi2 : i < 30) (hN : 900 < N) : AJ B n p i 0 S t (ob (F_X9_readNumber N (nI 0) (nI 39) (S 11 4)) fun v1 g2 => (lt (up S 11 (up (S 11) 4 g2)) fun S3 => (if v1 = true then (lt (up S3 11 (up (S3 11) 5 (sA (S3 11 5) 1 (rset 30 ((S3 11 5).2 1) (nI i) ((S3 11 4).1 6))))) fun S5 => (ob (F_X9_readLetter N (S5 11 4)) fun v11 g12 => (lt (up S5 11 (up (S5 11) 4 g12)) fun S13 => (lt (up S13 11 (up (S13 11) 5 (sA (S13 11 5) 2 (rset 30 ((S13 11 5).2 2) (nI i) ((S13 11 4).1 6))))) fun S15 => some (v11, S15))))) else some (false, S3)))) (ob (F_X11_number N (nI 0) (nI 39) t) fun v1 t2 => (if vpb (nI (16 * i + 1)) 480 = true then (lt (aw t2 19 (nI (16 * i + 1)) v1) fun t4 => (ob (F_X11_letterHere N t4) fun v5 t6 => (if vpb (nI (16 * i + 1) + 1) 480 = true then (lt (aw t6 19 (nI (16 * i + 1) + 1) v5) fun t8 => some t8) else none))) else none)) := by
  have hv : vpb (nI (16 * i + 1)) 480 = true := by rw [Z_vpb (by omega)]; omega
  have hv2 : vpb (nI (16 * i + 1) + 1) 480 = true := by rw [L1, Z_add, Z_vpb (by omega)]; omega
  have ha2 : ∀ (x : HV) (v : Int32), aw x 19 (nI (16 * i + 1) + 1) v = sA x 19 (upd (x.2 19) (16 * i + 2) v) := fun x v => by rw [L1, Z_add, Z_aw (by omega)]
  rcases T_num h (lo := 0) (hi := 39) (by decide) (by decide) hN with ⟨g1, t1, f1, f2, f3, f4⟩ | ⟨v, e, g1, t1, f1, f2, l1, l2, hpe, f5, f3, f4⟩
  · have hne : (sA t1 19 (upd (t1.2 19) (16 * i + 1) (nI 0))).1 15 ≠ 0 := ER_n f4
    rw [f1, f2, ob_s, ob_s, if_pos hv, lt_d, lt_d, if_neg Bool.false_ne_true, Z_aw (by omega), lt_d, lett_e hne, ob_s, if_pos hv2, lt_d, ha2]
    exact ⟨false, sT S g1, _, rfl, rfl, fX_T fX_r, fY_L (fY_L (fY_f fY_r f3) (by omega) (by omega)) (by omega) (by omega), Or.inr ⟨rfl, by rw [sT_4]; exact ER_e f4 rfl rfl⟩⟩
  · rw [f1, f2, ob_s, ob_s, if_pos hv, lt_d, lt_d, if_pos rfl, lt_d, Z_aw (by omega), show up S 11 (up (S 11) 4 g1) = sT S g1 from rfl, sL_e hi2, sT_4, f5]
    have e4 : sL (sT S g1) 1 i (nI v) 11 4 = g1 := by rw [sL_q (by decide), sT_4]
    have hT2 : TQ B n e (sL (sT S g1) 1 i (nI v) 11 4) (sA t1 19 (upd (t1.2 19) (16 * i + 1) (nI v))) := TQ_e f4 e4 rfl (sA_2n (by decide))
    have hX2 : fX i S (sL (sT S g1) 1 i (nI v)) := fX_L (fX_T fX_r) (by decide)
    have hY2 : fY i t (sA t1 19 (upd (t1.2 19) (16 * i + 1) (nI v))) := fY_L (fY_f fY_r f3) (by omega) (by omega)
    rcases T_let hT2 hN with ⟨g2, v2, t2, y1, y2, y3, y4⟩ | ⟨w, e2, g2, t2, y1, y2, k1, k2, hpe2, y5, y3, y4⟩
    · rw [y1, y2, ob_s, ob_s, lt_d, lt_d, if_pos hv2, lt_d, ha2, show up (sL (sT S g1) 1 i (nI v)) 11 (up (sL (sT S g1) 1 i (nI v) 11) 4 g2) = sT (sL (sT S g1) 1 i (nI v)) g2 from rfl, sL_e hi2]
      exact ⟨false, _, _, rfl, rfl, fX_L (fX_T hX2) (by decide), fY_L (fY_f hY2 y3) (by omega) (by omega), Or.inr ⟨rfl, by rw [sL_q (by decide), sT_4]; exact ER_e y4 rfl rfl⟩⟩
    · rw [y1, y2, ob_s, ob_s, lt_d, lt_d, if_pos hv2, lt_d, ha2, show up (sL (sT S g1) 1 i (nI v)) 11 (up (sL (sT S g1) 1 i (nI v) 11) 4 g2) = sT (sL (sT S g1) 1 i (nI v)) g2 from rfl, sL_e hi2, sT_4, y5]
      refine ⟨true, _, _, rfl, rfl, fX_L (fX_T hX2) (by decide), fY_L (fY_f hY2 y3) (by omega) (by omega), Or.inl ⟨rfl, (0, v, w, 0), e2, rfl, ?_, by omega, TQ_e y4 (by rw [sL_q (by decide), sT_4]) rfl (sA_2n (by decide)), ⟨?_, fun _ => ?_, fun q => absurd (show (0 : Nat) = 4 from q) (by decide)⟩, ⟨?_, fun _ => ?_, fun q => absurd (show (0 : Nat) = 4 from q) (by decide)⟩⟩⟩
      · exact okCm_of (by decide) (by omega) (fun _ => l2) (fun _ => ⟨k1, k2⟩) (fun q => absurd q (by decide)) (fun q => absurd q (by decide)) (fun q => absurd q (by decide)) (fun q => absurd q (by decide)) (fun q => absurd q (by decide)) (fun q => absurd q (by decide))
      · rw [sL_5, sA_2n (by decide), sT_q (by decide), sL_5, sA2s, pk_us]
      · rw [sL_5, sA2s, pk_us]
      · rw [sA2s, pk_un (by omega), y3.1, sA2s, pk_us]
      · rw [sA2s, pk_us]
/-- a number and a word -/
theorem A_wrd {B : Nat → Nat} {n p N i : Nat} {S : SS} {t : HV} (h : TQ B n p (S 11 4) t) (hi2 : i < 30) (hN : 900 < N) : AJ B n p i 4 S t (ob (F_X9_readNumber N (nI 0) (nI 1) (S 11 4)) fun v1 g2 => (lt (up S 11 (up (S 11) 4 g2)) fun S3 => (if v1 = true then (lt (up S3 11 (up (S3 11) 5 (sA (S3 11 5) 1 (rset 30 ((S3 11 5).2 1) (nI i) ((S3 11 4).1 6))))) fun S5 => (ob (F_X9_readMessageWord N (S5 11 4)) fun v16 g17 => (lt (up S5 11 (up (S5 11) 4 g17)) fun S18 => (lt (up S18 11 (up (S18 11) 5 (sA (S18 11 5) 2 (rset 30 ((S18 11 5).2 2) (nI i) ((S18 11 4).1 4))))) fun S20 => (lt (up S20 11 (up (S20 11) 5 (sA (S20 11 5) 3 (rset 30 ((S20 11 5).2 3) (nI i) ((S20 11 4).1 5))))) fun S22 => some (v16, S22)))))) else some (false, S3)))) (ob (F_X11_number N (nI 0) (nI 1) t) fun v1 t2 => (if vpb (nI (16 * i + 1)) 480 = true then (lt (aw t2 19 (nI (16 * i + 1)) v1) fun t4 => (ob1 (F_X11_wordOf N ((nI (16 * i + 1) + 3) - 1) t4) fun t6 => some t6)) else none)) := by
  have hv : vpb (nI (16 * i + 1)) 480 = true := by rw [Z_vpb (by omega)]; omega
  have ea : (nI (16 * i + 1) + 3) - 1 = nI (16 * i + 3) := by rw [L3, Z_add, L1, Z_sub (by omega)]; rfl
  rcases T_num h (lo := 0) (hi := 1) (by decide) (by decide) hN with ⟨g1, t1, f1, f2, f3, f4⟩ | ⟨v, e, g1, t1, f1, f2, l1, l2, hpe, f5, f3, f4⟩
  · have hne : (sA t1 19 (upd (t1.2 19) (16 * i + 1) (nI 0))).1 15 ≠ 0 := ER_n f4
    unfold F_X11_wordOf
    rw [f1, f2, ob_s, ob_s, if_pos hv, lt_d, lt_d, if_neg Bool.false_ne_true, Z_aw (by omega), lt_d, word_e hne, ob1_s, if_neg hne, ob1_s]
    exact ⟨false, sT S g1, _, rfl, rfl, fX_T fX_r, fY_L (fY_f fY_r f3) (by omega) (by omega), Or.inr ⟨rfl, by rw [sT_4]; exact ER_e f4 rfl rfl⟩⟩
  · rw [f1, f2, ob_s, ob_s, if_pos hv, lt_d, lt_d, if_pos rfl, lt_d, Z_aw (by omega), show up S 11 (up (S 11) 4 g1) = sT S g1 from rfl, sL_e hi2, sT_4, f5]
    have e4 : sL (sT S g1) 1 i (nI v) 11 4 = g1 := by rw [sL_q (by decide), sT_4]
    have hT2 : TQ B n e (sL (sT S g1) 1 i (nI v) 11 4) (sA t1 19 (upd (t1.2 19) (16 * i + 1) (nI v))) := TQ_e f4 e4 rfl (sA_2n (by decide))
    have hX2 : fX i S (sL (sT S g1) 1 i (nI v)) := fX_L (fX_T fX_r) (by decide)
    have hY2 : fY i t (sA t1 19 (upd (t1.2 19) (16 * i + 1) (nI v))) := fY_L (fY_f fY_r f3) (by omega) (by omega)
    unfold F_X11_wordOf
    cases hr : wrdR B n e with
    | inl cq =>
      obtain ⟨g2, y1, y4⟩ := (C_wrd hT2.1.2.1 hT2.1.1 hT2.1.2.2.1 hN).2 cq.1 cq.2 hr
      obtain ⟨t2, y2, y3⟩ := (M_wrd hT2.2.1 hT2.1.1 hT2.2.2.1 hT2.2.2.2.1 hN).2 cq.1 cq.2 hr
      have hER : ER g2 t2 := ER_of (wrd_cq (c := cq.1) (q := cq.2) hr) y4 y3
      have hne := ER_n hER
      rw [y1, y2, ob_s, ob1_s, lt_d, lt_d, lt_d, if_neg hne, ob1_s, show up (sL (sT S g1) 1 i (nI v)) 11 (up (sL (sT S g1) 1 i (nI v) 11) 4 g2) = sT (sL (sT S g1) 1 i (nI v)) g2 from rfl, sL_e hi2, sL_e hi2]
      exact ⟨false, _, _, rfl, rfl, fX_L (fX_L (fX_T hX2) (by decide)) (by decide), fY_f hY2 y3.1, Or.inr ⟨rfl, by rw [sL_q (by decide), sL_q (by decide), sT_4]; exact hER⟩⟩
    | inr se =>
      obtain ⟨g2, y1, y4, y5, y6⟩ := (C_wrd hT2.1.2.1 hT2.1.1 hT2.1.2.2.1 hN).1 se.1 se.2 hr
      obtain ⟨t2, r, z1, z2, z3, z4, z5, z6, z7⟩ := (M_wrd hT2.2.1 hT2.1.1 hT2.2.2.1 hT2.2.2.2.1 hN).1 se.1 se.2 hr
      obtain ⟨ok1, ok2, ok3, ok4, ok5, ok6, ok7⟩ := wrdR_ok (s := se.1) (e := se.2) hT2.1.1 hr
      have hlen : (wdL B se.1 (se.2 - se.1)).length = se.2 - se.1 := wdL_len
      have t15 : (sA t2 9 r).1 15 = 0 := z5
      have egp : F_X11_goesPast (sA t2 9 r) = sS (sA t2 9 r) 12 (nI se.2) := by
        unfold F_X11_goesPast
        rw [lt_d, show (sA t2 9 r).1 13 = nI se.1 from z3, show (sA t2 9 r).1 14 = nI (se.2 - se.1) from z4, Z_add]
        congr 2
        omega
      rw [y1, z1, ob_s, ob1_s, lt_d, lt_d, lt_d, if_pos t15, egp, lt_d, ea, show up (sL (sT S g1) 1 i (nI v)) 11 (up (sL (sT S g1) 1 i (nI v) 11) 4 g2) = sT (sL (sT S g1) 1 i (nI v)) g2 from rfl, sL_e hi2, sL_e hi2, sL_q (show (4 : Nat) ≠ 5 by decide), sT_4, y5, y6]
      have hcp : lpN N (fun z => st_X11_wordOf_18 N (nI (16 * i + 3)) z.1 z.2) (0, sS (sA t2 9 r) 12 (nI se.2)) = some (sA (sS (sA t2 9 r) 12 (nI se.2)) 19 (va_cpy r (t2.2 19) 0 (16 * i + 3) 13)) := by
        rw [L0, show (nI 0, sS (sA t2 9 r) 12 (nI se.2)) = (nI (0 + 0), sS (sA t2 9 r) 12 (nI se.2)) from rfl]
        refine lp_cpy (n := 13) (c := 9) (d := 19) (from_ := 0) (to := 16 * i + 3) (j0 := 0) (t := sS (sA t2 9 r) 12 (nI se.2)) (by omega) (fun q => absurd q (by decide)) (fun j t' hj e => ?_) (fun t' e => ?_)
        · show st_X11_wordOf_18 N (nI (16 * i + 3)) (nI (0 + j)) t' = _
          unfold st_X11_wordOf_18
          simp (disch := omega) only [L1, L13, Nat.zero_add, Z_le, Z_add, Z_vpb, Z_ag, Z_aw, if_neg, if_pos, lt_d]
        · subst e
          show st_X11_wordOf_18 N (nI (16 * i + 3)) (nI (0 + 13)) _ = _
          unfold st_X11_wordOf_18
          rw [if_pos (by decide), sS_2, sA2s, sA_2n (by decide)]
      rw [hcp, ob1_s]
      refine ⟨true, _, _, rfl, rfl, fX_L (fX_L (fX_T hX2) (by decide)) (by decide), ⟨fun j hj => ?_, fun a h9 h19 => ?_, fun x hx => ?_⟩, Or.inl ⟨rfl, (4, v, se.1, se.2 - se.1), se.2, rfl, ?_, by omega, ?_, ⟨?_, fun _ => ?_, fun _ => ?_⟩, ⟨?_, fun q => absurd (show (4 : Nat) = 0 ∨ (4 : Nat) = 2 ∨ (4 : Nat) = 3 ∨ (4 : Nat) = 5 from q) (by decide), fun _ => ?_⟩⟩⟩
      · rw [sA_1, sS_1n (by omega), sA_1, z2.2 j (by omega)]
        exact hY2.1 j hj
      · rw [sA_2n h19, sS_2, sA_2n h9, z2.1]
        exact hY2.2.1 a h9 h19
      · rw [sA2s, pk_cpy_out (by omega), z2.1]
        exact hY2.2.2 x hx
      · exact okCm_of (by decide) (by omega) (fun q => absurd q (by decide)) (fun q => absurd q (by decide)) (fun q => absurd q (by decide)) (fun q => absurd q (by decide)) (fun _ => ⟨by omega, by omega, ok4, by omega, fun k hk => ok7 k (by omega)⟩) (fun q => absurd q (by decide)) (fun q => absurd q (by decide)) (fun q => absurd q (by decide))
      · refine ⟨⟨ok6, ?_, ?_, ?_, ?_⟩, ⟨?_, ?_, ?_, ?_⟩⟩
        · rw [sL_q (by decide), sL_q (by decide), sT_4]; exact y4.1
        · rw [sL_q (by decide), sL_q (by decide), sT_4]; exact y4.2.1
        · rw [sL_q (by decide), sL_q (by decide), sT_4, y4.2.2.1 7 (by decide)]; exact hT2.1.2.2.2.1
        · rw [sL_q (by decide), sL_q (by decide), sT_4, y4.2.2.1 8 (by decide)]; exact hT2.1.2.2.2.2
        · refine MB_e (MB_f hT2.2.1 z2) ?_ ?_
          · rw [sA_2n (by decide), sS_2, sA_2n (by decide)]
          · rw [sA_1, sS_1n (by decide), sA_1]
        · rw [sA_1, sS_1]
        · rw [sA_1, sS_1n (by decide)]; exact z5
        · rw [sA_1, sS_1n (by decide)]; exact z6.trans hT2.2.2.2.2
      · rw [sL_5, sA_2n (by decide), sL_5, sA_2n (by decide), sT_q (by decide), sL_5, sA2s, pk_us]
      · rw [sL_5, sA_2n (by decide), sL_5, sA2s, pk_us]
      · rw [sL_5, sA2s, pk_us]
      · rw [sA2s, pk_cpy_out (by omega), z2.1, sA2s, pk_us]
      · show wAt _ (16 * i + 3) (wdL B se.1 (se.2 - se.1))
        rw [sA2s]
        have ec : ∀ j, j < 13 → va_cpy r (t2.2 19) 0 (16 * i + 3) 13 (16 * i + 3 + j) = r j := fun j hj => by
          rw [pk_cpy_in (by omega) (by omega)]
          exact congrArg r (by omega)
        refine ⟨(ec 0 (by omega)).trans z7.1, fun x hx => ?_⟩
        rw [hlen] at hx
        rw [Nat.add_assoc (16 * i + 3), ec (1 + x) (by omega)]
        have := z7.2 x (by rw [hlen]; exact hx)
        rwa [Nat.zero_add] at this
theorem A_all {B : Nat → Nat} {n p N i k : Nat} {S : SS} {t : HV} (hk : k < 8) (h : TQ B n p (S 11 4) t) (hi2 : i < 30) (hN : 900 < N) : AJ B n p i k S t (F_X2_readArguments N k (nI i) S) (F_X11_partsOf N (nI k) (nI (16 * i + 1)) t) := by
  match k, hk with
  | 0, _ =>
    obtain ⟨b, S', t', e1, e2, r⟩ := A_let h hi2 hN
    refine ⟨b, S', t', e1, ?_, r⟩
    show (ob1 (ob (F_X11_number N 0 39 t) fun v1 t2 => (if vpb (nI (16 * i + 1)) 480 = true then (lt (aw t2 19 (nI (16 * i + 1)) v1) fun t4 => (ob (F_X11_letterHere N t4) fun v5 t6 => (if vpb (nI (16 * i + 1) + 1) 480 = true then (lt (aw t6 19 (nI (16 * i + 1) + 1) v5) fun t8 => some t8) else none))) else none)) fun t24 => some t24) = _
    rw [n0, show (nI 39 : Int32) = 39 from rfl] at e2
    rw [e2, ob1_s]
  | 1, _ =>
    obtain ⟨b, S', t', e1, e2, r⟩ := A_one (k := 1) (lo := 0) (hi := 39) h hi2 (by decide) (by decide) hN (fun v _ hv => okCm_of (by decide) (by omega) (fun _ => hv) (fun q => absurd q (by decide)) (fun q => absurd q (by decide)) (fun q => absurd q (by decide)) (fun q => absurd q (by decide)) (fun q => absurd q (by decide)) (fun q => absurd q (by decide)) (fun q => absurd q (by decide))) ⟨by decide, by decide, by decide, by decide, by decide⟩
    refine ⟨b, S', t', e1, ?_, r⟩
    show (ob1 (ob (F_X11_number N 0 39 t) fun v1 t2 => (if vpb (nI (16 * i + 1)) 480 = true then (lt (aw t2 19 (nI (16 * i + 1)) v1) fun t4 => some t4) else none)) fun t24 => some t24) = _
    rw [n0, show (nI 39 : Int32) = 39 from rfl] at e2
    rw [e2, ob1_s]
  | 2, _ =>
    obtain ⟨b, S', t', e1, e2, r⟩ := A_two (k := 2) (lo := 0) (hi := 39) (lo2 := 1) (hi2' := 99) h hi2 (by decide) (by decide) (by decide) (by decide) hN (fun v w _ hv h1 h2 => okCm_of (by decide) (by omega) (fun _ => hv) (fun q => absurd q (by decide)) (fun _ => ⟨h1, h2⟩) (fun q => absurd q (by decide)) (fun q => absurd q (by decide)) (fun q => absurd q (by decide)) (fun q => absurd q (by decide)) (fun q => absurd q (by decide))) (by decide)
    refine ⟨b, S', t', e1, ?_, r⟩
    show (ob1 (ob (F_X11_number N 0 39 t) fun v7 t8 => (if vpb (nI (16 * i + 1)) 480 = true then (lt (aw t8 19 (nI (16 * i + 1)) v7) fun t10 => (ob (F_X11_number N 1 99 t10) fun v11 t12 => (if vpb (nI (16 * i + 1) + 1) 480 = true then (lt (aw t12 19 (nI (16 * i + 1) + 1) v11) fun t14 => some t14) else none))) else none)) fun t24 => some t24) = _
    rw [n0, show (nI 39 : Int32) = 39 from rfl, n1, show (nI 99 : Int32) = 99 from rfl] at e2
    rw [e2, ob1_s]
  | 3, _ =>
    obtain ⟨b, S', t', e1, e2, r⟩ := A_two (k := 3) (lo := 0) (hi := 39) (lo2 := 1) (hi2' := 30) h hi2 (by decide) (by decide) (by decide) (by decide) hN (fun v w _ hv h1 h2 => okCm_of (by decide) (by omega) (fun _ => hv) (fun q => absurd q (by decide)) (fun q => absurd q (by decide)) (fun _ => ⟨h1, h2⟩) (fun q => absurd q (by decide)) (fun q => absurd q (by decide)) (fun q => absurd q (by decide)) (fun q => absurd q (by decide))) (by decide)
    refine ⟨b, S', t', e1, ?_, r⟩
    show (ob1 (ob (F_X11_number N 0 39 t) fun v7 t8 => (if vpb (nI (16 * i + 1)) 480 = true then (lt (aw t8 19 (nI (16 * i + 1)) v7) fun t10 => (ob (F_X11_number N 1 30 t10) fun v11 t12 => (if vpb (nI (16 * i + 1) + 1) 480 = true then (lt (aw t12 19 (nI (16 * i + 1) + 1) v11) fun t14 => some t14) else none))) else none)) fun t24 => some t24) = _
    rw [n0, show (nI 39 : Int32) = 39 from rfl, n1, show (nI 30 : Int32) = 30 from rfl] at e2
    rw [e2, ob1_s]
  | 4, _ =>
    obtain ⟨b, S', t', e1, e2, r⟩ := A_wrd h hi2 hN
    exact ⟨b, S', t', e1, e2, r⟩
  | 5, _ =>
    obtain ⟨b, S', t', e1, e2, r⟩ := A_two (k := 5) (lo := 0) (hi := 1) (lo2 := 0) (hi2' := 7) h hi2 (by decide) (by decide) (by decide) (by decide) hN (fun v w _ hv h1 h2 => okCm_of (by decide) (by omega) (fun q => absurd q (by decide)) (fun q => absurd q (by decide)) (fun q => absurd q (by decide)) (fun q => absurd q (by decide)) (fun q => absurd q (by decide)) (fun _ => ⟨by omega, h2⟩) (fun q => absurd q (by decide)) (fun q => absurd q (by decide))) (by decide)
    exact ⟨b, S', t', e1, e2, r⟩
  | 6, _ =>
    obtain ⟨b, S', t', e1, e2, r⟩ := A_one (k := 6) (lo := 1) (hi := 12) h hi2 (by decide) (by decide) hN (fun v h1 hv => okCm_of (by decide) (by omega) (fun q => absurd q (by decide)) (fun q => absurd q (by decide)) (fun q => absurd q (by decide)) (fun q => absurd q (by decide)) (fun q => absurd q (by decide)) (fun q => absurd q (by decide)) (fun _ => ⟨h1, hv⟩) (fun q => absurd q (by decide))) ⟨by decide, by decide, by decide, by decide, by decide⟩
    exact ⟨b, S', t', e1, e2, r⟩
  | 7, _ =>
    obtain ⟨b, S', t', e1, e2, r⟩ := A_one (k := 7) (lo := 1) (hi := 60) h hi2 (by decide) (by decide) hN (fun v h1 hv => okCm_of (by decide) hv (fun q => absurd q (by decide)) (fun q => absurd q (by decide)) (fun q => absurd q (by decide)) (fun q => absurd q (by decide)) (fun q => absurd q (by decide)) (fun q => absurd q (by decide)) (fun q => absurd q (by decide)) (fun _ => h1)) ⟨by decide, by decide, by decide, by decide, by decide⟩
    exact ⟨b, S', t', e1, e2, r⟩
