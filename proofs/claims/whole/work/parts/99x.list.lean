/-! ===== a text of commands: the list of them ===== -/
def C0 : Cmd := (0, 0, 0, 0)
def xS (S0 S : SS) : Prop := (∀ j, j ≠ 11 → S j = S0 j) ∧ ∀ q, q ≠ 4 → q ≠ 5 → S 11 q = S0 11 q
def xU (t0 t : HV) : Prop := (∀ j, (j < 12 ∨ 17 ≤ j) → j ≠ 20 → t.1 j = t0.1 j) ∧ ∀ a, a ≠ 9 → a ≠ 19 → t.2 a = t0.2 a
theorem xS_r {S : SS} : xS S S := ⟨fun _ _ => rfl, fun _ _ _ => rfl⟩
theorem xT_r {t : HV} : xU t t := ⟨fun _ _ _ => rfl, fun _ _ _ => rfl⟩
theorem xS_X {S0 S S' : SS} {i : Nat} (h : xS S0 S) (f : fX i S S') : xS S0 S' := ⟨fun j hj => (f.1 j hj).trans (h.1 j hj), fun q h4 h5 => (f.2.1 q h4 h5).trans (h.2 q h4 h5)⟩
theorem xS_T {S0 S : SS} {g : HV} (h : xS S0 S) : xS S0 (sT S g) := ⟨fun j hj => by rw [sT_o hj]; exact h.1 j hj, fun q h4 h5 => by rw [sT_q h4]; exact h.2 q h4 h5⟩
theorem xS_L {S0 S : SS} {a i : Nat} {v : Int32} (h : xS S0 S) : xS S0 (sL S a i v) := ⟨fun j hj => by rw [sL_o hj]; exact h.1 j hj, fun q h4 h5 => by rw [sL_q h5]; exact h.2 q h4 h5⟩
theorem xT_Y {t0 t t' : HV} {i : Nat} (h : xU t0 t) (f : fY i t t') : xU t0 t' := ⟨fun j hj h2 => (f.1 j hj).trans (h.1 j hj h2), fun a h9 h19 => (f.2.1 a h9 h19).trans (h.2 a h9 h19)⟩
theorem xT_f {t0 t t' : HV} (h : xU t0 t) (f : fr t t') : xU t0 t' := ⟨fun j hj h2 => (f.2 j hj).trans (h.1 j hj h2), fun a h9 h19 => by rw [f.1]; exact h.2 a h9 h19⟩
theorem xT_A {t0 t : HV} {a : Nat} {r : Nat → Int32} (h : xU t0 t) (ha : a = 9 ∨ a = 19) : xU t0 (sA t a r) := ⟨fun j hj h2 => h.1 j hj h2, fun b h9 h19 => by rw [sA_2n (by omega)]; exact h.2 b h9 h19⟩
theorem xT_S {t0 t : HV} {i : Nat} {v : Int32} (h : xU t0 t) (hi : (12 ≤ i ∧ i < 17) ∨ i = 20) : xU t0 (sS t i v) := ⟨fun j hj h2 => by rw [sS_1n (by omega)]; exact h.1 j hj h2, h.2⟩
def kE (B : Nat → Nat) (n : Nat) (c : Cmd) (i : Nat) (S : SS) (t : HV) : Prop := okCm B n c ∧ (S 11 5).2 0 i = nI (c.1 + 1) ∧ eC c i (S 11 5) ∧ t.2 19 (16 * i) = nI c.1 ∧ eM B c i (t.2 19)
theorem kE_e {B : Nat → Nat} {n i : Nat} {c : Cmd} {S S' : SS} {t t' : HV} (h : kE B n c i S t) (e1 : ∀ r, (S' 11 5).2 r i = (S 11 5).2 r i) (e2 : ∀ x, 16 * i ≤ x → x < 16 * i + 16 → t'.2 19 x = t.2 19 x) : kE B n c i S' t' := by
  obtain ⟨h1, h2, ⟨a1, a2, a3⟩, h4, ⟨b1, b2, b3⟩⟩ := h
  refine ⟨h1, (e1 0).trans h2, ⟨(e1 1).trans a1, fun q => (e1 2).trans (a2 q), fun q => (e1 3).trans (a3 q)⟩, (e2 _ (by omega) (by omega)).trans h4, ⟨(e2 _ (by omega) (by omega)).trans b1, fun q => (e2 _ (by omega) (by omega)).trans (b2 q), fun q => ?_⟩⟩
  have hc := (h1.2.2.2.2.2.2.1 q).2.2.1
  have hb := b3 q
  refine ⟨(e2 _ (by omega) (by omega)).trans hb.1, fun x hx => ?_⟩
  rw [e2 _ (by omega) (by rw [wdL_len] at hx; omega)]
  exact hb.2 x hx
def KL (B : Nat → Nat) (n : Nat) (L : List Cmd) (S0 : SS) (t0 : HV) (S : SS) (t : HV) : Prop := L.length ≤ 30 ∧ (S 11 5).1 4 = nI L.length ∧ t.1 20 = nI L.length ∧ (∀ i, i < L.length → kE B n (L.getD i C0) i S t) ∧ xS S0 S ∧ xU t0 t
theorem KL_add {B : Nat → Nat} {n : Nat} {L : List Cmd} {S0 S S' : SS} {t0 t t' : HV} {c : Cmd} (h : KL B n L S0 t0 S t) (h30 : L.length < 30) (e1 : (S' 11 5).1 4 = nI (L.length + 1)) (e2 : t'.1 20 = nI (L.length + 1)) (hc : kE B n c L.length S' t') (e3 : ∀ r i, i ≠ L.length → (S' 11 5).2 r i = (S 11 5).2 r i) (e4 : ∀ x, x < 16 * L.length → t'.2 19 x = t.2 19 x) (hx : xS S0 S') (ht : xU t0 t') : KL B n (L ++ [c]) S0 t0 S' t' := by
  have hlen : (L ++ [c]).length = L.length + 1 := by rw [List.length_append]; rfl
  refine ⟨by rw [hlen]; omega, by rw [hlen]; exact e1, by rw [hlen]; exact e2, fun i hi => ?_, hx, ht⟩
  rw [hlen] at hi
  rw [gD_app]
  by_cases q : i < L.length
  · rw [if_pos q]
    exact kE_e (h.2.2.2.1 i q) (fun r => e3 r i (by omega)) (fun x h1 h2 => e4 x (by omega))
  · have e : i = L.length := by omega
    subst e
    rw [if_neg q, Nat.sub_self]
    exact hc
theorem KL_e {B : Nat → Nat} {n : Nat} {L : List Cmd} {S0 S S' : SS} {t0 t t' : HV} (h : KL B n L S0 t0 S t) (e1 : S' 11 5 = S 11 5) (e2 : t'.1 20 = t.1 20) (e4 : t'.2 19 = t.2 19) (hx : xS S0 S') (ht : xU t0 t') : KL B n L S0 t0 S' t' := ⟨h.1, by rw [e1]; exact h.2.1, e2.trans h.2.2.1, fun i hi => kE_e (h.2.2.2.1 i hi) (fun r => by rw [e1]) (fun x _ _ => by rw [e4]), hx, ht⟩
theorem ER_ref {c q : Nat} {g t : HV} (h0 : 0 < c ∧ c < 5) (h1 : g.1 4 = nI q) (h2 : t.1 13 = nI q) : ER (sS (sS g 7 (nI c)) 8 (g.1 4)) (sS (sS t 15 (nI c)) 16 (t.1 13)) := ⟨c, q, h0.1, h0.2, by rw [h1]; exact refuse_7, by rw [sS_1n (by decide), sS_1], by rw [sS_1, h2]⟩
theorem K_one {B : Nat → Nat} {n p N : Nat} {L : List Cmd} {S0 S : SS} {t0 t g' : HV} (hL : KL B n L S0 t0 S t) (hT : TQ B n p (S 11 4) t) (k : CK B n p (S 11 4) g') (f1 : F_X9_readToken N (S 11 4) = some g') (hk0 : tK B n p ≠ 0) (hN : 900 < N) : ∃ t', F_X11_readsOne N (nxT B n p t) = some t' ∧ ((∃ c p' S', p < p' ∧ st_X2_read_11 N (nI L.length) S = some (.inl (nI (L.length + 1), S')) ∧ KL B n (L ++ [c]) S0 t0 S' t' ∧ TQ B n p' (S' 11 4) t') ∨ ∃ S', st_X2_read_11 N (nI L.length) S = some (.inr (false, S')) ∧ ER (S' 11 4) t' ∧ xS S0 S' ∧ xU t0 t') := by
  obtain ⟨l30, lc, lt20, le, lx, lxt⟩ := hL
  have hL : KL B n L S0 t0 S t := ⟨l30, lc, lt20, le, lx, lxt⟩
  obtain ⟨⟨hp, hCB, h2, h7, h8⟩, ⟨hMB, m12, m15, m16'⟩⟩ := hT
  have h800 := hCB.1
  have hk5 := tK_lt (B := B) (n := n) (p := p)
  have hs := tS_le (B := B) hp
  have he := tE_le (B := B) hp
  have hend : F_X9_atEnd g' = false := by
    unfold F_X9_atEnd
    rw [k.2.2.2.1, if_neg (by rw [L0, Z_eq (by omega) (by omega)]; exact hk0)]
  have n15 : (nxT B n p t).1 15 = 0 := by rw [nx_o (by omega)]; exact m15
  have n20 : (nxT B n p t).1 20 = nI L.length := by rw [nx_o (by omega)]; exact lt20
  have hck := C_kd hCB hp k hN
  have hmk := M_kd hMB hp m15 hN
  unfold st_X2_read_11 F_X11_readsOne
  rw [if_neg (show ¬ (30 : Int32) < nI L.length by rw [L30, Z_lt (by omega) (by omega)]; omega), f1, ob1_s, lt_d, show up S 11 (up (S 11) 4 g') = sT S g' from rfl, sT_4, hend, if_neg Bool.false_ne_true, hck, hmk, ob1_s, ob_s]
  cases hkd : kdF B n p with
  | none =>
    dsimp only
    have hE : ER (sT (sT S g') (sS (sS g' 7 (nI 1)) 8 (g'.1 4)) 11 4) (sS (sS (nxT B n p t) 15 (nI 1)) 16 ((nxT B n p t).1 13)) := by
      rw [sT_4]
      exact ER_ref ⟨by decide, by decide⟩ k.2.2.2.2.1 nx_13
    have hne := ER_n hE
    rw [n1] at hE hne
    rw [if_pos (show oI none = -1 from rfl), must_f n15, lt_d, must_e hne, lt_d, must_t, lt_d, if_neg hne, if_pos (show nI 0 = 0 from rfl), refuse_e, lt2_d, lt_d]
    refine ⟨sS (sS (nxT B n p t) 15 1) 16 ((nxT B n p t).1 13), ?_, Or.inr ⟨_, rfl, hE, xS_T (xS_T lx), xT_S (xT_S (xT_f lxt nx_f) (by omega)) (by omega)⟩⟩
    split <;> rfl
  | some kd =>
    dsimp only
    obtain ⟨kd8, k1⟩ := kdF_lt hkd
    have e3 : oI (some kd) = nI kd := rfl
    have i9 : (nI (kd + 1) - 1) = nI kd := by rw [L1, Z_sub (by omega), Nat.add_sub_cancel]
    rw [e3, if_neg (show ¬ nI kd = -1 by rw [Z_m1 (by omega)]; exact not_false), must_t, lt_d, n20, if_neg (show ¬ nI (kd + 1) = 0 by rw [L0, Z_eq (by omega) (by omega)]; omega), i9, if_pos (show vpb (nI kd) 8 = true by rw [Z_vpb (by omega)]; exact kd8), nI_clamp (by omega), lt_d]
    have z30 : ((30 : Int32) ≤ nI L.length) = (30 ≤ L.length) := by rw [L30, Z_le (by omega) (by omega)]
    have y30 : (nI L.length < nI 30) = (L.length < 30) := by rw [Z_lt (by omega) (by omega)]
    by_cases c30 : L.length < 30
    · have hwl : wlN B n p = tE B n p - tS B n p := wlN_1 k1
      have hgt := tE_gt hp (tK_1.mp k1).1
      have egp : F_X11_goesPast (nxT B n p t) = sS (nxT B n p t) 12 (nI (tE B n p)) := by
        unfold F_X11_goesPast
        rw [lt_d, nx_13, nx_14, hwl, Z_add]
        congr 2
        omega
      have g20 : (sS (nxT B n p t) 12 (nI (tE B n p))).1 20 = nI L.length := by rw [sS_1n (by decide)]; exact n20
      have g20' : ∀ r, (sA (sS (nxT B n p t) 12 (nI (tE B n p))) 19 r).1 20 = nI L.length := fun r => g20
      rw [if_neg (by rw [z30]; omega), must_t, lt_d, if_pos n15, egp, lt_d, g20, L16, Z_mul, if_pos (show vpb (nI (16 * L.length)) 480 = true by rw [Z_vpb (by omega)]; omega), Z_aw (by omega), lt_d, g20', Z_mul, show nI (16 * L.length) + 1 = nI (16 * L.length + 1) by rw [L1, Z_add]]
      rw [lt_d, if_pos (by rw [y30]; exact c30), if_pos (show vpb (nI L.length) 30 = true by rw [Z_vpb (by omega)]; exact c30), nI_clamp (by omega), lt_d, show up (sT S g') 11 (up (sT S g' 11) 5 (sA (sT S g' 11 5) 0 (upd ((sT S g' 11 5).2 0) L.length (nI (kd + 1))))) = sL (sT S g') 0 L.length (nI (kd + 1)) from rfl]
      have q4 : sL (sT S g') 0 L.length (nI (kd + 1)) 11 4 = g' := by rw [sL_q (by decide), sT_4]
      have hTQ : TQ B n (tE B n p) (sL (sT S g') 0 L.length (nI (kd + 1)) 11 4) (sA (sS (nxT B n p t) 12 (nI (tE B n p))) 19 (upd ((sS (nxT B n p t) 12 (nI (tE B n p))).2 19) (16 * L.length) (nI kd))) := by
        rw [q4]
        refine ⟨⟨he.2, CK_B hCB k, k.2.2.1, by rw [k.2.2.2.2.2.2 7 (by decide)]; exact h7, by rw [k.2.2.2.2.2.2 8 (by decide)]; exact h8⟩, ⟨MB_e (MB_f hMB (nx_f (B := B) (n := n) (p := p))) ?_ ?_, ?_, ?_, ?_⟩⟩
        · rw [sA_2n (by decide), sS_2]
        · rw [sA_1, sS_1n (by decide)]
        · rw [sA_1, sS_1]
        · rw [sA_1, sS_1n (by decide)]; exact n15
        · rw [sA_1, sS_1n (by decide), nx_o (by omega)]; exact m16'
      obtain ⟨b, S1, t1, a1, a2, a3, a4, a5⟩ := A_all kd8 hTQ c30 hN
      have hxS : xS S0 S1 := xS_X (xS_L (xS_T lx)) a3
      have hxT : xU t0 t1 := xT_Y (xT_A (xT_S (xT_f lxt nx_f) (by omega)) (by omega)) a4
      have w20 : t1.1 20 = nI L.length := (a4.1 20 (by omega)).trans g20
      rw [a1, a2, ob_s, ob1_s, w20, show nI L.length + 1 = nI (L.length + 1) by rw [L1, Z_add], lt_d]
      rcases a5 with ⟨rfl, c, e, c1, hc, hpe, a6, a7, a8⟩ | ⟨rfl, a6⟩
      · rw [if_pos rfl]
        have a6' : TQ B n e (S1 11 4) (sS t1 20 (nI (L.length + 1))) := ⟨a6.1, ⟨MB_e a6.2.1 rfl (sS_1n (by decide)), by rw [sS_1n (by decide)]; exact a6.2.2.1, by rw [sS_1n (by decide)]; exact a6.2.2.2.1, by rw [sS_1n (by decide)]; exact a6.2.2.2.2⟩⟩
        rcases T_sem a6' hN with ⟨g2, t2, s1, s2, s3, s4⟩ | ⟨e2, g2, t2, s1, s2, s3, s4, s5⟩
        · rw [s1, s2, ob_s, ob1_s, lt_d, if_neg Bool.false_ne_true]
          exact ⟨t2, rfl, Or.inr ⟨sT S1 g2, rfl, by rw [sT_4]; exact s4, xS_T hxS, xT_f (xT_S hxT (by omega)) s3⟩⟩
        · rw [s1, s2, ob_s, ob1_s, lt_d, if_pos rfl, lt_d]
          refine ⟨t2, rfl, Or.inl ⟨c, e2, up (sT S1 g2) 11 (up (sT S1 g2 11) 5 (sS (sT S1 g2 11 5) 4 (nI (L.length + 1)))), by omega, rfl, KL_add hL c30 ?_ ?_ ⟨hc, ?_, ⟨?_, fun q => ?_, fun q => ?_⟩, ?_, ?_⟩ (fun r i hi => ?_) (fun x hx => ?_) ⟨fun j hj => ?_, fun q h4 h5 => ?_⟩ (xT_f (xT_S hxT (by omega)) s4), ?_⟩⟩
          · rw [up_s, up_s, sS_1]
          · rw [s4.2 20 (by omega), sS_1]
          · rw [up_s, up_s, sS_2, sT_q (by decide), a3.2.2.2.1, sL_5, sA2s, pk_us, c1]
          · rw [up_s, up_s, sS_2, sT_q (by decide)]; exact a7.1
          · rw [up_s, up_s, sS_2, sT_q (by decide)]; exact a7.2.1 q
          · rw [up_s, up_s, sS_2, sT_q (by decide)]; exact a7.2.2 q
          · rw [s4.1, sS_2, a4.2.2 _ (by omega), sA2s, pk_us, c1]
          · rw [s4.1, sS_2]; exact a8
          · rw [up_s, up_s, sS_2, sT_q (by decide), a3.2.2.2.2 r i hi, sL_5]
            by_cases e : r = 0
            · subst e
              rw [sA2s, pk_un hi, sT_q (by decide)]
            · rw [sA_2n e, sT_q (by decide)]
          · rw [s4.1, sS_2, a4.2.2 _ (by omega), sA2s, pk_un (by omega), sS_2, nx_f.1]
          · rw [up_n hj]; exact (xS_T hxS).1 j hj
          · rw [up_s, up_n h5]; exact (xS_T hxS).2 q h4 h5
          · rw [up_s, up_n (by decide), sT_4]; exact s5
      · have hE : ER (S1 11 4) (sS t1 20 (nI (L.length + 1))) := ER_e a6 (sS_1n (by decide)) (sS_1n (by decide))
        rw [if_neg Bool.false_ne_true, semi_e (ER_n hE), ob1_s]
        exact ⟨_, rfl, Or.inr ⟨S1, rfl, hE, hxS, xT_S hxT (by omega)⟩⟩
    · have hE : ER (sT (sT S g') (sS (sS g' 7 (nI 4)) 8 (g'.1 4)) 11 4) (sS (sS (nxT B n p t) 15 (nI 4)) 16 ((nxT B n p t).1 13)) := by
        rw [sT_4]
        exact ER_ref ⟨by decide, by decide⟩ k.2.2.2.2.1 nx_13
      have hne := ER_n hE
      rw [show nI 4 = (4 : Int32) from rfl] at hE hne
      rw [if_pos (by rw [z30]; omega), must_f n15, lt_d, if_neg hne, lt_d, if_neg (by rw [y30]; exact c30), refuse_e, lt2_d, lt_d]
      exact ⟨_, rfl, Or.inr ⟨_, rfl, hE, xS_T (xS_T lx), xT_S (xT_S (xT_f lxt nx_f) (by omega)) (by omega)⟩⟩
def KD (B : Nat → Nat) (n : Nat) (S0 : SS) (t0 : HV) (S : SS) (t : HV) : Prop := ∃ p L, p ≤ n ∧ n ≤ tS B n p ∧ KL B n L S0 t0 S t ∧ (CB B n (S 11 4) ∧ (S 11 4).1 7 = 0 ∧ (S 11 4).1 8 = -1) ∧ (MB B n t ∧ t.1 12 = nI p ∧ t.1 15 = 0 ∧ t.1 16 = -1)
def KE (S0 : SS) (t0 : HV) (S : SS) (t : HV) : Prop := ER (S 11 4) t ∧ xS S0 S ∧ xU t0 t
/-- command after command -/
theorem K_loop {B : Nat → Nat} {n N : Nat} {S0 : SS} {t0 : HV} {R : Type} (f : HV → Option (HV ⊕ R)) (hN : 900 < N) (hf : ∀ p t t', MB B n t → p ≤ n → t.1 12 = nI p → t.1 15 = 0 → tS B n p < n → F_X11_readsOne N (nxT B n p t) = some t' → f t = some (.inl t')) : ∀ (m p : Nat) (L : List Cmd) (S : SS) (t : HV), n - p ≤ m → KL B n L S0 t0 S t → TQ B n p (S 11 4) t → ∃ b S' t' k, k ≤ m ∧ (∀ M, m < M → lpN M (fun z => st_X2_read_11 N z.1 z.2) (nI L.length, S) = some (b, S')) ∧ (∀ M, lpN (k + M) f t = lpN M f t') ∧ ((b = true ∧ KD B n S0 t0 S' t') ∨ (b = false ∧ KE S0 t0 S' t')) := by
  intro m
  induction m with
  | zero =>
    intro p L S t hm h hT
    have h1 := hT.1.1
    have hpn : p = n := by omega
    have h30 := h.1
    obtain ⟨g', f1, k⟩ := C_tok hT.1.2.1 h1 hT.1.2.2.1 hN
    have hs := tS_le (B := B) h1
    have hk0 : tK B n p = 0 := tK_0.mpr (by omega)
    have hst : (fun z : Int32 × SS => st_X2_read_11 N z.1 z.2) (nI L.length, S) = some (.inr (true, sT S g')) := by
      show st_X2_read_11 N (nI L.length) S = _
      unfold st_X2_read_11
      rw [if_neg (show ¬ (30 : Int32) < nI L.length by rw [L30, Z_lt (by omega) (by omega)]; omega), f1, ob1_s, lt_d, show up S 11 (up (S 11) 4 g') = sT S g' from rfl, sT_4]
      unfold F_X9_atEnd
      rw [k.2.2.2.1, hk0, if_pos (show nI 0 = 0 from rfl), if_pos rfl]
    refine ⟨true, sT S g', t, 0, Nat.le_refl _, fun M hM => ?_, fun M => by rw [Nat.zero_add], Or.inl ⟨rfl, p, L, h1, by omega, KL_e h (sT_q (by decide)) rfl rfl (xS_T h.2.2.2.2.1) h.2.2.2.2.2, ⟨?_, ?_, ?_⟩, hT.2⟩⟩
    · obtain ⟨M', rfl⟩ : ∃ k, M = k + 1 := ⟨M - 1, by omega⟩
      exact lpN_r hst
    · rw [sT_4]; exact CK_B hT.1.2.1 k
    · rw [sT_4, k.2.2.2.2.2.2 7 (by decide)]; exact hT.1.2.2.2.1
    · rw [sT_4, k.2.2.2.2.2.2 8 (by decide)]; exact hT.1.2.2.2.2
  | succ m ih =>
    intro p L S t hm h hT
    have h1 := hT.1.1
    have h30 := h.1
    obtain ⟨g', f1, k⟩ := C_tok hT.1.2.1 h1 hT.1.2.2.1 hN
    have hs := tS_le (B := B) h1
    by_cases c : tK B n p = 0
    · have hst : (fun z : Int32 × SS => st_X2_read_11 N z.1 z.2) (nI L.length, S) = some (.inr (true, sT S g')) := by
        show st_X2_read_11 N (nI L.length) S = _
        unfold st_X2_read_11
        rw [if_neg (show ¬ (30 : Int32) < nI L.length by rw [L30, Z_lt (by omega) (by omega)]; omega), f1, ob1_s, lt_d, show up S 11 (up (S 11) 4 g') = sT S g' from rfl, sT_4]
        unfold F_X9_atEnd
        rw [k.2.2.2.1, c, if_pos (show nI 0 = 0 from rfl), if_pos rfl]
      refine ⟨true, sT S g', t, 0, Nat.zero_le _, fun M hM => ?_, fun M => by rw [Nat.zero_add], Or.inl ⟨rfl, p, L, h1, tK_0.mp c, KL_e h (sT_q (by decide)) rfl rfl (xS_T h.2.2.2.2.1) h.2.2.2.2.2, ⟨?_, ?_, ?_⟩, hT.2⟩⟩
      · obtain ⟨M', rfl⟩ : ∃ k, M = k + 1 := ⟨M - 1, by omega⟩
        exact lpN_r hst
      · rw [sT_4]; exact CK_B hT.1.2.1 k
      · rw [sT_4, k.2.2.2.2.2.2 7 (by decide)]; exact hT.1.2.2.2.1
      · rw [sT_4, k.2.2.2.2.2.2 8 (by decide)]; exact hT.1.2.2.2.2
    · have hlt : tS B n p < n := by
        have : ¬ n ≤ tS B n p := fun q => c (tK_0.mpr q)
        omega
      obtain ⟨t1, e2, q⟩ := K_one h hT k f1 c hN
      have hm1 := hf p t t1 hT.2.1 h1 hT.2.2.1 hT.2.2.2.1 hlt e2
      rcases q with ⟨cm, p', S1, hp', hst, y, y2⟩ | ⟨S1, hst, y⟩
      · have hst' : (fun z : Int32 × SS => st_X2_read_11 N z.1 z.2) (nI L.length, S) = some (.inl (nI (L.length + 1), S1)) := hst
        have hp'n := y2.1.1
        obtain ⟨b, S', t', k', hk', z1, z2, z3⟩ := ih p' (L ++ [cm]) S1 t1 (by omega) y y2
        rw [show (L ++ [cm]).length = L.length + 1 by rw [List.length_append]; rfl] at z1
        refine ⟨b, S', t', k' + 1, by omega, fun M hM => ?_, fun M => ?_, z3⟩
        · obtain ⟨M', rfl⟩ : ∃ k, M = k + 1 := ⟨M - 1, by omega⟩
          exact (lpN_l hst').trans (z1 M' (by omega))
        · rw [show k' + 1 + M = (k' + M) + 1 by omega, lpN_l hm1]
          exact z2 M
      · have hst' : (fun z : Int32 × SS => st_X2_read_11 N z.1 z.2) (nI L.length, S) = some (.inr (false, S1)) := hst
        refine ⟨false, S1, t1, 1, by omega, fun M hM => ?_, fun M => ?_, Or.inr ⟨rfl, y⟩⟩
        · obtain ⟨M', rfl⟩ : ∃ k, M = k + 1 := ⟨M - 1, by omega⟩
          exact lpN_r hst'
        · rw [Nat.add_comm 1 M, lpN_l hm1]
