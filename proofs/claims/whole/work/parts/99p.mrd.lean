/-! ===== reading: the other side ===== -/
def MB (B : Nat → Nat) (n : Nat) (t : HV) : Prop := n ≤ 800 ∧ (∀ k, k < n → B k < 256 ∧ t.2 10 k = nI (B k)) ∧ t.1 11 = nI n
def fr (t t' : HV) : Prop := t'.2 = t.2 ∧ ∀ i, (i < 12 ∨ 17 ≤ i) → t'.1 i = t.1 i
theorem fr_r {t : HV} : fr t t := ⟨rfl, fun _ _ => rfl⟩
theorem fr_t {t t' t2 : HV} (h : fr t t') (h2 : fr t' t2) : fr t t2 := ⟨h2.1.trans h.1, fun i hi => (h2.2 i hi).trans (h.2 i hi)⟩
theorem fr_s {t t' : HV} (h : fr t t') {i : Nat} {v : Int32} (h1 : 12 ≤ i) (h2 : i < 17) : fr t (sS t' i v) := ⟨h.1, fun j hj => by rw [sS_1n (by omega)]; exact h.2 j hj⟩
theorem MB_e {B : Nat → Nat} {n : Nat} {t t' : HV} (h : MB B n t) (e2 : t'.2 10 = t.2 10) (e1 : t'.1 11 = t.1 11) : MB B n t' := ⟨h.1, by rw [e2]; exact h.2.1, e1.trans h.2.2⟩
theorem MB_f {B : Nat → Nat} {n : Nat} {t t' : HV} (h : MB B n t) (f : fr t t') : MB B n t' := MB_e h (by rw [f.1]) (f.2 11 (by omega))
def bA (B : Nat → Nat) (n k : Nat) : Int32 := if n ≤ k then -1 else nI (B k)
theorem M_byteAt {B : Nat → Nat} {n k : Nat} {t : HV} (h : MB B n t) (hk : k < 2 ^ 31) : F_X11_byteAt (nI k) t = some (bA B n k) := by
  have := h.1
  unfold F_X11_byteAt bA
  rw [h.2.2]
  by_cases c : n ≤ k
  · rw [if_pos (by rw [Z_le (by omega) (by omega)]; exact c), if_pos c]
  · rw [if_neg (by rw [Z_le (by omega) (by omega)]; exact c), if_neg c, if_pos (by rw [Z_vpb (by omega)]; omega), Z_ag hk, (h.2.1 k (by omega)).2]
theorem M_isL {B : Nat → Nat} {n k : Nat} {t : HV} (h : MB B n t) : F_X11_in (bA B n k).toInt64 (97 : Int64) (122 : Int64) = decide (k < n ∧ isL (B k) = true) := by
  rw [T97, T122, Z_inB]
  unfold bA
  by_cases c : n ≤ k
  · rw [if_pos c, decide_eq_false (by decide), decide_eq_false (by omega)]
  · have := (h.2.1 k (by omega)).1
    rw [if_neg c, Bool.eq_iff_iff, decide_eq_true_eq, decide_eq_true_eq, isL_t, Z_le (by omega) (by omega), Z_le (by omega) (by omega)]
    omega
theorem M_isD {B : Nat → Nat} {n k : Nat} {t : HV} (h : MB B n t) : F_X11_in (bA B n k).toInt64 (48 : Int64) (57 : Int64) = decide (k < n ∧ isD (B k) = true) := by
  rw [T48, T57, Z_inB]
  unfold bA
  by_cases c : n ≤ k
  · rw [if_pos c, decide_eq_false (by decide), decide_eq_false (by omega)]
  · have := (h.2.1 k (by omega)).1
    rw [if_neg c, Bool.eq_iff_iff, decide_eq_true_eq, decide_eq_true_eq, isD_t, Z_le (by omega) (by omega), Z_le (by omega) (by omega)]
    omega
theorem bA_c {B : Nat → Nat} {n k c : Nat} {t : HV} (h : MB B n t) (hc : c < 256) : (bA B n k = nI c) = (k < n ∧ B k = c) := by
  unfold bA
  by_cases c1 : n ≤ k
  · rw [if_pos c1, Z_m1' (by omega)]
    exact propext ⟨False.elim, fun q => by omega⟩
  · have := (h.2.1 k (by omega)).1
    rw [if_neg c1, Z_eq (by omega) (by omega)]
    exact propext ⟨fun q => ⟨by omega, q⟩, fun q => q.2⟩
def wlN (B : Nat → Nat) (n p : Nat) : Nat := runE (fun k => isL (B k)) n (tS B n p) - tS B n p
theorem wlN_1 {B : Nat → Nat} {n p : Nat} (h : tK B n p = 1) : wlN B n p = tE B n p - tS B n p := by
  obtain ⟨h1, h2⟩ := tK_1.mp h
  unfold wlN tE
  rw [if_neg (by omega), if_pos h2]
theorem wlN_0 {B : Nat → Nat} {n p : Nat} (hp : p ≤ n) (h : tK B n p ≠ 1) : wlN B n p = 0 := by
  have hs := (tS_le (B := B) hp).2
  unfold wlN
  rw [runE_is (k := tS B n p) (Nat.le_refl _) hs (fun j a b => absurd b (by omega)) (fun q => ?_), Nat.sub_self]
  cases c : isL (B (tS B n p)) with
  | false => rfl
  | true => exact absurd (tK_1.mpr ⟨q, c⟩) h
theorem wlN_le {B : Nat → Nat} {n p : Nat} (hp : p ≤ n) : tS B n p + wlN B n p ≤ n := by
  have hs := (tS_le (B := B) hp).2
  have h := runE_sp (q := fun k => isL (B k)) hs
  unfold wlN
  omega
def nxT (B : Nat → Nat) (n p : Nat) (t : HV) : HV := sS (sS (sS t 12 (nI (tS B n p))) 13 (nI (tS B n p))) 14 (nI (wlN B n p))
theorem sS_sS {t : HV} {i : Nat} {v w : Int32} : sS (sS t i v) i w = sS t i w := by
  show (up (up t.1 i v) i w, t.2) = (up t.1 i w, t.2)
  rw [up_up]
theorem sS_id {t : HV} {i : Nat} {v : Int32} (h : t.1 i = v) : sS t i v = t := by
  subst h
  show (up t.1 i (t.1 i), t.2) = t
  rw [up_id]
theorem nx_12 {B : Nat → Nat} {n p : Nat} {t : HV} : (nxT B n p t).1 12 = nI (tS B n p) := by unfold nxT; rw [sS_1n (by decide), sS_1n (by decide), sS_1]
theorem nx_13 {B : Nat → Nat} {n p : Nat} {t : HV} : (nxT B n p t).1 13 = nI (tS B n p) := by unfold nxT; rw [sS_1n (by decide), sS_1]
theorem nx_14 {B : Nat → Nat} {n p : Nat} {t : HV} : (nxT B n p t).1 14 = nI (wlN B n p) := sS_1
theorem nx_o {B : Nat → Nat} {n p i : Nat} {t : HV} (h : i < 12 ∨ 15 ≤ i) : (nxT B n p t).1 i = t.1 i := by unfold nxT; rw [sS_1n (by omega), sS_1n (by omega), sS_1n (by omega)]
theorem nx_f {B : Nat → Nat} {n p : Nat} {t : HV} : fr t (nxT B n p t) := fr_s (fr_s (fr_s fr_r (by decide) (by decide)) (by decide) (by decide)) (by decide) (by decide)
/-- behind the spaces -/
def nxTail (N : Nat) (t : HV) : Option (HV ⊕ (Int32 × HV)) := (lt (sS t 13 (t.1 12)) fun t2 => (lt (sS t2 14 0) fun t3 => (ob1 (lpN N (fun z => st_X11_next_39 N z) (t3)) fun q9 => some (.inr q9))))
theorem nx_eq {N : Nat} {t : HV} : st_X11_next_0 N t = (ob1 (F_X11_byteAt (t.1 12) t) fun v1 => (if v1 = 32 then (lt (sS t 12 ((t.1 12) + 1)) fun t7 => some (.inl t7)) else nxTail N t)) := rfl
theorem M_nxTail {B : Nat → Nat} {n p N : Nat} {t : HV} (h : MB B n t) (hp : p ≤ n) (hN : 900 < N) : nxTail N (sS t 12 (nI (tS B n p))) = some (.inr (bA B n (tS B n p), nxT B n p t)) := by
  have hs := tS_le (B := B) hp
  have h800 := h.1
  have hw := wlN_le (B := B) hp
  obtain ⟨r1, r2, r3, r4⟩ := runE_sp (q := fun k => isL (B k)) hs.2
  have hM : ∀ i, MB B n (sS (sS (sS t 12 (nI (tS B n p))) 13 (nI (tS B n p))) 14 (nI i)) := fun i => MB_e h rfl (by rw [sS_1n (by decide), sS_1n (by decide), sS_1n (by decide)])
  have z12 : ∀ i, (sS (sS (sS t 12 (nI (tS B n p))) 13 (nI (tS B n p))) 14 (nI i)).1 12 = nI (tS B n p) := fun i => by rw [sS_1n (by decide), sS_1n (by decide), sS_1]
  have z13 : ∀ i, (sS (sS (sS t 12 (nI (tS B n p))) 13 (nI (tS B n p))) 14 (nI i)).1 13 = nI (tS B n p) := fun i => by rw [sS_1n (by decide), sS_1]
  unfold nxTail
  rw [sS_1, lt_d, lt_d, L0]
  have key := lpN_for (f := fun z => st_X11_next_39 N z) (x := fun i => sS (sS (sS t 12 (nI (tS B n p))) 13 (nI (tS B n p))) 14 (nI i)) (r := (bA B n (tS B n p), nxT B n p t)) (n := wlN B n p) (N := N) (by omega) (fun i hi => ?_) ?_
  · rw [key, ob1_s]
  · show st_X11_next_39 N _ = _
    unfold st_X11_next_39
    have hl : isL (B (tS B n p + i)) = true := r3 _ (by omega) (by unfold wlN at hi; omega)
    rw [z13, sS_1, Z_add, M_byteAt (hM i) (by omega), ob1_s, M_isL (hM i), if_pos (decide_eq_true ⟨by omega, hl⟩), lt_d, sS_sS, L1, Z_add]
  · show st_X11_next_39 N _ = _
    unfold st_X11_next_39
    have hl : ¬ (tS B n p + wlN B n p < n ∧ isL (B (tS B n p + wlN B n p)) = true) := fun q => by
      have e : tS B n p + wlN B n p = runE (fun k => isL (B k)) n (tS B n p) := by unfold wlN; omega
      rw [e] at q
      have := r4 q.1
      rw [q.2] at this
      cases this
    rw [z13, sS_1, Z_add, M_byteAt (hM _) (by omega), ob1_s, M_isL (hM 0), if_neg (fun q => hl (of_decide_eq_true q)), z12, M_byteAt (hM _) (by omega), ob1_s]
    rfl
theorem M_next {B : Nat → Nat} {n p N : Nat} {t : HV} (h : MB B n t) (hp : p ≤ n) (h12 : t.1 12 = nI p) (hN : 900 < N) : F_X11_next N t = some (bA B n (tS B n p), nxT B n p t) := by
  have h800 := h.1
  have hs := tS_le (B := B) hp
  have hM : ∀ i, MB B n (sS t 12 (nI i)) := fun i => MB_e h rfl (sS_1n (by decide))
  unfold F_X11_next
  obtain ⟨r1, r2, r3, r4⟩ := runE_sp (q := fun k => isSp (B k)) hp
  have key := lpN_for (f := fun z => st_X11_next_0 N z) (x := fun i => sS t 12 (nI (p + i))) (r := (bA B n (tS B n p), nxT B n p t)) (n := tS B n p - p) (N := N) (by omega) (fun i hi => ?_) ?_
  · have e0 : sS t 12 (nI (p + 0)) = t := sS_id h12
    rw [e0] at key
    exact key
  · show st_X11_next_0 N _ = _
    have hsp : isSp (B (p + i)) = true := r3 _ (by omega) (by have : tS B n p = runE (fun k => isSp (B k)) n p := rfl; omega)
    rw [isSp_t] at hsp
    rw [nx_eq, sS_1, M_byteAt (hM _) (by omega), ob1_s, if_pos (by rw [L32, bA_c h (by decide)]; exact ⟨by omega, hsp⟩), lt_d, sS_sS, L1, Z_add]
    rfl
  · show st_X11_next_0 N _ = _
    have hsp : ¬ (tS B n p < n ∧ B (tS B n p) = 32) := fun q => by
      have h3 : isSp (B (tS B n p)) = false := r4 q.1
      rw [show isSp (B (tS B n p)) = true from isSp_t.mpr q.2] at h3
      cases h3
    rw [show p + (tS B n p - p) = tS B n p by omega, nx_eq, sS_1, M_byteAt (hM _) (by omega), ob1_s, if_neg (by rw [L32, bA_c h (by decide)]; exact hsp), M_nxTail h hp hN]
theorem must_t {c : Int32} {t : HV} : F_X11_must true c t = t := rfl
theorem must_f {c : Int32} {t : HV} (h : t.1 15 = 0) : F_X11_must false c t = sS (sS t 15 c) 16 (t.1 13) := by
  unfold F_X11_must
  rw [if_neg Bool.false_ne_true, if_pos h, lt_d, lt_d, sS_1n (by decide)]
theorem must_e {a : Bool} {c : Int32} {t : HV} (h : t.1 15 ≠ 0) : F_X11_must a c t = t := by
  unfold F_X11_must
  rw [if_neg h]
  split <;> rfl
/-- what a reader leaves -/
def MO (e : Nat) (t t' : HV) : Prop := fr t t' ∧ t'.1 12 = nI e ∧ t'.1 15 = 0 ∧ t'.1 16 = t.1 16
def MX (c q : Nat) (t t' : HV) : Prop := fr t t' ∧ t'.1 15 = nI c ∧ t'.1 16 = nI q
theorem MX_n {c q : Nat} {t t' : HV} (h : MX c q t t') (h0 : 0 < c) (h4 : c < 5) : t'.1 15 ≠ 0 := by
  rw [h.2.1, L0]
  intro e
  rw [Z_eq (by omega) (by omega)] at e
  omega
theorem numb_e {N : Nat} {a b : Int32} {t : HV} (h : t.1 15 ≠ 0) : F_X11_number N a b t = some (a, t) := if_neg h
theorem lett_e {N : Nat} {t : HV} (h : t.1 15 ≠ 0) : F_X11_letterHere N t = some (97, t) := if_neg h
theorem word_e {N : Nat} {t : HV} (h : t.1 15 ≠ 0) : F_X11_wordHere N t = some t := if_neg h
theorem semi_e {N : Nat} {t : HV} (h : t.1 15 ≠ 0) : F_X11_semicolon N t = some t := if_neg h
theorem M_sees {B : Nat → Nat} {n p N sx : Nat} {t : HV} (h : MB B n t) (hp : p ≤ n) (h12 : t.1 12 = nI p) (h15 : t.1 15 = 0) (h0 : 0 < (sTx sx).length) (hx : (sTx sx).length ≤ 12) (hN : 900 < N) : F_X11_sees N sx t = some (isW B n p (sTx sx), nxT B n p t) := by
  have hw := wlN_le (B := B) hp
  have h800 := h.1
  have hM : MB B n (nxT B n p t) := MB_f h nx_f
  unfold F_X11_sees
  rw [M_next h hp h12 hN, ob_s, nx_o (by omega), if_pos h15, nx_14]
  by_cases c : tK B n p = 1 ∧ tE B n p - tS B n p = (sTx sx).length
  · have hwl : wlN B n p = (sTx sx).length := (wlN_1 c.1).trans c.2
    rw [hwl, if_pos rfl]
    have key : ∃ r, lpN N (fun z => st_X11_sees_27 N sx z.1 z.2) (0, nxT B n p t) = some r ∧ r = (isW B n p (sTx sx), nxT B n p t) := by
      refine lpN_upx (f := fun z => st_X11_sees_27 N sx z.1 z.2) (fun i (x : Int32 × HV) => x = (nI i, nxT B n p t) ∧ ∀ j, j < i → nI (B (tS B n p + j)) = (sTx sx).getD j 0) _ (n := (sTx sx).length) (by omega) ⟨rfl, fun j hj => absurd hj (Nat.not_lt_zero j)⟩ (fun i x hi hP => ?_) (fun x hP => ?_)
      · obtain ⟨rfl, hP⟩ := hP
        show (∃ y, st_X11_sees_27 N sx (nI i) (nxT B n p t) = _ ∧ _) ∨ ∃ r, st_X11_sees_27 N sx (nI i) (nxT B n p t) = _ ∧ _
        have e1 : sCh sx (nI i) = (sTx sx).getD i 0 := by
          unfold sCh
          rw [nI_clamp (by omega)]
        have eb : bA B n (tS B n p + i) = nI (B (tS B n p + i)) := if_neg (by omega)
        unfold st_X11_sees_27
        rw [nx_14, hwl, if_neg (by rw [Z_le (by omega) (by omega)]; omega), nx_13, Z_add, M_byteAt hM (by omega), ob1_s, if_pos (by rw [Z_vpb (by omega)]; exact hi), e1, eb, L1, Z_add]
        by_cases c3 : nI (B (tS B n p + i)) = (sTx sx).getD i 0
        · rw [if_pos c3]
          exact Or.inl ⟨_, rfl, rfl, fun j hj => by
            by_cases e : j = i
            · rw [e]; exact c3
            · exact hP j (by omega)⟩
        · rw [if_neg c3]
          refine Or.inr ⟨_, rfl, ?_⟩
          rw [isW_f (fun q => c3 (q.2.2 i hi))]
      · obtain ⟨rfl, hP⟩ := hP
        refine ⟨(true, nxT B n p t), ?_, by rw [isW_t.mpr ⟨c.1, c.2, hP⟩]⟩
        show st_X11_sees_27 N sx (nI (sTx sx).length) (nxT B n p t) = _
        unfold st_X11_sees_27
        rw [nx_14, hwl, if_pos (by rw [Z_le (by omega) (by omega)]; omega)]
    obtain ⟨r, e, rfl⟩ := key
    exact e
  · have hf : isW B n p (sTx sx) = false := isW_f (fun q => c ⟨q.1, q.2.1⟩)
    rw [hf, if_neg]
    rw [Z_eq (by omega) (by omega)]
    intro q
    by_cases c1 : tK B n p = 1
    · exact c ⟨c1, (wlN_1 c1).symm.trans q⟩
    · rw [wlN_0 hp c1] at q
      omega
theorem M_num {B : Nat → Nat} {n p N lo hi : Nat} {t : HV} (h : MB B n t) (hp : p ≤ n) (h12 : t.1 12 = nI p) (h15 : t.1 15 = 0) (hlo : lo < 2 ^ 20) (hhi : hi < 2 ^ 20) (hN : 900 < N) : (∀ v e, numR B n lo hi p = .inr (v, e) → ∃ t', F_X11_number N (nI lo) (nI hi) t = some (nI v, t') ∧ MO e t t' ∧ t'.1 13 = nI (tS B n p)) ∧ ∀ c q, numR B n lo hi p = .inl (c, q) → ∃ t', F_X11_number N (nI lo) (nI hi) t = some (nI lo, t') ∧ MX c q t t' := by
  have hs := tS_le (B := B) hp
  have he := tE_le (B := B) hp
  have h800 := h.1
  have hM : MB B n (nxT B n p t) := MB_f h nx_f
  have n15 : (nxT B n p t).1 15 = 0 := by rw [nx_o (by omega)]; exact h15
  unfold F_X11_number
  rw [if_pos h15, M_next h hp h12 hN, ob_s, M_isD h, lt_d]
  by_cases hk : tK B n p = 2
  · have hd0 := tK_2.mp hk
    have hdig := tok_D hp hk
    have hgt := tE_gt hp hd0.1
    have hend : ¬ (tE B n p < n ∧ isD (B (tE B n p)) = true) := fun q => by
      have h3 : ¬ isL (B (tS B n p)) = true := by rw [isL_t]; have := hd0.2; rw [isD_t] at this; omega
      have e : tE B n p = runE (fun k => isD (B k)) n (tS B n p) := by unfold tE; rw [if_neg (by omega), if_neg h3, if_pos hd0.2]
      rw [e] at q
      have := (runE_sp (q := fun k => isD (B k)) hs.2).2.2.2 q.1
      rw [q.2] at this
      cases this
    rw [decide_eq_true hd0, must_t]
    have hMi : ∀ i, MB B n (sS (nxT B n p t) 12 (nI i)) := fun i => MB_e hM rfl (sS_1n (by decide))
    have z13 : ∀ i, (sS (nxT B n p t) 12 (nI i)).1 13 = nI (tS B n p) := fun i => by rw [sS_1n (by decide)]; exact nx_13
    have hst : ∀ i, i < tE B n p - tS B n p → st_X11_number_30 N (nI lo) (nI hi) (nI (dv B (tS B n p) (min i 3))) (sS (nxT B n p t) 12 (nI (tS B n p + i))) = some (.inl (nI (dv B (tS B n p) (min (i + 1) 3)), sS (nxT B n p t) 12 (nI (tS B n p + (i + 1))))) := fun i hii => by
      have hd := hdig i (by omega)
      have hd' := hd
      rw [isD_t] at hd'
      unfold st_X11_number_30
      rw [sS_1, M_byteAt (hMi _) (by omega), ob1_s, M_isD h, if_pos (decide_eq_true ⟨by omega, hd⟩), z13, Z_sub (by omega), sS_sS, L1, Z_add, ob1_s, lt_d]
      by_cases c3 : 3 ≤ i
      · rw [if_pos (by rw [L3, Z_le (by omega) (by omega)]; omega), Nat.min_eq_right c3, Nat.min_eq_right (show 3 ≤ i + 1 by omega)]
        rfl
      · have eb : bA B n (tS B n p + i) = nI (B (tS B n p + i)) := if_neg (by omega)
        rw [if_neg (by rw [L3, Z_le (by omega) (by omega)]; omega), eb, L10, Z_mul, Z_add, L48, Z_sub (by omega), Nat.min_eq_left (show i ≤ 3 by omega), Nat.min_eq_left (show i + 1 ≤ 3 by omega)]
        rw [show 10 * dv B (tS B n p) i + B (tS B n p + i) - 48 = dv B (tS B n p) (i + 1) from (by show _ = dv B (tS B n p) i * 10 + (B (tS B n p + i) - 48); omega)]
        rfl
    have e0 : sS (nxT B n p t) 12 (nI (tS B n p + 0)) = nxT B n p t := sS_id nx_12
    have hfr : fr t (sS (nxT B n p t) 12 (nI (tE B n p))) := fr_s nx_f (by decide) (by decide)
    have g15 : (sS (nxT B n p t) 12 (nI (tE B n p))).1 15 = 0 := by rw [sS_1n (by decide)]; exact n15
    have g16 : (sS (nxT B n p t) 12 (nI (tE B n p))).1 16 = t.1 16 := by rw [sS_1n (by decide)]; exact nx_o (by omega)
    have hdv := dv_lt (B := B) (s := tS B n p) (min (tE B n p - tS B n p) 3) (fun k hk2 => hdig k (by have := Nat.min_le_left (tE B n p - tS B n p) 3; omega))
    have h7 : 10 ^ (min (tE B n p - tS B n p) 3) ≤ 10 ^ 3 := Nat.pow_le_pow_right (by decide) (Nat.min_le_right _ _)
    have hin : F_X11_in (nI (dv B (tS B n p) (min (tE B n p - tS B n p) 3))).toInt64 (nI lo).toInt64 (nI hi).toInt64 = decide (lo ≤ dv B (tS B n p) (min (tE B n p - tS B n p) 3) ∧ dv B (tS B n p) (min (tE B n p - tS B n p) 3) ≤ hi) := by
      rw [Z_inB]
      simp only [Z_le (show lo < 2 ^ 31 by omega) (show dv B (tS B n p) (min (tE B n p - tS B n p) 3) < 2 ^ 31 by omega), Z_le (show dv B (tS B n p) (min (tE B n p - tS B n p) 3) < 2 ^ 31 by omega) (show hi < 2 ^ 31 by omega)]
    have key := fun r he => lpN_for (f := fun z => st_X11_number_30 N (nI lo) (nI hi) z.1 z.2) (x := fun i => (nI (dv B (tS B n p) (min i 3)), sS (nxT B n p t) 12 (nI (tS B n p + i)))) (r := r) (n := tE B n p - tS B n p) (N := N) (by omega) (fun i hii => hst i hii) he
    have key2 : ∀ r, st_X11_number_30 N (nI lo) (nI hi) (nI (dv B (tS B n p) (min (tE B n p - tS B n p) 3))) (sS (nxT B n p t) 12 (nI (tE B n p))) = some (.inr r) → lpN N (fun z => st_X11_number_30 N (nI lo) (nI hi) z.1 z.2) (0, nxT B n p t) = some r := fun r hr => by
      have h9 := key r (by
        show st_X11_number_30 N (nI lo) (nI hi) _ (sS (nxT B n p t) 12 (nI (tS B n p + (tE B n p - tS B n p)))) = _
        rw [show tS B n p + (tE B n p - tS B n p) = tE B n p by omega]
        exact hr)
      rw [e0] at h9
      exact h9
    have hstE : ∀ X, X = sS (nxT B n p t) 12 (nI (tE B n p)) → st_X11_number_30 N (nI lo) (nI hi) (nI (dv B (tS B n p) (min (tE B n p - tS B n p) 3))) X = (if 3 < tE B n p - tS B n p then (lt (F_X11_must false 1 X) fun t7 => (lt (F_X11_must (decide (lo ≤ dv B (tS B n p) (min (tE B n p - tS B n p) 3) ∧ dv B (tS B n p) (min (tE B n p - tS B n p) 3) ≤ hi)) 2 t7) fun t9 => (if (t9.1 15) = 0 then some (.inr (nI (dv B (tS B n p) (min (tE B n p - tS B n p) 3)), t9)) else some (.inr (nI lo, t9))))) else (lt (F_X11_must (decide (lo ≤ dv B (tS B n p) (min (tE B n p - tS B n p) 3) ∧ dv B (tS B n p) (min (tE B n p - tS B n p) 3) ≤ hi)) 2 X) fun t13 => (if (t13.1 15) = 0 then some (.inr (nI (dv B (tS B n p) (min (tE B n p - tS B n p) 3)), t13)) else some (.inr (nI lo, t13))))) := fun X hX => by
      subst hX
      unfold st_X11_number_30
      rw [sS_1, M_byteAt (hMi _) (by omega), ob1_s, M_isD h, if_neg (fun q => hend (of_decide_eq_true q)), z13, Z_sub (by omega), hin, must_t, lt_d]
      have hz : (3 < nI (tE B n p - tS B n p)) = (3 < tE B n p - tS B n p) := by rw [L3, Z_lt (by omega) (by omega)]
      by_cases c3 : 3 < tE B n p - tS B n p
      · rw [if_pos (by rw [hz]; exact c3), if_pos c3]
      · rw [if_neg (by rw [hz]; exact c3), if_neg c3, lt_d]
    have hMX : ∀ c : Nat, 0 < c → c < 5 → MX c (tS B n p) t (sS (sS (sS (nxT B n p t) 12 (nI (tE B n p))) 15 (nI c)) 16 (nI (tS B n p))) := fun c _ _ => ⟨fr_s (fr_s hfr (by decide) (by decide)) (by decide) (by decide), by rw [sS_1n (by decide), sS_1], sS_1⟩
    unfold numR
    by_cases c3 : tE B n p - tS B n p ≤ 3
    · rw [if_pos ⟨hk, c3⟩]
      have hm3 : min (tE B n p - tS B n p) 3 = tE B n p - tS B n p := Nat.min_eq_left c3
      have hs3 := hstE _ rfl
      rw [if_neg (by omega), hm3] at hs3
      rw [hm3] at key2
      by_cases cr : lo ≤ dv B (tS B n p) (tE B n p - tS B n p) ∧ dv B (tS B n p) (tE B n p - tS B n p) ≤ hi
      · rw [decide_eq_true cr, must_t, lt_d, if_pos g15] at hs3
        rw [if_pos cr]
        refine ⟨fun v e q => ?_, fun c q r => (by cases r)⟩
        cases q
        exact ⟨_, key2 _ hs3, ⟨hfr, sS_1, g15, g16⟩, z13 _⟩
      · rw [decide_eq_false cr, must_f g15, lt_d, z13] at hs3
        have hne := MX_n (hMX 2 (by decide) (by decide)) (by decide) (by decide)
        rw [show (nI 2 : Int32) = 2 from rfl] at hne
        rw [if_neg hne] at hs3
        rw [if_neg cr]
        refine ⟨fun v e q => (by cases q), fun c q r => ?_⟩
        cases r
        exact ⟨_, key2 _ hs3, hMX 2 (by decide) (by decide)⟩
    · rw [if_neg (fun q => c3 q.2)]
      have hs3 := hstE _ rfl
      have hne := MX_n (hMX 1 (by decide) (by decide)) (by decide) (by decide)
      rw [show (nI 1 : Int32) = 1 from rfl] at hne
      rw [if_pos (by omega), must_f g15, lt_d, z13, must_e hne, lt_d, if_neg hne] at hs3
      refine ⟨fun v e q => (by cases q), fun c q r => ?_⟩
      cases r
      exact ⟨_, key2 _ hs3, hMX 1 (by decide) (by decide)⟩
  · have hnd : ¬ (tS B n p < n ∧ isD (B (tS B n p)) = true) := fun q => hk (tK_2.mpr q)
    rw [decide_eq_false hnd, must_f n15, nx_13]
    have hMX : MX 1 (tS B n p) t (sS (sS (nxT B n p t) 15 1) 16 (nI (tS B n p))) := ⟨fr_s (fr_s nx_f (by decide) (by decide)) (by decide) (by decide), by rw [sS_1n (by decide), sS_1]; rfl, sS_1⟩
    have hne := MX_n hMX (by decide) (by decide)
    have hMm : MB B n (sS (sS (nxT B n p t) 15 1) 16 (nI (tS B n p))) := MB_f h hMX.1
    have z12 : (sS (sS (nxT B n p t) 15 1) 16 (nI (tS B n p))).1 12 = nI (tS B n p) := by rw [sS_1n (by decide), sS_1n (by decide)]; exact nx_12
    have z13 : (sS (sS (nxT B n p t) 15 1) 16 (nI (tS B n p))).1 13 = nI (tS B n p) := by rw [sS_1n (by decide), sS_1n (by decide)]; exact nx_13
    unfold numR
    rw [if_neg (fun q => hk q.1)]
    refine ⟨fun v e q => (by cases q), fun c q r => ?_⟩
    cases r
    refine ⟨_, ?_, hMX⟩
    obtain ⟨k, hk2⟩ : ∃ k, N = k + 1 := ⟨N - 1, by omega⟩
    have hs : (fun z : Int32 × HV => st_X11_number_30 N (nI lo) (nI hi) z.1 z.2) (0, sS (sS (nxT B n p t) 15 1) 16 (nI (tS B n p))) = some (.inr (nI lo, sS (sS (nxT B n p t) 15 1) 16 (nI (tS B n p)))) := by
      show st_X11_number_30 N (nI lo) (nI hi) 0 (sS (sS (nxT B n p t) 15 1) 16 (nI (tS B n p))) = _
      unfold st_X11_number_30
      rw [z12, M_byteAt hMm (by omega), ob1_s, M_isD h, if_neg (fun q => hnd (of_decide_eq_true q)), z13, Z_sub (Nat.le_refl _), Nat.sub_self, if_neg (by decide), must_t, lt_d, must_e hne, lt_d, if_neg hne]
    generalize (fun z : Int32 × HV => st_X11_number_30 N (nI lo) (nI hi) z.1 z.2) = F at hs ⊢
    rw [hk2]
    exact lpN_r hs
theorem M_let {B : Nat → Nat} {n p N : Nat} {t : HV} (h : MB B n t) (hp : p ≤ n) (h12 : t.1 12 = nI p) (h15 : t.1 15 = 0) (hN : 900 < N) : (∀ c e, letR B n p = .inr (c, e) → ∃ t', F_X11_letterHere N t = some (nI c, t') ∧ MO e t t') ∧ ∀ c q, letR B n p = .inl (c, q) → ∃ v t', F_X11_letterHere N t = some (v, t') ∧ MX c q t t' := by
  have hs := tS_le (B := B) hp
  have he := tE_le (B := B) hp
  have h800 := h.1
  have hw := wlN_le (B := B) hp
  have n15 : (nxT B n p t).1 15 = 0 := by rw [nx_o (by omega)]; exact h15
  unfold F_X11_letterHere letR
  rw [if_pos h15, M_next h hp h12 hN, ob_s, nx_14, must_t, must_f n15, nx_13]
  unfold F_X11_goesPast
  simp only [lt_d]
  rw [nx_13, nx_14]
  by_cases c1 : tK B n p = 1 ∧ tE B n p - tS B n p = 1
  · have hwl : wlN B n p = 1 := (wlN_1 c1.1).trans c1.2
    rw [if_pos c1, hwl, if_pos (show nI 1 = 1 from rfl), Z_add]
    refine ⟨fun c e q => ?_, fun c q r => (by cases r)⟩
    cases q
    have eb : bA B n (tS B n p) = nI (B (tS B n p)) := if_neg (by have := (tK_1.mp c1.1).1; omega)
    rw [eb]
    refine ⟨_, rfl, fr_s nx_f (by decide) (by decide), ?_, by rw [sS_1n (by decide)]; exact n15, by rw [sS_1n (by decide)]; exact nx_o (by omega)⟩
    rw [sS_1]
    congr 1
    omega
  · have hwl : ¬ nI (wlN B n p) = 1 := by
      rw [L1, Z_eq (by omega) (by omega)]
      intro q
      by_cases c2 : tK B n p = 1
      · exact c1 ⟨c2, (wlN_1 c2).symm.trans q⟩
      · rw [wlN_0 hp c2] at q; omega
    rw [if_neg c1, if_neg hwl]
    refine ⟨fun c e q => (by cases q), fun c q r => ?_⟩
    cases r
    refine ⟨_, _, rfl, fr_s (fr_s (fr_s nx_f (by decide) (by decide)) (by decide) (by decide)) (by decide) (by decide), ?_, ?_⟩
    · rw [sS_1n (by decide), sS_1n (by decide), sS_1]; rfl
    · rw [sS_1n (by decide), sS_1]
theorem M_sem {B : Nat → Nat} {n p N : Nat} {t : HV} (h : MB B n t) (hp : p ≤ n) (h12 : t.1 12 = nI p) (h15 : t.1 15 = 0) (hN : 900 < N) : (∀ e, semR B n p = .inr e → ∃ t', F_X11_semicolon N t = some t' ∧ MO e t t') ∧ ∀ c q, semR B n p = .inl (c, q) → ∃ t', F_X11_semicolon N t = some t' ∧ MX c q t t' := by
  have hs := tS_le (B := B) hp
  have h800 := h.1
  have n15 : (nxT B n p t).1 15 = 0 := by rw [nx_o (by omega)]; exact h15
  unfold F_X11_semicolon semR
  rw [if_pos h15, M_next h hp h12 hN, ob_s, must_t, must_f n15, nx_13]
  simp only [lt_d]
  rw [nx_12, L1, Z_add]
  have hz : (bA B n (tS B n p) = 59) = (tS B n p < n ∧ B (tS B n p) = 59) := by rw [show (59 : Int32) = nI 59 from rfl, bA_c h (by decide)]
  by_cases c1 : tK B n p = 3
  · have c2 := tK_3.mp c1
    have he : tE B n p = tS B n p + 1 := by
      have q3 : ¬ isL (B (tS B n p)) = true := by rw [isL_t, c2.2]; omega
      have q4 : ¬ isD (B (tS B n p)) = true := by rw [isD_t, c2.2]; omega
      unfold tE
      rw [if_neg (by omega), if_neg q3, if_neg q4]
    rw [if_pos c1, if_pos (by rw [hz]; exact c2)]
    refine ⟨fun e q => ?_, fun c q r => (by cases r)⟩
    cases q
    exact ⟨_, rfl, fr_s nx_f (by decide) (by decide), by rw [sS_1, he], by rw [sS_1n (by decide)]; exact n15, by rw [sS_1n (by decide)]; exact nx_o (by omega)⟩
  · rw [if_neg c1, if_neg (by rw [hz]; exact fun q => c1 (tK_3.mpr q))]
    refine ⟨fun e q => (by cases q), fun c q r => ?_⟩
    cases r
    refine ⟨_, rfl, fr_s (fr_s (fr_s nx_f (by decide) (by decide)) (by decide) (by decide)) (by decide) (by decide), ?_, ?_⟩
    · rw [sS_1n (by decide), sS_1n (by decide), sS_1]
    · rw [sS_1n (by decide), sS_1]
/-- the letters of a word -/
def wdL (B : Nat → Nat) (s m : Nat) : List Nat := (List.range m).map (fun i => B (s + i))
theorem wdL_len {B : Nat → Nat} {s m : Nat} : (wdL B s m).length = m := by
  unfold wdL
  rw [List.length_map, List.length_range]
theorem wdL_at {B : Nat → Nat} {s m x : Nat} (h : x < m) : (wdL B s m).getD x 0 = B (s + x) := by
  unfold wdL
  rw [List.getD_eq_getElem?_getD, List.getElem?_map, List.getElem?_range h]
  rfl
theorem wdL_ok {B : Nat → Nat} {s m : Nat} (h0 : 0 < m) (h12 : m ≤ 12) (hl : ∀ k, k < m → 97 ≤ B (s + k) ∧ B (s + k) ≤ 122) : okW (wdL B s m) := by
  refine ⟨by rw [wdL_len]; exact h0, by rw [wdL_len]; exact h12, fun x hx => ?_⟩
  rw [wdL_len] at hx
  rw [wdL_at hx]
  exact hl x hx
theorem M_takes {B : Nat → Nat} {n s m N : Nat} {t : HV} (h : MB B n t) (hs : s + m ≤ n) (hm : m ≤ 12) (hN : 900 < N) : ∃ r, F_X11_takesWord N (nI s) (nI m) t = some (sA t 9 r) ∧ wAt r 0 (wdL B s m) := by
  have h800 := h.1
  unfold F_X11_takesWord
  rw [if_pos (by decide), L0, Z_aw (by decide), lt_d]
  have key := lpN_up (f := fun z => st_X11_takesWord_9 N (nI s) (nI m) z.1 z.2) (fun i (x : Int32 × HV) => ∃ r, x = (nI i, sA t 9 r) ∧ r 0 = nI m ∧ ∀ k, k < i → k < m → r (1 + k) = nI (B (s + k))) (fun y => ∃ r, y = sA t 9 r ∧ r 0 = nI m ∧ ∀ k, k < m → r (1 + k) = nI (B (s + k))) (n := 12) (N := N) (x0 := (nI 0, sA t 9 (upd (t.2 9) 0 (nI m)))) (by omega) ⟨_, rfl, pk_us, fun k hk => absurd hk (Nat.not_lt_zero k)⟩ (fun i x hi hP => ?_) (fun x hP => ?_)
  · obtain ⟨y, e, r, rfl, r0, r1⟩ := key
    refine ⟨r, e, by rw [wdL_len]; exact r0, fun x hx => ?_⟩
    rw [wdL_len] at hx
    rw [wdL_at hx, Nat.zero_add]
    exact r1 x hx
  · obtain ⟨r, rfl, r0, r1⟩ := hP
    show ∃ y, st_X11_takesWord_9 N (nI s) (nI m) (nI i) (sA t 9 r) = _ ∧ _
    unfold st_X11_takesWord_9
    rw [if_neg (by rw [L12, Z_le (by omega) (by omega)]; omega), L1, Z_add, Z_add, Z_add]
    have hv : vpb (nI (1 + i)) 13 = true := by rw [Z_vpb (by omega)]; omega
    by_cases c : m ≤ i
    · rw [if_pos (by rw [Z_le (by omega) (by omega)]; exact c), if_pos hv, Z_aw (by omega), lt_d, sAA, sA2s]
      refine ⟨_, rfl, _, rfl, by rw [pk_un (by omega)]; exact r0, fun k hk hk2 => ?_⟩
      rw [pk_un (by omega)]
      exact r1 k (by omega) hk2
    · rw [if_neg (by rw [Z_le (by omega) (by omega)]; exact c), if_pos (show vpb (nI (s + i)) 800 = true by rw [Z_vpb (by omega)]; omega), if_pos hv, Z_ag (by omega), Z_aw (by omega), lt_d, sAA, sA2s, sA_2n (by decide), (h.2.1 (s + i) (by omega)).2]
      refine ⟨_, rfl, _, rfl, by rw [pk_un (by omega)]; exact r0, fun k hk hk2 => ?_⟩
      by_cases e : k = i
      · rw [e, pk_us]
      · rw [pk_un (by omega)]
        exact r1 k (by omega) hk2
  · obtain ⟨r, rfl, r0, r1⟩ := hP
    refine ⟨sA t 9 r, ?_, r, rfl, r0, fun k hk => r1 k (by omega) hk⟩
    show st_X11_takesWord_9 N (nI s) (nI m) (nI 12) (sA t 9 r) = _
    unfold st_X11_takesWord_9
    rw [if_pos (by decide)]
theorem M_wrd {B : Nat → Nat} {n p N : Nat} {t : HV} (h : MB B n t) (hp : p ≤ n) (h12 : t.1 12 = nI p) (h15 : t.1 15 = 0) (hN : 900 < N) : (∀ s e, wrdR B n p = .inr (s, e) → ∃ t' r, F_X11_wordHere N t = some (sA t' 9 r) ∧ fr t t' ∧ t'.1 13 = nI s ∧ t'.1 14 = nI (e - s) ∧ t'.1 15 = 0 ∧ t'.1 16 = t.1 16 ∧ wAt r 0 (wdL B s (e - s))) ∧ ∀ c q, wrdR B n p = .inl (c, q) → ∃ t', F_X11_wordHere N t = some t' ∧ MX c q t t' := by
  have hs := tS_le (B := B) hp
  have he := tE_le (B := B) hp
  have h800 := h.1
  have hw := wlN_le (B := B) hp
  have hM : MB B n (nxT B n p t) := MB_f h nx_f
  have n15 : (nxT B n p t).1 15 = 0 := by rw [nx_o (by omega)]; exact h15
  have hin : F_X11_in (nI (wlN B n p)).toInt64 (1 : Int64) (12 : Int64) = decide (1 ≤ wlN B n p ∧ wlN B n p ≤ 12) := by
    rw [T1, T12, Z_inB]
    simp only [Z_le (show 1 < 2 ^ 31 by omega) (show wlN B n p < 2 ^ 31 by omega), Z_le (show wlN B n p < 2 ^ 31 by omega) (show 12 < 2 ^ 31 by omega)]
  unfold F_X11_wordHere wrdR
  rw [if_pos h15, M_next h hp h12 hN, ob_s, nx_14, hin, lt_d]
  by_cases c1 : tK B n p = 1 ∧ tE B n p - tS B n p ≤ 12
  · have hwl : wlN B n p = tE B n p - tS B n p := wlN_1 c1.1
    have hgt := tE_gt hp (tK_1.mp c1.1).1
    rw [decide_eq_true (by omega), must_t, if_pos n15, nx_13, nx_14, hwl]
    obtain ⟨r, e1, w1⟩ := M_takes (B := B) (n := n) (s := tS B n p) (m := tE B n p - tS B n p) (t := nxT B n p t) hM (by omega) c1.2 hN
    rw [e1, ob1_s, if_pos c1]
    refine ⟨fun s e q => ?_, fun c q r => (by cases r)⟩
    cases q
    exact ⟨_, r, rfl, nx_f, nx_13, by rw [nx_14, hwl], n15, nx_o (by omega), w1⟩
  · have hwl : ¬ (1 ≤ wlN B n p ∧ wlN B n p ≤ 12) := fun q => by
      by_cases c2 : tK B n p = 1
      · exact c1 ⟨c2, by rw [← wlN_1 c2]; exact q.2⟩
      · rw [wlN_0 hp c2] at q; omega
    have hMX : MX 1 (tS B n p) t (sS (sS (nxT B n p t) 15 1) 16 (nI (tS B n p))) := ⟨fr_s (fr_s nx_f (by decide) (by decide)) (by decide) (by decide), by rw [sS_1n (by decide), sS_1]; rfl, sS_1⟩
    have hne := MX_n hMX (by decide) (by decide)
    rw [decide_eq_false hwl, must_f n15, nx_13, if_neg hne, if_neg c1]
    refine ⟨fun s e q => (by cases q), fun c q r => ?_⟩
    cases r
    exact ⟨_, rfl, hMX⟩
