/-! ===== reading: the other side ===== -/
def MB (B : Nat → Nat) (n : Nat) (t : HV) : Prop := n ≤ 800 ∧ (∀ k, k < n → B k < 256 ∧ t.2 10 k = nI (B k)) ∧ t.1 11 = nI n
def fr (t t' : HV) : Prop := t'.2 = t.2 ∧ ∀ i, (i < 12 ∨ 17 ≤ i) → t'.1 i = t.1 i
theorem fr_r {t : HV} : fr t t := ⟨rfl, fun _ _ => rfl⟩
theorem fr_t {t t' t2 : HV} (h : fr t t') (h2 : fr t' t2) : fr t t2 := ⟨h2.1.trans h.1, fun i hi => (h2.2 i hi).trans (h.2 i hi)⟩
theorem fr_s {t t' : HV} (h : fr t t') {i : Nat} {v : Int32} (h1 : 12 ≤ i) (h2 : i < 17) : fr t (sS t' i v) := ⟨h.1, fun j hj => by rw [sS_1n (by omega)]; exact h.2 j hj⟩
theorem MB_e {B : Nat → Nat} {n : Nat} {t t' : HV} (h : MB B n t) (e2 : t'.2 10 = t.2 10) (e1 : t'.1 11 = t.1 11) : MB B n t' := ⟨h.1, by rw [e2]; exact h.2.1, e1.trans h.2.2⟩
theorem MB_f {B : Nat → Nat} {n : Nat} {t t' : HV} (h : MB B n t) (f : fr t t') : MB B n t' := MB_e h (by rw [f.1]) (f.2 11 (by omega))
def bA (B : Nat → Nat) (n k : Nat) : Int32 := if n ≤ k then -1 else nI (B k)
theorem bA_c {B : Nat → Nat} {n k c : Nat} {t : HV} (h : MB B n t) (hc : c < 256) : (bA B n k = nI c) = (k < n ∧ B k = c) := by
  unfold bA
  by_cases c1 : n ≤ k
  · rw [if_pos c1, Z_m1' (by omega)]
    exact propext ⟨False.elim, fun q => by omega⟩
  · have := (h.2.1 k (by omega)).1
    rw [if_neg c1, Z_eq (by omega) (by omega)]
    exact propext ⟨fun q => ⟨by omega, q⟩, fun q => q.2⟩
def wlN (B : Nat → Nat) (n p : Nat) : Nat := runE (fun k => isL (B k)) n (tS B n p) - tS B n p
theorem wlN_1 {B : Nat → Nat} {n p : Nat} (h : tK B n p = 1) : wlN B n p = tE B n p - tS B n p := by
  obtain ⟨h1, h2⟩ := tK_1.mp h
  unfold wlN tE
  rw [if_neg (by omega), if_pos h2]
theorem wlN_0 {B : Nat → Nat} {n p : Nat} (hp : p ≤ n) (h : tK B n p ≠ 1) : wlN B n p = 0 := by
  have hs := (tS_le (B := B) hp).2
  unfold wlN
  rw [runE_is (k := tS B n p) (Nat.le_refl _) hs (fun j a b => absurd b (by omega)) (fun q => ?_), Nat.sub_self]
  cases c : isL (B (tS B n p)) with
  | false => rfl
  | true => exact absurd (tK_1.mpr ⟨q, c⟩) h
theorem wlN_le {B : Nat → Nat} {n p : Nat} (hp : p ≤ n) : tS B n p + wlN B n p ≤ n := by
  have hs := (tS_le (B := B) hp).2
  have h := runE_sp (q := fun k => isL (B k)) hs
  unfold wlN
  omega
def nxT (B : Nat → Nat) (n p : Nat) (t : HV) : HV := sS (sS (sS t 12 (nI (tS B n p))) 13 (nI (tS B n p))) 14 (nI (wlN B n p))
theorem sS_sS {t : HV} {i : Nat} {v w : Int32} : sS (sS t i v) i w = sS t i w := by
  show (up (up t.1 i v) i w, t.2) = (up t.1 i w, t.2)
  rw [up_up]
theorem sS_id {t : HV} {i : Nat} {v : Int32} (h : t.1 i = v) : sS t i v = t := by
  subst h
  show (up t.1 i (t.1 i), t.2) = t
  rw [up_id]
theorem nx_12 {B : Nat → Nat} {n p : Nat} {t : HV} : (nxT B n p t).1 12 = nI (tS B n p) := by unfold nxT; rw [sS_1n (by decide), sS_1n (by decide), sS_1]
theorem nx_13 {B : Nat → Nat} {n p : Nat} {t : HV} : (nxT B n p t).1 13 = nI (tS B n p) := by unfold nxT; rw [sS_1n (by decide), sS_1]
theorem nx_14 {B : Nat → Nat} {n p : Nat} {t : HV} : (nxT B n p t).1 14 = nI (wlN B n p) := sS_1
theorem nx_o {B : Nat → Nat} {n p i : Nat} {t : HV} (h : i < 12 ∨ 15 ≤ i) : (nxT B n p t).1 i = t.1 i := by unfold nxT; rw [sS_1n (by omega), sS_1n (by omega), sS_1n (by omega)]
theorem nx_f {B : Nat → Nat} {n p : Nat} {t : HV} : fr t (nxT B n p t) := fr_s (fr_s (fr_s fr_r (by decide) (by decide)) (by decide) (by decide)) (by decide) (by decide)
/-- what a reader leaves -/
def MO (e : Nat) (t t' : HV) : Prop := fr t t' ∧ t'.1 12 = nI e ∧ t'.1 15 = 0 ∧ t'.1 16 = t.1 16
def MX (c q : Nat) (t t' : HV) : Prop := fr t t' ∧ t'.1 15 = nI c ∧ t'.1 16 = nI q
theorem MX_n {c q : Nat} {t t' : HV} (h : MX c q t t') (h0 : 0 < c) (h4 : c < 5) : t'.1 15 ≠ 0 := by
  rw [h.2.1, L0]
  intro e
  rw [Z_eq (by omega) (by omega)] at e
  omega
/-- the letters of a word -/
def wdL (B : Nat → Nat) (s m : Nat) : List Nat := (List.range m).map (fun i => B (s + i))
theorem wdL_len {B : Nat → Nat} {s m : Nat} : (wdL B s m).length = m := by
  unfold wdL
  rw [List.length_map, List.length_range]
theorem wdL_at {B : Nat → Nat} {s m x : Nat} (h : x < m) : (wdL B s m).getD x 0 = B (s + x) := by
  unfold wdL
  rw [List.getD_eq_getElem?_getD, List.getElem?_map, List.getElem?_range h]
  rfl
theorem wdL_ok {B : Nat → Nat} {s m : Nat} (h0 : 0 < m) (h12 : m ≤ 12) (hl : ∀ k, k < m → 97 ≤ B (s + k) ∧ B (s + k) ≤ 122) : okW (wdL B s m) := by
  refine ⟨by rw [wdL_len]; exact h0, by rw [wdL_len]; exact h12, fun x hx => ?_⟩
  rw [wdL_len] at hx
  rw [wdL_at hx]
  exact hl x hx
