/-! ===== reading: what is asked, and the program's side ===== -/
def dv (B : Nat → Nat) (s : Nat) : Nat → Nat
  | 0 => 0
  | m + 1 => dv B s m * 10 + (B (s + m) - 48)
theorem dv_lt {B : Nat → Nat} {s : Nat} : ∀ m, (∀ k, k < m → isD (B (s + k)) = true) → dv B s m < 10 ^ m := by
  intro m
  induction m with
  | zero => intro _; exact Nat.lt_of_lt_of_le Nat.zero_lt_one (Nat.le_refl _)
  | succ m ih =>
    intro h
    have h1 := ih (fun k hk => h k (by omega))
    have h2 := h m (by omega)
    rw [isD_t] at h2
    show dv B s m * 10 + (B (s + m) - 48) < 10 ^ (m + 1)
    rw [Nat.pow_succ]
    omega
def numR (B : Nat → Nat) (n lo hi p : Nat) : (Nat × Nat) ⊕ (Nat × Nat) := if tK B n p = 2 ∧ tE B n p - tS B n p ≤ 3 then (if lo ≤ dv B (tS B n p) (tE B n p - tS B n p) ∧ dv B (tS B n p) (tE B n p - tS B n p) ≤ hi then .inr (dv B (tS B n p) (tE B n p - tS B n p), tE B n p) else .inl (2, tS B n p)) else .inl (1, tS B n p)
def letR (B : Nat → Nat) (n p : Nat) : (Nat × Nat) ⊕ (Nat × Nat) := if tK B n p = 1 ∧ tE B n p - tS B n p = 1 then .inr (B (tS B n p), tE B n p) else .inl (1, tS B n p)
def wrdR (B : Nat → Nat) (n p : Nat) : (Nat × Nat) ⊕ (Nat × Nat) := if tK B n p = 1 ∧ tE B n p - tS B n p ≤ 12 then .inr (tS B n p, tE B n p) else .inl (1, tS B n p)
def semR (B : Nat → Nat) (n p : Nat) : (Nat × Nat) ⊕ Nat := if tK B n p = 3 then .inr (tE B n p) else .inl (1, tS B n p)
def isW (B : Nat → Nat) (n p : Nat) (w : List Int32) : Bool := decide (tK B n p = 1 ∧ tE B n p - tS B n p = w.length ∧ ∀ i, i < w.length → nI (B (tS B n p + i)) = w.getD i 0)
theorem isW_t {B : Nat → Nat} {n p : Nat} {w : List Int32} : (isW B n p w = true) ↔ (tK B n p = 1 ∧ tE B n p - tS B n p = w.length ∧ ∀ i, i < w.length → nI (B (tS B n p + i)) = w.getD i 0) := by
  unfold isW
  exact decide_eq_true_iff
theorem isW_f {B : Nat → Nat} {n p : Nat} {w : List Int32} (h : ¬ (tK B n p = 1 ∧ tE B n p - tS B n p = w.length ∧ ∀ i, i < w.length → nI (B (tS B n p + i)) = w.getD i 0)) : isW B n p w = false := by
  cases c : isW B n p w with
  | false => rfl
  | true => exact absurd (isW_t.mp c) h
theorem tok_D {B : Nat → Nat} {n p : Nat} (hp : p ≤ n) (h : tK B n p = 2) : ∀ k, tS B n p + k < tE B n p → isD (B (tS B n p + k)) = true := by
  obtain ⟨h1, h2⟩ := tK_2.mp h
  have h3 : ¬ isL (B (tS B n p)) = true := by rw [isL_t]; rw [isD_t] at h2; omega
  intro k hk
  unfold tE at hk
  rw [if_neg (by omega), if_neg h3, if_pos h2] at hk
  exact (runE_sp (q := fun k => isD (B k)) (tS_le hp).2).2.2.1 _ (by omega) hk
theorem tok_L {B : Nat → Nat} {n p : Nat} (hp : p ≤ n) (h : tK B n p = 1) : ∀ k, tS B n p + k < tE B n p → isL (B (tS B n p + k)) = true := by
  obtain ⟨h1, h2⟩ := tK_1.mp h
  intro k hk
  unfold tE at hk
  rw [if_neg (by omega), if_pos h2] at hk
  exact (runE_sp (q := fun k => isL (B k)) (tS_le hp).2).2.2.1 _ (by omega) hk
theorem numR_ok {B : Nat → Nat} {n lo hi p v e : Nat} (hp : p ≤ n) (h : numR B n lo hi p = .inr (v, e)) : lo ≤ v ∧ v ≤ hi ∧ p < e ∧ e ≤ n ∧ v < 1000 := by
  unfold numR at h
  split at h
  · rename_i h1
    split at h
    · rename_i h2
      cases h
      have h3 := tE_gt hp (tK_2.mp h1.1).1
      have h4 := tE_le (B := B) hp
      have h5 := tS_le (B := B) hp
      have h6 := dv_lt (B := B) (s := tS B n p) (tE B n p - tS B n p) (fun k hk => tok_D hp h1.1 k (by omega))
      have h7 : 10 ^ (tE B n p - tS B n p) ≤ 10 ^ 3 := Nat.pow_le_pow_right (by decide) h1.2
      exact ⟨h2.1, h2.2, by omega, h4.2, by omega⟩
    · cases h
  · cases h
theorem letR_ok {B : Nat → Nat} {n p c e : Nat} (hp : p ≤ n) (h : letR B n p = .inr (c, e)) : 97 ≤ c ∧ c ≤ 122 ∧ p < e ∧ e ≤ n := by
  unfold letR at h
  split at h
  · rename_i h1
    cases h
    have h2 := (tK_1.mp h1.1)
    have h3 := tE_gt hp h2.1
    have h4 := tE_le (B := B) hp
    have h5 := tS_le (B := B) hp
    have h6 := h2.2
    rw [isL_t] at h6
    exact ⟨h6.1, h6.2, by omega, h4.2⟩
  · cases h
theorem wrdR_ok {B : Nat → Nat} {n p s e : Nat} (hp : p ≤ n) (h : wrdR B n p = .inr (s, e)) : s = tS B n p ∧ e = tE B n p ∧ s < e ∧ e - s ≤ 12 ∧ p < e ∧ e ≤ n ∧ ∀ k, s + k < e → 97 ≤ B (s + k) ∧ B (s + k) ≤ 122 := by
  unfold wrdR at h
  split at h
  · rename_i h1
    cases h
    have h2 := (tK_1.mp h1.1)
    have h3 := tE_gt hp h2.1
    have h4 := tE_le (B := B) hp
    have h5 := tS_le (B := B) hp
    exact ⟨rfl, rfl, h3, h1.2, by omega, h4.2, fun k hk => by
      have := tok_L hp h1.1 k hk
      rwa [isL_t] at this⟩
  · cases h
theorem semR_ok {B : Nat → Nat} {n p e : Nat} (hp : p ≤ n) (h : semR B n p = .inr e) : p < e ∧ e ≤ n := by
  unfold semR at h
  split at h
  · rename_i h1
    cases h
    have h3 := tE_gt hp (tK_3.mp h1).1
    have h4 := tE_le (B := B) hp
    have h5 := tS_le (B := B) hp
    exact ⟨by omega, h4.2⟩
  · cases h
theorem refuse_e {g : HV} {c : Int32} : F_X9_refuse c g = (false, sS (sS g 7 c) 8 (g.1 4)) := by
  unfold F_X9_refuse
  rw [lt_d, lt_d, sS_1n (show (4 : Nat) ≠ 7 by decide)]
theorem refuse_7 {g : HV} {c v : Int32} : (sS (sS g 7 c) 8 v).1 7 = c ∧ (sS (sS g 7 c) 8 v).1 8 = v := ⟨by rw [sS_1n (by decide), sS_1], sS_1⟩
/-- what a reader leaves that went well -/
def CO (B : Nat → Nat) (n e : Nat) (g g' : HV) : Prop := CB B n g' ∧ g'.1 2 = nI e ∧ (∀ i, 7 ≤ i → g'.1 i = g.1 i) ∧ g'.2 = g.2
def CX2 (c q : Nat) (g' : HV) : Prop := g'.1 7 = nI c ∧ g'.1 8 = nI q
theorem CK_B {B : Nat → Nat} {n p : Nat} {g g' : HV} (h : CB B n g) (k : CK B n p g g') : CB B n g' := CB_e h k.1 k.2.1
theorem C_num {B : Nat → Nat} {n p N lo hi : Nat} {g : HV} (h : CB B n g) (hp : p ≤ n) (h2 : g.1 2 = nI p) (hlo : lo < 2 ^ 20) (hhi : hi < 2 ^ 20) (hN : 900 < N) : (∀ v e, numR B n lo hi p = .inr (v, e) → ∃ g', F_X9_readNumber N (nI lo) (nI hi) g = some (true, g') ∧ CO B n e g g' ∧ g'.1 6 = nI v ∧ g'.1 4 = nI (tS B n p)) ∧ ∀ c q, numR B n lo hi p = .inl (c, q) → ∃ g', F_X9_readNumber N (nI lo) (nI hi) g = some (false, g') ∧ CX2 c q g' := by
  obtain ⟨g2, f1, k⟩ := C_tok h hp h2 hN
  have hB := CK_B h k
  obtain ⟨k1, k2, k3, k4, k5, k6, k7⟩ := k
  have hs := tS_le (B := B) hp
  have he := tE_le (B := B) hp
  have h800 := h.1
  have hk5 := tK_lt (B := B) (n := n) (p := p)
  have hno : ¬ (tK B n p = 2 ∧ tE B n p - tS B n p ≤ 3) → F_X9_readNumber N (nI lo) (nI hi) g = some (false, sS (sS g2 7 1) 8 (nI (tS B n p))) := fun hc => by
    unfold F_X9_readNumber
    rw [f1, ob1_s, k4, k6]
    by_cases c : tK B n p = 2
    · rw [if_pos (by rw [c]; rfl), if_neg (by rw [L3, Z_le (by omega) (by omega)]; omega), refuse_e, lt2_d, k5]
    · rw [if_neg (by rw [L2, Z_eq (by omega) (by omega)]; exact c), refuse_e, lt2_d, k5]
  by_cases hc : tK B n p = 2 ∧ tE B n p - tS B n p ≤ 3
  · have hdig := tok_D hp hc.1
    have key := lpN_up (f := fun z => st_X9_readNumber_36 N (nI lo) (nI hi) z.1 z.2) (fun i (x : Int32 × HV) => x.1 = nI (tS B n p + i) ∧ x.2.2 = g2.2 ∧ x.2.1 6 = nI (dv B (tS B n p) i) ∧ ∀ j, j ≠ 6 → x.2.1 j = g2.1 j) (fun r => ∃ g', g'.2 = g2.2 ∧ g'.1 6 = nI (dv B (tS B n p) (tE B n p - tS B n p)) ∧ (∀ j, j ≠ 6 → g'.1 j = g2.1 j) ∧ r = if lo ≤ dv B (tS B n p) (tE B n p - tS B n p) ∧ dv B (tS B n p) (tE B n p - tS B n p) ≤ hi then (true, g') else (false, sS (sS g' 7 2) 8 (nI (tS B n p)))) (n := tE B n p - tS B n p) (N := N) (x0 := (nI (tS B n p), sS g2 6 0)) (by omega) ⟨rfl, rfl, by rw [sS_1]; rfl, fun j hj => sS_1n hj⟩ (fun i x hii hP => ?_) (fun x hP => ?_)
    · obtain ⟨r, e1, g', z1, z2, z3, rfl⟩ := key
      have hF : F_X9_readNumber N (nI lo) (nI hi) g = some (if lo ≤ dv B (tS B n p) (tE B n p - tS B n p) ∧ dv B (tS B n p) (tE B n p - tS B n p) ≤ hi then (true, g') else (false, sS (sS g' 7 2) 8 (nI (tS B n p)))) := by
        unfold F_X9_readNumber
        rw [f1, ob1_s, k4, k6, if_pos (by rw [hc.1]; rfl), if_pos (by rw [L3, Z_le (by omega) (by omega)]; exact hc.2), lt_d, sS_1n (show (4 : Nat) ≠ 6 by decide), k5]
        exact e1
      unfold numR
      rw [if_pos hc, hF]
      by_cases hr : lo ≤ dv B (tS B n p) (tE B n p - tS B n p) ∧ dv B (tS B n p) (tE B n p - tS B n p) ≤ hi
      · rw [if_pos hr, if_pos hr]
        refine ⟨fun v e q => ?_, fun c q r => (by cases r)⟩
        cases q
        exact ⟨g', rfl, ⟨CB_e hB z1 (z3 1 (by decide)), by rw [z3 2 (by decide)]; exact k3, fun i hi => by rw [z3 i (by omega)]; exact k7 i (by omega), z1.trans k1⟩, z2, by rw [z3 4 (by decide)]; exact k5⟩
      · rw [if_neg hr, if_neg hr]
        refine ⟨fun v e q => (by cases q), fun c q r => ?_⟩
        cases r
        exact ⟨_, rfl, refuse_7⟩
    · obtain ⟨x1, x2⟩ := x
      obtain ⟨q1, q2, q3, q4⟩ := hP
      dsimp only at q1 q2 q3 q4
      cases q1
      have hBx : CB B n x2 := CB_e hB q2 (q4 1 (by decide))
      have hd := hdig i (by omega)
      rw [isD_t] at hd
      have hlt := dv_lt (B := B) (s := tS B n p) i (fun k hk => hdig k (by omega))
      have h7 : 10 ^ i ≤ 10 ^ 3 := Nat.pow_le_pow_right (by decide) (by omega)
      refine ⟨(nI (tS B n p + (i + 1)), sS x2 6 (nI (dv B (tS B n p) (i + 1)))), ?_, rfl, q2, sS_1, fun j hj => ?_⟩
      · show st_X9_readNumber_36 N (nI lo) (nI hi) (nI (tS B n p + i)) x2 = _
        unfold st_X9_readNumber_36
        rw [q4 4 (by decide), k5, q4 5 (by decide), k6, Z_add, if_neg (by rw [Z_le (by omega) (by omega)]; omega), q3, CB_get hBx (by omega), L10, Z_mul, Z_add, L48, Z_sub (by omega), lt_d, L1, Z_add]
        rw [show dv B (tS B n p) i * 10 + B (tS B n p + i) - 48 = dv B (tS B n p) (i + 1) from (by show _ = dv B (tS B n p) i * 10 + (B (tS B n p + i) - 48); omega)]
        rfl
      · show (sS x2 6 _).1 j = _
        rw [sS_1n hj]; exact q4 j hj
    · obtain ⟨x1, x2⟩ := x
      obtain ⟨q1, q2, q3, q4⟩ := hP
      dsimp only at q1 q2 q3 q4
      cases q1
      have hlt := dv_lt (B := B) (s := tS B n p) (tE B n p - tS B n p) (fun k hk => hdig k (by omega))
      have h7 : 10 ^ (tE B n p - tS B n p) ≤ 10 ^ 3 := Nat.pow_le_pow_right (by decide) hc.2
      refine ⟨_, ?_, x2, q2, q3, q4, rfl⟩
      show st_X9_readNumber_36 N (nI lo) (nI hi) (nI (tS B n p + (tE B n p - tS B n p))) x2 = _
      unfold st_X9_readNumber_36
      rw [q4 4 (by decide), k5, q4 5 (by decide), k6, Z_add, if_pos (by rw [Z_le (by omega) (by omega)]; omega), q3, refuse_e, lt2_d, q4 4 (by decide), k5]
      by_cases c1 : dv B (tS B n p) (tE B n p - tS B n p) < lo
      · rw [if_pos (by rw [Z_lt (by omega) (by omega)]; exact c1), if_neg Bool.false_ne_true, if_neg (show ¬ (lo ≤ dv B (tS B n p) (tE B n p - tS B n p) ∧ dv B (tS B n p) (tE B n p - tS B n p) ≤ hi) by omega)]
      · rw [if_neg (by rw [Z_lt (by omega) (by omega)]; exact c1)]
        by_cases c2 : dv B (tS B n p) (tE B n p - tS B n p) ≤ hi
        · rw [if_pos (by rw [Z_le (by omega) (by omega)]; exact c2), if_pos (show lo ≤ dv B (tS B n p) (tE B n p - tS B n p) ∧ dv B (tS B n p) (tE B n p - tS B n p) ≤ hi by omega)]
        · rw [if_neg (by rw [Z_le (by omega) (by omega)]; exact c2), if_neg Bool.false_ne_true, if_neg (show ¬ (lo ≤ dv B (tS B n p) (tE B n p - tS B n p) ∧ dv B (tS B n p) (tE B n p - tS B n p) ≤ hi) by omega)]
  · unfold numR
    rw [if_neg hc, hno hc]
    refine ⟨fun v e q => (by cases q), fun c q r => ?_⟩
    cases r
    exact ⟨_, rfl, refuse_7⟩
theorem C_let {B : Nat → Nat} {n p N : Nat} {g : HV} (h : CB B n g) (hp : p ≤ n) (h2 : g.1 2 = nI p) (hN : 900 < N) : (∀ c e, letR B n p = .inr (c, e) → ∃ g', F_X9_readLetter N g = some (true, g') ∧ CO B n e g g' ∧ g'.1 6 = nI c) ∧ ∀ c q, letR B n p = .inl (c, q) → ∃ g', F_X9_readLetter N g = some (false, g') ∧ CX2 c q g' := by
  obtain ⟨g2, f1, k⟩ := C_tok h hp h2 hN
  have hB := CK_B h k
  obtain ⟨k1, k2, k3, k4, k5, k6, k7⟩ := k
  have hs := tS_le (B := B) hp
  have he := tE_le (B := B) hp
  have h800 := h.1
  have hk5 := tK_lt (B := B) (n := n) (p := p)
  have z3 : ∀ v, (sS g2 6 v).1 3 = nI (tK B n p) := fun v => by rw [sS_1n (by decide)]; exact k4
  have z5 : ∀ v, (sS g2 6 v).1 5 = nI (tE B n p - tS B n p) := fun v => by rw [sS_1n (by decide)]; exact k6
  have z4 : ∀ v, (sS g2 6 v).1 4 = nI (tS B n p) := fun v => by rw [sS_1n (by decide)]; exact k5
  unfold F_X9_readLetter letR
  rw [f1, ob1_s, lt_d, z3, z5, refuse_e, lt2_d, z4, if_neg Bool.false_ne_true]
  by_cases c1 : tK B n p = 1
  · rw [if_pos (show nI (tK B n p) = 1 by rw [c1]; rfl)]
    by_cases c2 : tE B n p - tS B n p = 1
    · rw [if_pos (show nI (tE B n p - tS B n p) = 1 by rw [c2]; rfl), if_pos ⟨c1, c2⟩]
      refine ⟨fun c e q => ?_, fun c q r => (by cases r)⟩
      cases q
      refine ⟨_, rfl, ⟨CB_e hB sS_2 (sS_1n (by decide)), by rw [sS_1n (by decide)]; exact k3, fun i hi => by rw [sS_1n (by omega)]; exact k7 i (by omega), k1⟩, ?_⟩
      rw [sS_1, k5, CB_get hB (tK_1.mp c1).1]
    · rw [if_neg (show ¬ nI (tE B n p - tS B n p) = 1 by rw [L1, Z_eq (by omega) (by omega)]; exact c2), if_neg (show ¬ (tK B n p = 1 ∧ _) from fun q => c2 q.2)]
      refine ⟨fun c e q => (by cases q), fun c q r => ?_⟩
      cases r
      exact ⟨_, rfl, refuse_7⟩
  · rw [if_neg (show ¬ nI (tK B n p) = 1 by rw [L1, Z_eq (by omega) (by omega)]; exact c1), if_neg (show ¬ (tK B n p = 1 ∧ _) from fun q => c1 q.1)]
    refine ⟨fun c e q => (by cases q), fun c q r => ?_⟩
    cases r
    exact ⟨_, rfl, refuse_7⟩
theorem C_wrd {B : Nat → Nat} {n p N : Nat} {g : HV} (h : CB B n g) (hp : p ≤ n) (h2 : g.1 2 = nI p) (hN : 900 < N) : (∀ s e, wrdR B n p = .inr (s, e) → ∃ g', F_X9_readMessageWord N g = some (true, g') ∧ CO B n e g g' ∧ g'.1 4 = nI s ∧ g'.1 5 = nI (e - s)) ∧ ∀ c q, wrdR B n p = .inl (c, q) → ∃ g', F_X9_readMessageWord N g = some (false, g') ∧ CX2 c q g' := by
  obtain ⟨g2, f1, k⟩ := C_tok h hp h2 hN
  have hB := CK_B h k
  obtain ⟨k1, k2, k3, k4, k5, k6, k7⟩ := k
  have hs := tS_le (B := B) hp
  have he := tE_le (B := B) hp
  have h800 := h.1
  have hk5 := tK_lt (B := B) (n := n) (p := p)
  unfold F_X9_readMessageWord wrdR
  rw [f1, ob1_s, k4, k6, refuse_e, lt2_d, k5, if_neg Bool.false_ne_true]
  by_cases c1 : tK B n p = 1
  · rw [if_pos (show nI (tK B n p) = 1 by rw [c1]; rfl)]
    by_cases c2 : tE B n p - tS B n p ≤ 12
    · rw [if_pos (show nI (tE B n p - tS B n p) ≤ 12 by rw [L12, Z_le (by omega) (by omega)]; exact c2), if_pos ⟨c1, c2⟩]
      refine ⟨fun c e q => ?_, fun c q r => (by cases r)⟩
      cases q
      exact ⟨_, rfl, ⟨hB, k3, fun i hi => k7 i (by omega), k1⟩, k5, k6⟩
    · rw [if_neg (show ¬ nI (tE B n p - tS B n p) ≤ 12 by rw [L12, Z_le (by omega) (by omega)]; exact c2), if_neg (show ¬ (tK B n p = 1 ∧ _) from fun q => c2 q.2)]
      refine ⟨fun c e q => (by cases q), fun c q r => ?_⟩
      cases r
      exact ⟨_, rfl, refuse_7⟩
  · rw [if_neg (show ¬ nI (tK B n p) = 1 by rw [L1, Z_eq (by omega) (by omega)]; exact c1), if_neg (show ¬ (tK B n p = 1 ∧ _) from fun q => c1 q.1)]
    refine ⟨fun c e q => (by cases q), fun c q r => ?_⟩
    cases r
    exact ⟨_, rfl, refuse_7⟩
theorem C_sem {B : Nat → Nat} {n p N : Nat} {g : HV} (h : CB B n g) (hp : p ≤ n) (h2 : g.1 2 = nI p) (hN : 900 < N) : (∀ e, semR B n p = .inr e → ∃ g', F_X9_readSemicolon N g = some (true, g') ∧ CO B n e g g') ∧ ∀ c q, semR B n p = .inl (c, q) → ∃ g', F_X9_readSemicolon N g = some (false, g') ∧ CX2 c q g' := by
  obtain ⟨g2, f1, k⟩ := C_tok h hp h2 hN
  have hB := CK_B h k
  obtain ⟨k1, k2, k3, k4, k5, k6, k7⟩ := k
  have hk5 := tK_lt (B := B) (n := n) (p := p)
  unfold F_X9_readSemicolon semR
  rw [f1, ob1_s, k4, refuse_e, lt2_d, k5, if_neg Bool.false_ne_true]
  by_cases c1 : tK B n p = 3
  · rw [if_pos (show nI (tK B n p) = 3 by rw [c1]; rfl), if_pos c1]
    refine ⟨fun e q => ?_, fun c q r => (by cases r)⟩
    cases q
    exact ⟨_, rfl, hB, k3, fun i hi => k7 i (by omega), k1⟩
  · rw [if_neg (show ¬ nI (tK B n p) = 3 by rw [L3, Z_eq (by omega) (by omega)]; exact c1), if_neg c1]
    refine ⟨fun e q => (by cases q), fun c q r => ?_⟩
    cases r
    exact ⟨_, rfl, refuse_7⟩
/-- is the token such a word -/
theorem C_isW {B : Nat → Nat} {n p N sx : Nat} {g g' : HV} (h : CB B n g) (hp : p ≤ n) (k : CK B n p g g') (hx : (sTx sx).length ≤ 12) (hN : 900 < N) : F_X9_isWord N sx g' = some (isW B n p (sTx sx)) := by
  have hB := CK_B h k
  obtain ⟨k1, k2, k3, k4, k5, k6, k7⟩ := k
  have hs := tS_le (B := B) hp
  have he := tE_le (B := B) hp
  have h800 := h.1
  have hk5 := tK_lt (B := B) (n := n) (p := p)
  unfold F_X9_isWord
  rw [k4, k6]
  by_cases c1 : tK B n p = 1
  · rw [if_pos (by rw [c1]; rfl)]
    by_cases c2 : tE B n p - tS B n p = (sTx sx).length
    · rw [if_pos (by rw [c2])]
      have key : ∃ r, lpN N (fun z => st_X9_isWord_23 N sx z g') 0 = some r ∧ r = isW B n p (sTx sx) := by
        refine lpN_upx (fun i x => x = nI i ∧ ∀ j, j < i → nI (B (tS B n p + j)) = (sTx sx).getD j 0) _ (n := (sTx sx).length) (by omega) ⟨rfl, fun j hj => absurd hj (Nat.not_lt_zero j)⟩ (fun i x hi hP => ?_) (fun x hP => ?_)
        · obtain ⟨rfl, hP⟩ := hP
          show (∃ y, st_X9_isWord_23 N sx (nI i) g' = _ ∧ _) ∨ ∃ r, st_X9_isWord_23 N sx (nI i) g' = _ ∧ _
          unfold st_X9_isWord_23
          rw [if_neg (by rw [Z_le (by omega) (by omega)]; omega), if_pos (by rw [Z_vpb (by omega)]; exact hi), k5, Z_add, CB_get hB (by omega), L1, Z_add]
          have e1 : sCh sx (nI i) = (sTx sx).getD i 0 := by
            unfold sCh
            rw [nI_clamp (by omega)]
          rw [e1]
          by_cases c : nI (B (tS B n p + i)) = (sTx sx).getD i 0
          · rw [if_pos c]
            exact Or.inl ⟨_, rfl, rfl, fun j hj => by
              by_cases e : j = i
              · rw [e]; exact c
              · exact hP j (by omega)⟩
          · rw [if_neg c]
            exact Or.inr ⟨_, rfl, (isW_f (fun q => c (q.2.2 i hi))).symm⟩
        · obtain ⟨rfl, hP⟩ := hP
          refine ⟨true, ?_, (isW_t.mpr ⟨c1, c2, hP⟩).symm⟩
          show st_X9_isWord_23 N sx (nI (sTx sx).length) g' = _
          unfold st_X9_isWord_23
          rw [if_pos (by rw [Z_le (by omega) (by omega)]; omega)]
      obtain ⟨r, e, rfl⟩ := key
      exact e
    · rw [if_neg (by rw [Z_eq (by omega) (by omega)]; exact c2), isW_f (fun q => c2 q.2.1)]
  · rw [if_neg (by rw [L1, Z_eq (by omega) (by omega)]; exact c1), isW_f (fun q => c1 q.1)]
