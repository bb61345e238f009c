/-! ===== vtok: the tokens of a text that is written well ===== -/
def At (X : List Nat) (p : Nat) (R : List Nat) : Prop := ∃ P, X = P ++ R ∧ P.length = p
def tB (X : List Nat) : Nat → Nat := fun k => X.getD k 0
theorem At_0 {X : List Nat} : At X 0 X := ⟨[], rfl, rfl⟩
theorem At_le {X R : List Nat} {p : Nat} (h : At X p R) : p + R.length = X.length := by
  obtain ⟨P, rfl, rfl⟩ := h
  rw [List.length_append]
theorem At_app {X w R : List Nat} {p : Nat} (h : At X p (w ++ R)) : At X (p + w.length) R := by
  obtain ⟨P, rfl, rfl⟩ := h
  exact ⟨P ++ w, (List.append_assoc _ _ _).symm, List.length_append⟩
theorem At_B {X w R : List Nat} {p i : Nat} (h : At X p (w ++ R)) (hi : i < w.length) : tB X (p + i) = w.getD i 0 := by
  obtain ⟨P, rfl, rfl⟩ := h
  show (P ++ (w ++ R)).getD (P.length + i) 0 = _
  rw [List.getD_eq_getElem?_getD, List.getD_eq_getElem?_getD, List.getElem?_append_right (Nat.le_add_right _ _), Nat.add_sub_cancel_left, List.getElem?_append_left hi]
theorem At_c {X R : List Nat} {p c : Nat} (h : At X p (c :: R)) : tB X p = c ∧ p < X.length ∧ At X (p + 1) R := by
  have h1 := At_B (w := [c]) (R := R) (i := 0) h (Nat.lt_succ_self 0)
  have h2 := At_le h
  have h3 : At X (p + [c].length) R := At_app h
  refine ⟨h1, ?_, h3⟩
  have : (c :: R).length = R.length + 1 := rfl
  omega
theorem rep_at {s i : Nat} (h : i < s) : (List.replicate s 32).getD i 0 = 32 := by
  rw [List.getD_eq_getElem?_getD, List.getElem?_replicate_of_lt h]
  rfl
theorem tS_t {X R : List Nat} {p s c : Nat} (h : At X p (List.replicate s 32 ++ c :: R)) (hc : c ≠ 32) : tS (tB X) X.length p = p + s := by
  have h2 := At_app h
  rw [List.length_replicate] at h2
  obtain ⟨e1, e2, -⟩ := At_c h2
  refine runE_is (by omega) (by omega) (fun j h3 h4 => ?_) (fun _ => ?_)
  · have e3 := At_B h (i := j - p) (by rw [List.length_replicate]; omega)
    rw [show p + (j - p) = j by omega, rep_at (by omega)] at e3
    show isSp (tB X j) = true
    rw [e3]
    rfl
  · show isSp (tB X (p + s)) = false
    rw [e1]
    exact decide_eq_false hc
theorem run_t {q : Nat → Bool} {X w R : List Nat} {p d : Nat} (h : At X p (w ++ d :: R)) (hw : ∀ c ∈ w, q c = true) (hd : q d = false) : runE (fun k => q (tB X k)) X.length p = p + w.length := by
  obtain ⟨e1, e2, -⟩ := At_c (At_app h)
  refine runE_is (by omega) (by omega) (fun j h3 h4 => ?_) (fun _ => ?_)
  · have hj : j - p < w.length := by omega
    have e3 := At_B h hj
    rw [show p + (j - p) = j by omega, List.getD_eq_getElem?_getD, List.getElem?_eq_getElem hj] at e3
    show q (tB X j) = true
    rw [e3]
    exact hw _ (List.getElem_mem hj)
  · show q (tB X (p + w.length)) = false
    rw [e1]
    exact hd
theorem At_sp {X w R : List Nat} {p s : Nat} (h : At X p (List.replicate s 32 ++ (w ++ R))) : At X (p + s) (w ++ R) := by
  have h2 := At_app h
  rwa [List.length_replicate] at h2
theorem tokL_t {X w R : List Nat} {p s c d : Nat} (h : At X p (List.replicate s 32 ++ ((c :: w) ++ d :: R))) (hw : ∀ x ∈ c :: w, isL x = true) (hd : isL d = false) : tK (tB X) X.length p = 1 ∧ tS (tB X) X.length p = p + s ∧ tE (tB X) X.length p = p + s + (c :: w).length := by
  have hc := hw c List.mem_cons_self
  have hc2 := hc
  rw [isL_t] at hc2
  have e0 : tS (tB X) X.length p = p + s := tS_t h (by omega)
  have h2 := At_sp h
  obtain ⟨e1, e2, -⟩ := At_c h2
  refine ⟨tK_1.mpr ⟨by omega, by rw [e0, e1]; exact hc⟩, e0, ?_⟩
  unfold tE
  rw [e0, e1, if_neg (by omega), if_pos hc]
  exact run_t h2 hw hd
theorem tokD_t {X w R : List Nat} {p s c d : Nat} (h : At X p (List.replicate s 32 ++ ((c :: w) ++ d :: R))) (hw : ∀ x ∈ c :: w, isD x = true) (hd : isD d = false) : tK (tB X) X.length p = 2 ∧ tS (tB X) X.length p = p + s ∧ tE (tB X) X.length p = p + s + (c :: w).length := by
  have hc := hw c List.mem_cons_self
  have hc2 := hc
  rw [isD_t] at hc2
  have e0 : tS (tB X) X.length p = p + s := tS_t h (by omega)
  have h2 := At_sp h
  obtain ⟨e1, e2, -⟩ := At_c h2
  refine ⟨tK_2.mpr ⟨by omega, by rw [e0, e1]; exact hc⟩, e0, ?_⟩
  have hl : ¬ isL c = true := by rw [isL_t]; omega
  unfold tE
  rw [e0, e1, if_neg (by omega), if_neg hl, if_pos hc]
  exact run_t h2 hw hd
theorem num_t {X R : List Nat} {p s v d lo hi : Nat} (h : At X p (List.replicate s 32 ++ (digs v ++ d :: R))) (hv : v < 100) (hd : isD d = false) (h1 : lo ≤ v) (h2 : v ≤ hi) : numR (tB X) X.length lo hi p = .inr (v, p + s + (digs v).length) ∧ At X (p + s + (digs v).length) (d :: R) := by
  have ha := At_app (At_sp h)
  refine ⟨?_, ha⟩
  by_cases c : v < 10
  · have e : digs v = [48 + v] := if_pos c
    rw [e] at h
    obtain ⟨k1, k2, k3⟩ := tokD_t h (fun x hx => by
      rw [List.mem_singleton.mp hx, isD_t]
      omega) hd
    have b0 := At_B (At_sp h) (i := 0) (by show 0 < _ + 1; omega)
    have b0' : tB X (p + s) = 48 + v := b0
    have hdv : dv (tB X) (p + s) 1 = v := by
      show 0 * 10 + (tB X (p + s + 0) - 48) = v
      rw [b0]
      show 0 * 10 + (48 + v - 48) = v
      omega
    unfold numR
    rw [k1, k2, k3, e, if_pos ⟨rfl, by show p + s + 1 - (p + s) ≤ 3; omega⟩, show p + s + [48 + v].length - (p + s) = 1 by show p + s + 1 - (p + s) = 1; omega, hdv, if_pos ⟨h1, h2⟩]
  · have e : digs v = [48 + v / 10, 48 + v % 10] := if_neg c
    rw [e] at h
    obtain ⟨k1, k2, k3⟩ := tokD_t h (fun x hx => by
      rw [isD_t]
      rcases List.mem_cons.mp hx with q | q
      · omega
      · rw [List.mem_singleton.mp q]
        omega) hd
    have b0 := At_B (At_sp h) (i := 0) (by show 0 < _ + 1; omega)
    have b1 := At_B (At_sp h) (i := 1) (by show 1 < 1 + 1; decide)
    have hdv : dv (tB X) (p + s) 2 = v := by
      show (0 * 10 + (tB X (p + s + 0) - 48)) * 10 + (tB X (p + s + 1) - 48) = v
      rw [b0, b1]
      show (0 * 10 + (48 + v / 10 - 48)) * 10 + (48 + v % 10 - 48) = v
      omega
    unfold numR
    rw [k1, k2, k3, e, if_pos ⟨rfl, by show p + s + 2 - (p + s) ≤ 3; omega⟩, show p + s + [48 + v / 10, 48 + v % 10].length - (p + s) = 2 by show p + s + 2 - (p + s) = 2; omega, hdv, if_pos ⟨h1, h2⟩]
theorem let_t {X R : List Nat} {p s c d : Nat} (h : At X p (List.replicate s 32 ++ ([c] ++ d :: R))) (hc : isL c = true) (hd : isL d = false) : letR (tB X) X.length p = .inr (c, p + s + 1) ∧ At X (p + s + 1) (d :: R) := by
  have ha : At X (p + s + [c].length) (d :: R) := At_app (At_sp h)
  refine ⟨?_, ha⟩
  obtain ⟨k1, k2, k3⟩ := tokL_t h (fun x hx => by rw [List.mem_singleton.mp hx]; exact hc) hd
  have b0 : tB X (p + s) = c := At_B (At_sp h) (i := 0) (by show 0 < _ + 1; omega)
  unfold letR
  rw [k1, k2, k3, b0, if_pos ⟨rfl, by show p + s + 1 - (p + s) = 1; omega⟩]
  rfl
theorem wrd_t {X R : List Nat} {p s d : Nat} {w : List Nat} (h : At X p (List.replicate s 32 ++ (w ++ d :: R))) (h0 : 0 < w.length) (h12 : w.length ≤ 12) (hw : ∀ x ∈ w, isL x = true) (hd : isL d = false) : wrdR (tB X) X.length p = .inr (p + s, p + s + w.length) ∧ At X (p + s + w.length) (d :: R) ∧ wdL (tB X) (p + s) w.length = w := by
  have ha := At_app (At_sp h)
  refine ⟨?_, ha, ?_⟩
  · cases w with
    | nil => exact absurd h0 (by decide)
    | cons c w =>
      obtain ⟨k1, k2, k3⟩ := tokL_t h hw hd
      unfold wrdR
      rw [k1, k2, k3, if_pos ⟨rfl, by omega⟩]
  · refine List.ext_getElem wdL_len fun i h1 h2 => ?_
    have e1 := At_B (At_sp h) h2
    rw [← wdL_at (B := tB X) (s := p + s) h2, List.getD_eq_getElem?_getD, List.getD_eq_getElem?_getD, List.getElem?_eq_getElem h1, List.getElem?_eq_getElem h2] at e1
    exact e1
theorem isW_v {X R : List Nat} {p d : Nat} {w : List Nat} (h : At X p (w ++ d :: R)) (h0 : 0 < w.length) (hw : ∀ x ∈ w, isL x = true) (hd : isL d = false) (x : List Int32) : isW (tB X) X.length p x = decide (w.map nI = x) := by
  cases w with
  | nil => exact absurd h0 (by decide)
  | cons c w =>
    obtain ⟨k1, k2, k3⟩ := tokL_t (s := 0) h hw hd
    rw [Bool.eq_iff_iff, isW_t, decide_eq_true_eq, k1, k2, k3]
    have eb : ∀ i, i < (c :: w).length → tB X (p + 0 + i) = (c :: w).getD i 0 := fun i hi => At_B (At_sp (s := 0) h) hi
    constructor
    · rintro ⟨_, q2, q3⟩
      have ql : (c :: w).length = x.length := by omega
      refine List.ext_getElem (by rw [List.length_map]; exact ql) fun i h1 h2 => ?_
      have q4 := q3 i h2
      rw [eb i (by omega), ← mapI (by omega), List.getD_eq_getElem?_getD, List.getD_eq_getElem?_getD, List.getElem?_eq_getElem h1, List.getElem?_eq_getElem h2] at q4
      exact q4
    · intro q
      subst q
      refine ⟨rfl, by rw [List.length_map]; omega, fun i hi => ?_⟩
      rw [List.length_map] at hi
      rw [eb i hi, mapI hi]
theorem sem_t {X R : List Nat} {p : Nat} (h : At X p (59 :: R)) : semR (tB X) X.length p = .inr (p + 1) ∧ At X (p + 1) R := by
  obtain ⟨e1, e2, e3⟩ := At_c h
  have e0 : tS (tB X) X.length p = p + 0 := tS_t (s := 0) h (by decide)
  rw [Nat.add_zero] at e0
  have hk : tK (tB X) X.length p = 3 := tK_3.mpr ⟨by omega, by rw [e0, e1]⟩
  refine ⟨?_, e3⟩
  unfold semR
  rw [if_pos hk]
  unfold tE
  rw [e0, e1, if_neg (by omega), if_neg (by decide), if_neg (by decide)]
theorem end_t {X : List Nat} {p : Nat} (h : At X p []) : tK (tB X) X.length p = 0 := by
  have e := At_le h
  refine tK_0.mpr ?_
  have := tS_le (B := tB X) (show p ≤ X.length by omega)
  have e2 : p = X.length := e
  omega
