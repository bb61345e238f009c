/-! ===== vbal: the balances, in a form that the operations keep ===== -/
def cntM (g : Nat) : List Msg → Nat
  | [] => 0
  | m :: L => (if m.1 = g then 1 else 0) + cntM g L
theorem cntM_app {g : Nat} : ∀ (K L : List Msg), cntM g (K ++ L) = cntM g K + cntM g L
  | [], L => by show cntM g L = 0 + cntM g L; omega
  | m :: K, L => by
    show (if m.1 = g then 1 else 0) + cntM g (K ++ L) = (if m.1 = g then 1 else 0) + cntM g K + cntM g L
    rw [cntM_app K L]
    omega
theorem cntM_pst {A : AS} {g : Nat} : cnt (pstB A g) (Hl A).length = cntM g (Hl A) := by
  have key : ∀ (L K : List Msg), Hl A = K ++ L → cnt (pstB A g) K.length + cntM g L = cnt (pstB A g) (Hl A).length := by
    intro L
    induction L with
    | nil =>
      intro K h
      rw [h, List.append_nil]
      rfl
    | cons m L ih =>
      intro K h
      have h1 := ih (K ++ [m]) (by rw [h, List.append_assoc]; rfl)
      rw [List.length_append, show [m].length = 1 from rfl, cnt_s] at h1
      have h2 : (pstB A g K.length = true) = (m.1 = g) := by
        rw [pstB_t, h, List.getD_eq_getElem?_getD, List.getElem?_append_right (Nat.le_refl _), Nat.sub_self]
        rfl
      simp only [h2] at h1
      show _ + ((if m.1 = g then 1 else 0) + cntM g L) = _
      omega
  exact (key (Hl A) [] rfl).symm.trans (show 0 + cntM g (Hl A) = _ by omega)
def tw (A : AS) : Nat := cnt (twgB (Hr A)) (Hn A 0)
def Jt (A : AS) : Prop := Hc A 0 - ((Hc A 1 + Hc A 2) + nI (tw A)) = 0
def Jm (A : AS) (g : Nat) : Prop := ((Hc A (10 + g) - Hc A (12 + g)) - Hc A (16 + g)) = nI ((Hq A g).length + cntM g (msgs A))
def gdW (R : Nat → Nat → Nat) (g s n : Nat) : Prop := ∀ x, x < n → R 0 (s + x) = R 4 (s + x) ∧ R 1 (s + x) = g
def lvW (R : Nat → Nat → Nat) (s n : Nat) : Prop := ∀ x, x < n → 0 < R 2 (s + x)
def Jx (A : AS) : Prop := (∀ g, g < 2 → gdW (Hr A) g (Hp A g).2.1 (Hp A g).1) ∧ ∀ m ∈ Hl A, gdW (Hr A) m.1 m.2.1 m.2.2.length
def Jl (A : AS) : Prop := (∀ g, g < 2 → lvW (Hr A) (Hp A g).2.1 (Hp A g).1) ∧ ∀ m ∈ Hl A, lvW (Hr A) m.2.1 m.2.2.length
def Jk (A : AS) : Prop := Jt A ∧ (∀ g, g < 2 → Jm A g) ∧ Jx A ∧ Jl A
theorem wrgN_0 {R : Nat → Nat → Nat} {g s n : Nat} (h1 : gdW R g s n) (h2 : lvW R s n) : wrgN R g s n = 0 := by
  refine cnt_no (fun x hx => ?_)
  rw [← Bool.not_eq_true, wrgB_t]
  exact fun h => h ⟨h2 x hx, h1 x hx⟩
theorem sumF_0 {f : Nat → Nat} : ∀ n, (∀ i, i < n → f i = 0) → sumF f n = 0
  | 0, _ => rfl
  | n + 1, h => by
    show sumF f n + f n = 0
    rw [sumF_0 n (fun i hi => h i (by omega)), h n (by omega)]
theorem prg_cnt {A : AS} {g g' : Nat} (hg : g < 2) : cntM g' (prg A g) = if (Hp A g).2.2 ≠ [] ∧ g = g' then 1 else 0 := by
  unfold prg
  by_cases c : (Hp A g).2.2 = []
  · rw [if_pos c, if_neg (fun h => h.1 c)]
    rfl
  · rw [if_neg c]
    by_cases e : g = g'
    · rw [if_pos ⟨c, e⟩]
      show (if g = g' then 1 else 0) + 0 = 1
      rw [if_pos e]
    · rw [if_neg (fun h => e h.2)]
      show (if g = g' then 1 else 0) + 0 = 0
      rw [if_neg e]
theorem msgs_cnt {A : AS} {g : Nat} (hg : g < 2) : cntM g (msgs A) = (if (Hp A g).2.2 ≠ [] then 1 else 0) + cntM g (Hl A) := by
  unfold msgs
  rw [cntM_app, cntM_app, prg_cnt (by decide), prg_cnt (by decide)]
  rcases (show g = 0 ∨ g = 1 by omega) with rfl | rfl
  · by_cases c : (Hp A 0).2.2 = [] <;> simp [c]
  · by_cases c : (Hp A 1).2.2 = [] <;> simp [c]
theorem Jk_v {A : AS} (h : Jk A) : Jv A := by
  obtain ⟨h1, h2, ⟨h3, h4⟩, ⟨h5, h6⟩⟩ := h
  refine ⟨h1, fun g hg => ?_, ?_⟩
  · have h7 := h2 g hg
    unfold Jm at h7
    rw [h7, cntM_pst, msgs_cnt hg, ← nI_add, ← nI_add]
    have hgg : ∀ a b c : Int32, (a + (b + c)) - a - c = b := fun a b c => by grind
    exact hgg _ _ _
  · unfold wrgAll
    rw [wrgN_0 (h3 0 (by decide)) (h5 0 (by decide)), wrgN_0 (h3 1 (by decide)) (h5 1 (by decide)), sumF_0 _ (fun i hi => ?_)]
    have hm : (Hl A).getD i bare ∈ Hl A := gD_mem hi
    exact wrgN_0 (h4 _ hm) (h6 _ hm)
/-! counts of twigs -/
theorem cnt_pt {p q : Nat → Bool} {k : Nat} (h : ∀ j, j ≠ k → q j = p j) : ∀ n, k < n → cnt q n + b2N (p k) = cnt p n + b2N (q k)
  | 0, hk => absurd hk (Nat.not_lt_zero _)
  | n + 1, hk => by
    rw [cnt_s, cnt_s]
    by_cases e : k = n
    · subst e
      have h1 : cnt q k = cnt p k := by
        have : ∀ m, m ≤ k → cnt q m = cnt p m := by
          intro m
          induction m with
          | zero => intro _; rfl
          | succ m ih =>
            intro hm
            rw [cnt_s, cnt_s, ih (by omega), h m (by omega)]
        exact this k (Nat.le_refl _)
      rw [h1]
      unfold b2N
      omega
    · have := cnt_pt h n (by omega)
      rw [h n (fun e9 => e e9.symm)]
      omega
theorem tw_add {R R' : Nat → Nat → Nat} {k n : Nat} (h : ∀ j, j ≠ k → R' 2 j = R 2 j) (hk : k < n) (h0 : R 2 k = 0) (h1 : 0 < R' 2 k) : cnt (twgB R') n = cnt (twgB R) n + 1 := by
  have h2 := cnt_pt (p := twgB R) (q := twgB R') (k := k) (fun j hj => by unfold twgB; rw [h j hj]) n hk
  rw [show twgB R k = false from decide_eq_false (by omega), show twgB R' k = true from decide_eq_true h1] at h2
  unfold b2N at h2
  simp at h2
  omega
theorem tw_sub {R R' : Nat → Nat → Nat} {k n : Nat} (h : ∀ j, j ≠ k → R' 2 j = R 2 j) (hk : k < n) (h0 : 0 < R 2 k) (h1 : R' 2 k = 0) : cnt (twgB R') n + 1 = cnt (twgB R) n := (tw_add (fun j hj => (h j hj).symm) hk h1 h0).symm
theorem tw_same {R R' : Nat → Nat → Nat} {n : Nat} (h : ∀ j, 0 < R' 2 j ↔ 0 < R 2 j) : cnt (twgB R') n = cnt (twgB R) n := by
  rw [show twgB R' = twgB R from funext fun j => by unfold twgB; rw [decide_eq_decide]; exact h j]
theorem tw_clr {R : Nat → Nat → Nat} {s n : Nat} : ∀ m, s + m ≤ n → cnt (twgB (clrR R s m)) n + cntT R s m = cnt (twgB R) n
  | 0, _ => by
    rw [clrR_0]
    rfl
  | m + 1, h => by
    have ih := tw_clr (R := R) (s := s) (n := n) m (by omega)
    have e1 : ∀ j, j ≠ s + m → clrR R s (m + 1) 2 j = clrR R s m 2 j := fun j hj => by
      unfold clrR
      by_cases c : s ≤ j ∧ j < s + m
      · rw [if_pos ⟨Or.inl rfl, c.1, by omega⟩, if_pos ⟨Or.inl rfl, c.1, c.2⟩]
      · rw [if_neg (fun q => c ⟨q.2.1, by omega⟩), if_neg (fun q => c ⟨q.2.1, q.2.2⟩)]
    have e2 : clrR R s (m + 1) 2 (s + m) = 0 := if_pos ⟨Or.inl rfl, by omega, by omega⟩
    have e3 : clrR R s m 2 (s + m) = R 2 (s + m) := if_neg (fun q => by omega)
    rw [cntT_s]
    by_cases c : 0 < R 2 (s + m)
    · rw [if_pos c]
      have := tw_sub (R := clrR R s m) (R' := clrR R s (m + 1)) e1 (show s + m < n by omega) (by rw [e3]; exact c) e2
      omega
    · rw [if_neg c]
      have : cnt (twgB (clrR R s (m + 1))) n = cnt (twgB (clrR R s m)) n := tw_same (fun j => by
        by_cases e : j = s + m
        · rw [e, e2, e3]
          omega
        · rw [e1 j e])
      omega
theorem tw_pru {R : Nat → Nat → Nat} {L n : Nat} : ∀ i, i ≤ n → cnt (twgB (pruR R L n)) i + cnt (pruB R L) i = cnt (twgB R) i
  | 0, _ => rfl
  | i + 1, h => by
    have ih := tw_pru (R := R) (L := L) (n := n) i (by omega)
    rw [cnt_s, cnt_s, cnt_s]
    by_cases c : pruB R L i = true
    · have c2 := c
      rw [pruB_t] at c2
      have e1 : pruR R L n 2 i = 0 := if_pos ⟨rfl, by omega, c⟩
      rw [if_pos c, if_neg (by rw [twgB_t, e1]; omega), if_pos (by rw [twgB_t]; omega)]
      omega
    · have e1 : pruR R L n 2 i = R 2 i := if_neg (fun q => c q.2.2)
      rw [if_neg c]
      by_cases c3 : 0 < R 2 i
      · rw [if_pos (by rw [twgB_t, e1]; exact c3), if_pos (by rw [twgB_t]; exact c3)]
        omega
      · rw [if_neg (by rw [twgB_t, e1]; exact c3), if_neg (by rw [twgB_t]; exact c3)]
        omega
