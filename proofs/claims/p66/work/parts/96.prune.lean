/-! ===== pruning ===== -/
def keepR (R : Nat → Nat → Nat) (L k : Nat) : Nat := if 0 < R 2 k then (if L < R 2 k then (if grd R k then 8 else 0) else 14) else 5
def pruB (R : Nat → Nat → Nat) (L k : Nat) : Bool := decide (L < R 2 k ∧ ¬ grd R k)
theorem pruB_t {R : Nat → Nat → Nat} {L k : Nat} : (pruB R L k = true) = (L < R 2 k ∧ ¬ grd R k) := decide_eq_true_eq
theorem keepR_0 {R : Nat → Nat → Nat} {L k : Nat} : (keepR R L k = 0) = (pruB R L k = true) := by
  rw [pruB_t]
  unfold keepR
  by_cases c1 : 0 < R 2 k
  · rw [if_pos c1]
    by_cases c2 : L < R 2 k
    · rw [if_pos c2]
      by_cases c3 : grd R k
      · rw [if_pos c3]; simp [c3]
      · rw [if_neg c3]; simp [c2, c3]
    · rw [if_neg c2]; simp [c2]
  · rw [if_neg c1]
    have : ¬ L < R 2 k := by omega
    simp [this]
theorem keepR_le {R : Nat → Nat → Nat} {L k : Nat} : keepR R L k ≤ 14 := by
  unfold keepR
  split
  · split
    · split <;> omega
    · omega
  · omega
def pruR (R : Nat → Nat → Nat) (L i : Nat) : Nat → Nat → Nat := fun a k => if a = 2 ∧ k < i ∧ pruB R L k = true then 0 else R a k
def opPrune (A : AS) : AS := Sc (Sr A (pruR (Hr A) (Hn A 3) (Hn A 0))) (up (Hc A) 1 (Hc A 1 + nI (cnt (pruB (Hr A) (Hn A 3)) (Hn A 0))))
theorem pruR_0 {R : Nat → Nat → Nat} {L : Nat} : pruR R L 0 = R := by
  funext a k
  exact if_neg (by omega)
theorem pruR_n {R : Nat → Nat → Nat} {L i a : Nat} (h : a ≠ 2) (k : Nat) : pruR R L i a k = R a k := if_neg (fun q => h q.1)
theorem pruR_at {R : Nat → Nat → Nat} {L i : Nat} : pruR R L i 2 i = R 2 i := if_neg (by omega)
theorem pruR_le {R : Nat → Nat → Nat} {L i k : Nat} : pruR R L i 2 k ≤ R 2 k := by
  unfold pruR
  split <;> omega
theorem pruR_grd {R : Nat → Nat → Nat} {L i k : Nat} : grd (pruR R L i) k = grd R k := by
  unfold grd
  rw [pruR_n (by decide), pruR_n (by decide), pruR_n (by decide)]
theorem pruR_B {R : Nat → Nat → Nat} {L i : Nat} : pruB (pruR R L i) L i = pruB R L i := by
  rw [Bool.eq_iff_iff, pruB_t, pruB_t, pruR_grd, pruR_at]
theorem pruR_ok {R : Nat → Nat → Nat} {n D L i : Nat} (h : okRw R n D) : okRw (pruR R L i) n D := by
  intro k
  obtain ⟨h1, h2, h3, h4, h5, h6, h7, h8⟩ := h k
  have := pruR_le (R := R) (L := L) (i := i) (k := k)
  rw [pruR_n (by decide : (3 : Nat) ≠ 2), pruR_n (by decide : (4 : Nat) ≠ 2), pruR_n (by decide : (0 : Nat) ≠ 2), pruR_n (by decide : (1 : Nat) ≠ 2)]
  exact ⟨fun q => by have := h1 q; omega, h2, fun q => h3 (by omega), h4, h5, by omega, h7, h8⟩
theorem Inv_pru {A : AS} {T : Nat} (hI : Inv A T) (i : Nat) : Inv (Sr A (pruR (Hr A) (Hn A 3) i)) T := by
  have bI := hI
  obtain ⟨hT, ⟨⟨b0, b0'⟩, ⟨b1, b1'⟩, b2, ⟨b3, b3'⟩, ⟨b4, b4'⟩, ⟨b5, b5'⟩, b6, b7⟩, hRw, hNs, hQu, hPr, hVm⟩ := id hI
  refine ⟨hT, bI.2.1, pruR_ok hRw, ?_, hQu, fun g hg => ?_, vM_4 hVm (fun k => (pruR_n (R := Hr A) (L := Hn A 3) (i := i) (a := 4) (by decide) k))⟩
  · refine Nat.le_trans (Nat.le_of_eq (cnt_congr _ (fun k _ => ?_))) hNs
    show decide (0 < pruR (Hr A) (Hn A 3) i 3 k) = decide (0 < Hr A 3 k)
    rw [pruR_n (by decide)]
  · refine ⟨(hPr g hg).1, fun h => ⟨((hPr g hg).2 h).1, fun x hx hx2 => ?_⟩⟩
    have h0 := ((hPr g hg).2 h).2 x hx hx2
    have := pruR_le (R := Hr A) (L := Hn A 3) (i := i) (k := (Hp A g).2.1 + x)
    show pruR (Hr A) (Hn A 3) i 2 ((Hp A g).2.1 + x) = 0
    omega
theorem C_keepReason {A : AS} {T : Nat} {h : Nat → HV} (hH : RH A (h 0)) (hI : Inv A T) {k : Nat} (hk : k < 2 ^ 30) : F_X5_reasonNotToPrune (nI k) h = nI (keepR (Hr A) (Hn A 3) k) := by
  have bI := hI
  obtain ⟨hT, ⟨⟨b0, b0'⟩, ⟨b1, b1'⟩, b2, ⟨b3, b3'⟩, ⟨b4, b4'⟩, ⟨b5, b5'⟩, b6, b7⟩, hRw, hNs, hQu, hPr, hVm⟩ := id hI
  have q2 := Inv_b bI k (a := 2) (by decide)
  have e3 := hH.1 3 (by decide)
  unfold F_X5_reasonNotToPrune keepR
  rw [C_row hH.2.2 bI (by decide) (by omega), e3]
  simp (disch := omega) only [C_hasTwig hH bI (show k < 2 ^ 31 by omega), C_isGuarded hH bI hk, Z_lt]
  by_cases c1 : 0 < Hr A 2 k
  · rw [if_pos c1, if_pos c1]
    by_cases c2 : Hn A 3 < Hr A 2 k
    · rw [if_pos c2, if_pos c2]
      by_cases c3 : grd (Hr A) k
      · rw [if_pos c3, if_pos c3]; rfl
      · rw [if_neg c3, if_neg c3]; rfl
    · rw [if_neg c2, if_neg c2]; rfl
  · rw [if_neg c1, if_neg c1]; rfl
theorem pruR_step {R : Nat → Nat → Nat} {L i a k : Nat} : pruR R L (i + 1) a k = if a = 2 ∧ k = i ∧ pruB R L i = true then 0 else pruR R L i a k := by
  unfold pruR
  by_cases c : a = 2 ∧ k = i ∧ pruB R L i = true
  · rw [if_pos c, if_pos ⟨c.1, by omega, by rw [c.2.1]; exact c.2.2⟩]
  · rw [if_neg c]
    by_cases c2 : a = 2 ∧ k < i ∧ pruB R L k = true
    · rw [if_pos c2, if_pos ⟨c2.1, by omega, c2.2.2⟩]
    · rw [if_neg c2, if_neg]
      rintro ⟨q1, q2, q3⟩
      by_cases q4 : k = i
      · subst q4; exact c ⟨q1, rfl, q3⟩
      · exact c2 ⟨q1, by omega, q3⟩
theorem cnt_s {p : Nat → Bool} {n : Nat} : cnt p (n + 1) = cnt p n + if p n = true then 1 else 0 := rfl
theorem C_prune {A : AS} {T : Nat} {h : Nat → HV} (hH : RC A h) (hI : Inv A T) {N : Nat} (hN : 40 < N) : ∃ h', F_X5_prune N h = some h' ∧ RC (opPrune A) h' := by
  have bI := hI
  obtain ⟨hT, ⟨⟨b0, b0'⟩, ⟨b1, b1'⟩, b2, ⟨b3, b3'⟩, ⟨b4, b4'⟩, ⟨b5, b5'⟩, b6, b7⟩, hRw, hNs, hQu, hPr, hVm⟩ := id hI
  unfold F_X5_prune
  have key := lpN_up (f := fun z => st_X5_prune_2 N z.1 z.2) (fun i (x : Int32 × (Nat → HV)) => x.1 = nI i ∧ RH (Sc (Sr A (pruR (Hr A) (Hn A 3) i)) (up (Hc A) 1 (Hc A 1 + nI (cnt (pruB (Hr A) (Hn A 3)) i)))) (x.2 0) ∧ ∀ j, j ≠ 0 → x.2 j = h j) (fun r => RH (opPrune A) (r 0) ∧ ∀ j, j ≠ 0 → r j = h j) (n := Hn A 0) (N := N) (x0 := (0, h)) (by omega) ⟨rfl, ?_, fun _ _ => rfl⟩ (fun i x hi hP => ?_) (fun x hP => ?_)
  · obtain ⟨h', e', r'⟩ := key
    refine ⟨h', e', ⟨r'.1, fun g hg => ?_⟩, ?_⟩
    · rw [r'.2 _ (by omega)]
      obtain ⟨q1, q2, q3⟩ := hH.1.2 g hg
      exact ⟨RGc_up q1 _ (fun q hq => by omega), q2, q3⟩
    · rw [r'.2 _ (by omega)]; exact hH.2
  · rw [pruR_0, show cnt (pruB (Hr A) (Hn A 3)) 0 = 0 from rfl, show Hc A 1 + nI 0 = Hc A 1 from Int32.add_zero _, up_id]
    exact hH.1.1
  · obtain ⟨x1, x2⟩ := x
    obtain ⟨e1, hR, hf⟩ := hP
    dsimp only at e1 hR hf
    cases e1
    show ∃ y, st_X5_prune_2 N (nI i) x2 = _ ∧ _
    have hJ : Inv (Sc (Sr A (pruR (Hr A) (Hn A 3) i)) (up (Hc A) 1 (Hc A 1 + nI (cnt (pruB (Hr A) (Hn A 3)) i)))) T := Inv_pru bI i
    have hk := C_keepReason hR hJ (k := i) (by omega)
    have hk2 : F_X5_reasonNotToPrune (nI i) x2 = nI (keepR (pruR (Hr A) (Hn A 3) i) (Hn A 3) i) := hk
    have hle := keepR_le (R := pruR (Hr A) (Hn A 3) i) (L := Hn A 3) (k := i)
    have hk0 := keepR_0 (R := pruR (Hr A) (Hn A 3) i) (L := Hn A 3) (k := i)
    rw [pruR_B] at hk0
    obtain ⟨hn, hc, hr⟩ := hR
    have n0 : (x2 0).1 0 = nI (Hn A 0) := hn 0 (by decide)
    have n17 : (x2 0).1 17 = Hc A 1 + nI (cnt (pruB (Hr A) (Hn A 3)) i) := (hc 1 (by decide)).trans (show up (Hc A) 1 _ 1 = _ from up_s)
    by_cases c : pruB (Hr A) (Hn A 3) i = true
    · refine ⟨(nI (i + 1), up x2 0 (sS (sA (x2 0) 2 (rset 40 ((x2 0).2 2) (nI i) (nI 0))) 17 (Hc A 1 + nI (cnt (pruB (Hr A) (Hn A 3)) (i + 1))))), ?_, rfl, ?_, fun j hj => (up_n hj).trans (hf j hj)⟩
      · unfold st_X5_prune_2
        rw [hk2]
        have hk9 : keepR (pruR (Hr A) (Hn A 3) i) (Hn A 3) i = 0 := by rw [hk0]; exact c
        have e17 : ∀ r, (sA (x2 0) 2 r).1 17 = Hc A 1 + nI (cnt (pruB (Hr A) (Hn A 3)) i) := fun r => n17
        simp (disch := omega) only [L0, L1, Z_add, Z_le, n0, hk9, ↓reduceIte, if_neg, lt_d, up_s, up_up, e17]
        rw [cnt_s, if_pos c, Int32.add_assoc, Z_add]
      · show RH _ (up x2 0 _ 0)
        rw [up_s]
        refine ⟨RHn_oth (RHn_1 hn rfl) _ (by decide), ?_, RHr_2 (RHr_eq (RHr_set hr _ (by omega)) (fun a k ha hk => ?_)) rfl⟩
        · have h1 := RHc_set (i := 1) (RHc_1 (u' := sA (x2 0) 2 (rset 40 ((x2 0).2 2) (nI i) (nI 0))) hc rfl) (Hc A 1 + nI (cnt (pruB (Hr A) (Hn A 3)) (i + 1)))
          have h2 : up (up (Hc A) 1 (Hc A 1 + nI (cnt (pruB (Hr A) (Hn A 3)) i))) 1 (Hc A 1 + nI (cnt (pruB (Hr A) (Hn A 3)) (i + 1))) = up (Hc A) 1 (Hc A 1 + nI (cnt (pruB (Hr A) (Hn A 3)) (i + 1))) := up_up
          show RHc (up (Hc A) 1 _) _
          rw [← h2]
          exact h1
        · show rowS (pruR (Hr A) (Hn A 3) i) 2 i 0 a k = pruR (Hr A) (Hn A 3) (i + 1) a k
          rw [pruR_step]
          unfold rowS
          by_cases q : a = 2 ∧ k = i
          · rw [if_pos q, if_pos ⟨q.1, q.2, c⟩]
          · rw [if_neg q, if_neg (fun z => q ⟨z.1, z.2.1⟩)]
    · refine ⟨(nI (i + 1), x2), ?_, rfl, ⟨hn, ?_, RHr_eq hr (fun a k ha hk => ?_)⟩, hf⟩
      · unfold st_X5_prune_2
        rw [hk2]
        have hk9 : ¬ keepR (pruR (Hr A) (Hn A 3) i) (Hn A 3) i = 0 := by rw [hk0]; exact c
        simp (disch := omega) only [L0, L1, Z_add, Z_le, Z_eq, n0, hk9, ↓reduceIte, if_neg]
      · show RHc (up (Hc A) 1 (Hc A 1 + nI (cnt (pruB (Hr A) (Hn A 3)) (i + 1)))) _
        rw [cnt_s, if_neg c]
        exact hc
      · show pruR (Hr A) (Hn A 3) i a k = pruR (Hr A) (Hn A 3) (i + 1) a k
        rw [pruR_step, if_neg (fun z => c z.2.2)]
  · obtain ⟨x1, x2⟩ := x
    obtain ⟨e1, hR, hf⟩ := hP
    dsimp only at e1 hR hf
    cases e1
    have n0 : (x2 0).1 0 = nI (Hn A 0) := hR.1 0 (by decide)
    refine ⟨x2, ?_, hR, hf⟩
    show st_X5_prune_2 N (nI (Hn A 0)) x2 = _
    unfold st_X5_prune_2
    simp (disch := omega) only [Z_le, n0, if_pos]
