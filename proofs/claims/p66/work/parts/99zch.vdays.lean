/-! ===== vdays: days go by; what is asked of the days to come ===== -/
theorem V_days {n a : Nat} (ha : a ≤ n) (hn : n ≤ 60) : F_X10_requireDays (nI n) (nI a) = some (.inl ()) := by
  unfold F_X10_requireDays
  rw [L60, if_neg (by rw [Z_lt (by omega) (by omega)]; omega), if_pos (by rw [Z_le (by omega) (by omega)]; omega)]
theorem V_kd {B : AS} {x : Nat → HV} (hx : RC B x) : ((x 1).1 7 + (x 2).1 7) = Hc B 12 + Hc B 13 := by
  have k0 : (x (1 + 0)).1 7 = Hc B 12 := (hx.1.2 0 (by decide)).1 1 (by decide)
  have k1 : (x (1 + 1)).1 7 = Hc B 13 := (hx.1.2 1 (by decide)).1 1 (by decide)
  rw [show x 1 = x (1 + 0) from rfl, show x 2 = x (1 + 1) from rfl, k0, k1]
theorem V_end {S : SS} {A : AS} {L : List AS} {T N n : Nat} (h : ST S A L T) (hN : 400 < N) (h1 : 1 ≤ n) (hn : n ≤ 60) (hT : T + n < 2 ^ 20) : ∃ S', F_X10_endDays N (nI n) S = some (.inl ((Hc (days n A) 12 + Hc (days n A) 13) - (Hc A 12 + Hc A 13), S')) ∧ ST S' (days n A) (psh L A) (T + n) ∧ S' 2 = S 2 ∧ S' 11 6 = S 11 6 := by
  obtain ⟨hC, hI, hJ, hH, hL3, ht⟩ := id h
  unfold F_X10_endDays
  obtain ⟨S4, r1, r2, g4, r3⟩ := V_hand h
  obtain ⟨S4', r1', _, f4, _⟩ := C_remember hC hI hH
  rw [r1] at r1'
  cases r1'
  have hC4 : RC A (S4 0) := by rw [r2]; exact hC
  rw [L1, V_days h1 hn, Zox_l, r1, ob1_s, V_kd hC4]
  obtain ⟨S', l1, l2, l3⟩ := C_goBy hC4 hI hn hT hN ((Int32 × SS) ⊕ (Nat × SS)) (fun z => st_X10_endDays_40 N (nI n) (Hc A 12 + Hc A 13) z.1 z.2) (fun i x h' hi e => by
      show st_X10_endDays_40 N (nI n) (Hc A 12 + Hc A 13) (nI i) x = _
      unfold st_X10_endDays_40
      rw [if_neg (by rw [Z_le (by omega) (by omega)]; omega), e, ob1_s, lt_d, L1, Z_add]) (fun x => .inl ((((x 0 1).1 7 + (x 0 2).1 7) - (Hc A 12 + Hc A 13)), x)) (fun x => by
      show st_X10_endDays_40 N (nI n) (Hc A 12 + Hc A 13) (nI n) x = _
      unfold st_X10_endDays_40
      rw [if_pos (by rw [Z_le (by omega) (by omega)]; omega)])
  refine ⟨S', ?_, r3 S' (days n A) (T + n) (by omega) (Inv_days hI n hT) (Jk_days hI hJ n hT) l2 (fun j hj _ => l3 j hj), ?_, ?_⟩
  · rw [l1, V_kd l2]
  · rw [l3 2 (by decide), f4 2 (by decide)]
  · rw [l3 11 (by decide), g4 6 (by decide)]
theorem V_delAfter {A : AS} {T : Nat} {S : SS} (hC : RC A (S 0)) (hI : Inv A T) {N g n : Nat} (hN : 400 < N) (hg : g < 2) (hn : n ≤ 60) (hT : T + n < 2 ^ 20) : ∃ S', okI (F_X10_deliveredAfter N (nI g) (nI n) S) = some (Hc (days n A) (12 + g) - Hc A (12 + g), S') ∧ ∀ j, j ≠ 1 → S' j = S j := by
  unfold F_X10_deliveredAfter
  obtain ⟨S', f1, r1, o1⟩ := C_foresee hC hI hn hT hN
  have k1 : (S' 1 (1 + g)).1 7 = Hc (days n A) (10 + 2 * 1 + g) := (r1.1.2 g hg).1 1 (by decide)
  have k2 : (S' 0 (1 + g)).1 7 = Hc A (10 + 2 * 1 + g) := by rw [o1 0 (by decide)]; exact (hC.1.2 g hg).1 1 (by decide)
  rw [V_gard hg, Zox_l, L0, V_days (Nat.zero_le _) hn, Zox_l, Z_gsel hg, f1, ob1_s, k1, k2]
  exact ⟨S', rfl, o1⟩
theorem V_penAfter {A : AS} {T : Nat} {S : SS} (hC : RC A (S 0)) (hI : Inv A T) {N g n : Nat} (hN : 400 < N) (hg : g < 2) (hn : n ≤ 60) (hT : T + n < 2 ^ 20) : ∃ S', okI (F_X10_pendingAfter N (nI g) (nI n) S) = some (nI (Hq (days n A) g).length, S') ∧ ∀ j, j ≠ 1 → S' j = S j := by
  unfold F_X10_pendingAfter
  obtain ⟨S', f1, r1, o1⟩ := C_foresee hC hI hn hT hN
  have k1 : (S' 1 (1 + g)).1 2 = nI (Hq (days n A) g).length := (r1.1.2 g hg).2.2.1
  rw [V_gard hg, Zox_l, L0, V_days (Nat.zero_le _) hn, Zox_l, Z_gsel hg, f1, ob1_s, k1]
  exact ⟨S', rfl, o1⟩
/-- the first day without a twig there -/
noncomputable def prd (A : AS) (k : Nat) : Int32 := oI (fstF (fun n => decide (¬ 0 < Hr (days n A) 2 k)) 61 0)
theorem V_until {A : AS} {T : Nat} {S : SS} (hC : RC A (S 0)) (hI : Inv A T) {N k : Nat} (hN : 400 < N) (hk : k < Hn A 0) (hT : T + 61 < 2 ^ 20) : ∃ S', okI (F_X10_daysUntilPruned N (nI k) S) = some (prd A k, S') ∧ ∀ j, j ≠ 1 → S' j = S j := by
  have bI := hI
  have h40 := hI.2.1.1.2
  unfold F_X10_daysUntilPruned
  rw [V_slot hC hI hk, Zox_l, lt_d]
  obtain ⟨c1, c2⟩ := C_copy (j := 1) (j2 := 0) (by decide) hC hI
  generalize F_X5_copyFrom 1 0 S = S1 at c1 c2
  have key := lpN_upx (f := fun z => st_X10_daysUntilPruned_18 N (nI k) z.1 z.2) (fun i (x : Int32 × SS) => x.1 = nI i ∧ RC (days i A) (x.2 1) ∧ (∀ j, j ≠ 1 → x.2 j = S j) ∧ ∀ m, m < i → 0 < Hr (days m A) 2 k) (fun r => ∃ S', r = .inl (prd A k, S') ∧ ∀ j, j ≠ 1 → S' j = S j) (n := 61) (N := N) (x0 := (0, S1)) (by omega) ⟨rfl, c1, c2, fun m hm => absurd hm (Nat.not_lt_zero m)⟩ (fun i x hi hP => ?_) (fun x hP => ?_)
  · obtain ⟨r, er, S', rfl, o1⟩ := key
    rw [er]
    exact ⟨S', rfl, o1⟩
  · obtain ⟨x1, x2⟩ := x
    obtain ⟨q1, r1, f1, hlt⟩ := hP
    dsimp only at q1 r1 f1
    cases q1
    have i1 := Inv_days bI i (by omega)
    have htw := C_hasTwig r1.1.1 i1 (k := k) (by omega)
    by_cases c : 0 < Hr (days i A) 2 k
    · obtain ⟨h2, e2', r2, i2⟩ := C_day r1 i1 (by omega) (N := N) (by omega)
      refine Or.inl ⟨(nI (i + 1), up x2 1 h2), ?_, rfl, ?_, fun j hj => ?_, fun m hm => ?_⟩
      · show st_X10_daysUntilPruned_18 N (nI k) (nI i) x2 = _
        unfold st_X10_daysUntilPruned_18
        rw [if_neg (by rw [L60, Z_lt (by omega) (by omega)]; omega), if_pos (by rw [htw]; exact c), e2', ob1_s, lt_d, L1, Z_add]
      · show RC _ (up x2 1 h2 1)
        rw [up_s]
        exact r2
      · show up x2 1 h2 j = _
        rw [up_n hj]
        exact f1 j hj
      · by_cases e : m = i
        · rw [e]; exact c
        · exact hlt m (by omega)
    · have hf : fstF (fun n => decide (¬ 0 < Hr (days n A) 2 k)) 61 0 = some i := fstF_is (by omega) (by omega) (by simpa using c) (fun j _ hj => by have := hlt j hj; exact decide_eq_false (fun q => q this))
      refine Or.inr ⟨.inl (nI i, x2), ?_, x2, by unfold prd; rw [hf]; rfl, f1⟩
      show st_X10_daysUntilPruned_18 N (nI k) (nI i) x2 = _
      unfold st_X10_daysUntilPruned_18
      rw [if_neg (by rw [L60, Z_lt (by omega) (by omega)]; omega), if_neg (by rw [htw]; exact c)]
  · obtain ⟨x1, x2⟩ := x
    obtain ⟨q1, r1, f1, hlt⟩ := hP
    dsimp only at q1 r1 f1
    cases q1
    have hf : fstF (fun n => decide (¬ 0 < Hr (days n A) 2 k)) 61 0 = none := fstF_no (fun j _ hj => by have := hlt j (by omega); exact decide_eq_false (fun q => q this))
    refine ⟨.inl (-1, x2), ?_, x2, by unfold prd; rw [hf]; rfl, f1⟩
    show st_X10_daysUntilPruned_18 N (nI k) (nI 61) x2 = _
    unfold st_X10_daysUntilPruned_18
    rw [if_pos (by decide)]
theorem V_least {A : AS} {T : Nat} {S : SS} (hC : RC A (S 0)) (hI : Inv A T) {N g n : Nat} (hN : 400 < N) (hg : g < 2) (h1 : 1 ≤ n) (hn : n ≤ 60) (hT : T + n < 2 ^ 20) : ∃ S', okI (F_X10_leastWorkLimit N (nI g) (nI n) S) = some (lwR A g n, S') ∧ ∀ j, j ≠ 1 → S' j = S j := by
  unfold F_X10_leastWorkLimit
  rw [V_gard hg, Zox_l, L1, V_days h1 hn, Zox_l]
  have key := lpN_upx (f := fun z => st_X10_leastWorkLimit_11 N (nI g) (nI n) z.1 z.2) (fun i (x : Int32 × SS) => x.1 = nI (1 + i) ∧ (∀ j, j ≠ 1 → x.2 j = S j) ∧ ∀ m, 1 ≤ m → m < 1 + i → sufB A g n m = false) (fun r => ∃ S', r = .inl (lwR A g n, S') ∧ ∀ j, j ≠ 1 → S' j = S j) (n := 12) (N := N) (x0 := (nI 1, S)) (by omega) ⟨rfl, fun _ _ => rfl, fun m h1 h2 => absurd h2 (by omega)⟩ (fun i x hi hP => ?_) (fun x hP => ?_)
  · obtain ⟨r, er, S', rfl, o1⟩ := key
    rw [er]
    exact ⟨S', rfl, o1⟩
  · obtain ⟨x1, x2⟩ := x
    obtain ⟨q1, f1, hlt⟩ := hP
    dsimp only at q1 f1
    cases q1
    have hC2 : RC A (x2 0) := by rw [f1 0 (by decide)]; exact hC
    obtain ⟨S', e, o⟩ := C_suf hC2 hI (l := 1 + i) hg hn (by omega) (by omega) hT hN
    have hst : st_X10_leastWorkLimit_11 N (nI g) (nI n) (nI (1 + i)) x2 = if sufB A g n (1 + i) = true then some (.inr (.inl (nI (1 + i), S'))) else some (.inl (nI (1 + (i + 1)), S')) := by
      unfold st_X10_leastWorkLimit_11
      rw [if_neg (by rw [L12, Z_lt (by omega) (by omega)]; omega), e, ob_s, L1, Z_add]
      rfl
    cases c : sufB A g n (1 + i) with
    | true =>
      have hf : fstF (sufB A g n) 12 1 = some (1 + i) := fstF_is (by omega) (by omega) c hlt
      refine Or.inr ⟨_, (show st_X10_leastWorkLimit_11 N (nI g) (nI n) (nI (1 + i)) x2 = _ from by rw [hst, if_pos c]), S', ?_, fun j hj => (o j hj).trans (f1 j hj)⟩
      unfold lwR
      rw [hf]
      rfl
    | false =>
      refine Or.inl ⟨_, (show st_X10_leastWorkLimit_11 N (nI g) (nI n) (nI (1 + i)) x2 = _ from by rw [hst, if_neg (by rw [c]; exact Bool.false_ne_true)]), rfl, fun j hj => (o j hj).trans (f1 j hj), fun m h1 h2 => ?_⟩
      by_cases e : m = 1 + i
      · rw [e]; exact c
      · exact hlt m h1 (by omega)
  · obtain ⟨x1, x2⟩ := x
    obtain ⟨q1, f1, hlt⟩ := hP
    dsimp only at q1 f1
    cases q1
    have hf : fstF (sufB A g n) 12 1 = none := fstF_no (fun j h1 h2 => hlt j h1 (by omega))
    refine ⟨.inl (-1, x2), ?_, x2, ?_, f1⟩
    · show st_X10_leastWorkLimit_11 N (nI g) (nI n) (nI (1 + 12)) x2 = _
      unfold st_X10_leastWorkLimit_11
      rw [if_pos (by decide)]
    · unfold lwR
      rw [hf]
      rfl
