/-! ===== vplant: planting, removing, trimming, the limit ===== -/
theorem plR_0 {R : Nat → Nat → Nat} {a k : Nat} (h : plR R a k = 0) : 0 < a ∧ R 2 k = 0 ∧ R 4 k = 0 := by
  unfold plR at h
  split at h
  · split at h
    · omega
    · split at h
      · omega
      · exact ⟨‹_›, by omega, by omega⟩
  · omega
theorem toR_0 {R : Nat → Nat → Nat} {a d k : Nat} (h : toR R a d k = 0) : 0 < a ∧ 0 < R 2 k := by
  unfold toR at h
  split at h
  · split at h
    · exact ⟨‹_›, ‹_›⟩
    · omega
  · omega
theorem reR_0 {R : Nat → Nat → Nat} {a d k : Nat} (h : reR R a d k = 0) : 0 < a ∧ 0 < R 2 k ∧ R 4 k = 0 := by
  unfold reR at h
  split at h
  · rename_i h0
    have := toR_0 h0
    split at h
    · omega
    · exact ⟨this.1, this.2, by omega⟩
  · rename_i h0
    exact absurd h h0
theorem trR_0 {R : Nat → Nat → Nat} {a d k : Nat} (h : trR R a d k = 0) : 0 < a ∧ 0 < R 2 k := by
  unfold trR at h
  split at h
  · rename_i h0
    exact toR_0 h0
  · rename_i h0
    exact absurd h h0
theorem V_plant {S : SS} {A : AS} {L : List AS} {T N k c : Nat} (h : ST S A L T) (hN : 400 < N) (hk : k < Hn A 0) (hc : 97 ≤ c) (hc2 : c ≤ 122) : if plR (Hr A) (Hn A 7) k = 0 then ∃ S', F_X10_plant N (nI k) (nI c) S = some (.inl (nI (tw A + 1), S')) ∧ ST S' (opPl A k c) (psh L A) T else F_X10_plant N (nI k) (nI c) S = some (.inr (1, S)) := by
  obtain ⟨hC, hI, hJ, _⟩ := id h
  have h40 := hI.2.1.1.2
  have hle := plR_le (R := Hr A) (a := Hn A 7) (k := k)
  have hz : (nI (plR (Hr A) (Hn A 7) k) = 0) = (plR (Hr A) (Hn A 7) k = 0) := by rw [L0, Z_eq (by omega) (by omega)]
  have hmay : (F_X5_mayPlant (nI k) (S 0) = true) = (plR (Hr A) (Hn A 7) k = 0) := by
    unfold F_X5_mayPlant
    rw [C_plR hC.1.1 hI (by omega)]
    by_cases c : plR (Hr A) (Hn A 7) k = 0
    · rw [if_pos (by rw [hz]; exact c)]; simp [c]
    · rw [if_neg (by rw [hz]; exact c)]; simp [c]
  have hl : F_X10_isLetter (nI c) = true := by rw [Z_isL (by omega), isL_t]; exact ⟨hc, hc2⟩
  unfold F_X10_plant
  rw [V_slot hC hI hk, Zox_l, if_pos hl]
  by_cases c0 : plR (Hr A) (Hn A 7) k = 0
  · obtain ⟨h7, h2, h4⟩ := plR_0 c0
    obtain ⟨S4, r1, r2, _, r3⟩ := V_hand h
    have hp := C_plant hC hI (c := c) hk h7
    have hIp := Inv_pl2 hI hk hc hc2 h4
    have hct := C_countTwigs hp.1.1 hIp (N := N) (by omega)
    have e0 : Hn (opPl A k c) 0 = Hn A 0 := act_0 (A := opTw A k c (Hn A 6 % 2) 1)
    have et : cnt (twgB (Hr (opPl A k c))) (Hn A 0) = tw A + 1 := tw_add (R := Hr A) (R' := twR (Hr A) k c (Hn A 6 % 2) 1) (fun j hj => twR_2n hj 2) hk h2 (by rw [show twR (Hr A) k c (Hn A 6 % 2) 1 2 k = 1 from rowS_at]; decide)
    rw [e0, et] at hct
    rw [if_pos c0, if_pos (by rw [hmay]; exact c0), r1, ob1_s, lt_d, lt_d, r2]
    refine ⟨_, ?_, r3 (up S4 0 (F_X5_plantByHand (nI k) (nI c) (S 0))) (opPl A k c) T (Nat.le_refl _) hIp (Jk_pl hI hJ hk h2 h4) (by rw [up_s]; exact hp) (fun j hj _ => up_n hj)⟩
    rw [up_s, hct, ob1_s]
  · rw [if_neg c0, if_neg (by rw [hmay]; exact c0)]
theorem V_remove {S : SS} {A : AS} {L : List AS} {T k : Nat} (h : ST S A L T) (hk : k < Hn A 0) : if reR (Hr A) (Hn A 7) (Hn A 6) k = 0 then ∃ S', F_X10_remove (nI k) S = some (.inl (nI (Hr A 0 k), S')) ∧ ST S' (opRem A k) (psh L A) T else F_X10_remove (nI k) S = some (.inr (1, S)) := by
  obtain ⟨hC, hI, hJ, _⟩ := id h
  have h40 := hI.2.1.1.2
  have hle := reR_le (R := Hr A) (a := Hn A 7) (d := Hn A 6) (k := k)
  have hz : (nI (reR (Hr A) (Hn A 7) (Hn A 6) k) = 0) = (reR (Hr A) (Hn A 7) (Hn A 6) k = 0) := by rw [L0, Z_eq (by omega) (by omega)]
  have hmay : (F_X5_mayRemove (nI k) (S 0) = true) = (reR (Hr A) (Hn A 7) (Hn A 6) k = 0) := by
    unfold F_X5_mayRemove
    rw [C_reR hC.1.1 hI (by omega)]
    by_cases c : reR (Hr A) (Hn A 7) (Hn A 6) k = 0
    · rw [if_pos (by rw [hz]; exact c)]; simp [c]
    · rw [if_neg (by rw [hz]; exact c)]; simp [c]
  unfold F_X10_remove
  rw [V_slot hC hI hk, Zox_l]
  by_cases c0 : reR (Hr A) (Hn A 7) (Hn A 6) k = 0
  · obtain ⟨h7, h2, h4⟩ := reR_0 c0
    obtain ⟨S4, r1, r2, _, r3⟩ := V_hand h
    rw [if_pos c0, if_pos (by rw [hmay]; exact c0), r1, ob1_s, lt_d, lt_d, r2]
    refine ⟨_, ?_, r3 (up S4 0 (F_X5_removeByHand (nI k) (S 0))) (opRem A k) T (Nat.le_refl _) (Inv_rem hI hk) (Jk_rem hI hJ hk h2 h4) (by rw [up_s]; exact C_rem hC hI hk h7) (fun j hj _ => up_n hj)⟩
    rw [RHr_get hC.1.1.2.2 (by decide) (by omega)]
  · rw [if_neg c0, if_neg (by rw [hmay]; exact c0)]
theorem V_trim {S : SS} {A : AS} {L : List AS} {T k c : Nat} (h : ST S A L T) (hk : k < Hn A 0) (hc : 1 ≤ c) (hc2 : c ≤ 99) : if trR (Hr A) (Hn A 7) (Hn A 6) k = 0 then ∃ S', F_X10_trim (nI k) (nI c) S = some (.inl (nI (trmV (Hr A 2 k) c), S')) ∧ ST S' (opTrm A k c) (psh L A) T else F_X10_trim (nI k) (nI c) S = some (.inr (1, S)) := by
  obtain ⟨hC, hI, hJ, _⟩ := id h
  have h40 := hI.2.1.1.2
  have hle := trR_le (R := Hr A) (a := Hn A 7) (d := Hn A 6) (k := k)
  have hz : (nI (trR (Hr A) (Hn A 7) (Hn A 6) k) = 0) = (trR (Hr A) (Hn A 7) (Hn A 6) k = 0) := by rw [L0, Z_eq (by omega) (by omega)]
  have hmay : (F_X5_mayTrim (nI k) (S 0) = true) = (trR (Hr A) (Hn A 7) (Hn A 6) k = 0) := by
    unfold F_X5_mayTrim
    rw [C_trR hC.1.1 hI (by omega)]
    by_cases c : trR (Hr A) (Hn A 7) (Hn A 6) k = 0
    · rw [if_pos (by rw [hz]; exact c)]; simp [c]
    · rw [if_neg (by rw [hz]; exact c)]; simp [c]
  unfold F_X10_trim
  rw [V_slot hC hI hk, Zox_l, if_neg (show ¬ nI c < 1 by rw [L1, Z_lt (by omega) (by decide)]; omega), if_pos (show nI c ≤ 99 by rw [L99, Z_le (by omega) (by decide)]; exact hc2)]
  by_cases c0 : trR (Hr A) (Hn A 7) (Hn A 6) k = 0
  · obtain ⟨h7, h2⟩ := trR_0 c0
    obtain ⟨S4, r1, r2, _, r3⟩ := V_hand h
    have hp := C_trm hC hI hk hc2 h7 (c := c)
    rw [if_pos c0, if_pos (by rw [hmay]; exact c0), r1, ob1_s, lt_d, lt_d, r2]
    refine ⟨_, ?_, r3 (up S4 0 (F_X5_trimByHand (nI k) (nI c) (S 0))) (opTrm A k c) T (Nat.le_refl _) (Inv_trm hI hk h2) (Jk_trm hJ h2) (by rw [up_s]; exact hp) (fun j hj _ => up_n hj)⟩
    rw [up_s, RHr_get hp.1.1.2.2 (by decide) (by omega), show Hr (opTrm A k c) 2 k = trmV (Hr A 2 k) c from rowS_at]
  · rw [if_neg c0, if_neg (by rw [hmay]; exact c0)]
theorem V_limit {S : SS} {A : AS} {L : List AS} {T l : Nat} (h : ST S A L T) (h1 : 1 ≤ l) (h12 : l ≤ 12) : ∃ S', F_X10_setWorkLimit (nI l) S = some (.inl (nI (Hn A 1), S')) ∧ ST S' (limA A l) (psh L A) T := by
  obtain ⟨hC, hI, hJ, _⟩ := id h
  obtain ⟨S4, r1, r2, _, r3⟩ := V_hand h
  unfold F_X10_setWorkLimit
  rw [if_neg (by rw [L1, Z_lt (by omega) (by decide)]; omega), if_pos (by rw [L12, Z_le (by omega) (by decide)]; exact h12), r1, ob1_s, lt_d, r2]
  refine ⟨_, ?_, r3 (up S4 0 (up (S 0) 0 (sS (S 0 0) 1 (nI l)))) (limA A l) T (Nat.le_refl _) (Inv_lim hI h1 h12) (Jk_lim hJ) (by rw [up_s]; exact C_lim hC l) (fun j hj _ => up_n hj)⟩
  rw [show (S 0 0).1 1 = nI (Hn A 1) from hC.1.1.1 1 (by decide)]
