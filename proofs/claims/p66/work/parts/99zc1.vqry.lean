/-! ===== vqry: what the class answers, by its state ===== -/
theorem V_slot {A : AS} {T : Nat} {S : SS} (hC : RC A (S 0)) (hI : Inv A T) {k : Nat} (hk : k < Hn A 0) : F_X10_requireSlot (nI k) S = some (.inl ()) := by
  have h40 := hI.2.1.1.2
  unfold F_X10_requireSlot
  rcases C_hasSlot hC.1.1 hI (nI k) with ⟨e, hx⟩ | ⟨e, _⟩
  · rcases hx with hx | hx
    · exact absurd hx (nI_pos (by omega))
    · rw [Z_le (by omega) (by omega)] at hx
      omega
  · rw [e]; rfl
theorem V_gard {g : Nat} (hg : g < 2) : F_X10_requireGardener (nI g) = some (.inl ()) := by
  rcases (show g = 0 ∨ g = 1 by omega) with rfl | rfl <;> rfl
/-- the letter there, or -1; the owner, or -1 -/
def ltV (A : AS) (k : Nat) : Int32 := if 0 < Hr A 2 k then nI (Hr A 0 k) else -1
def owV (A : AS) (k : Nat) : Int32 := if 0 < Hr A 2 k then nI (Hr A 1 k) else -1
theorem V_slotCount {A : AS} {T : Nat} {S : SS} (hC : RC A (S 0)) (hI : Inv A T) : F_X10_slotCount S = nI (Hn A 0) := hC.1.1.1 0 (by decide)
theorem V_day {A : AS} {T : Nat} {S : SS} (hC : RC A (S 0)) (hI : Inv A T) : F_X10_day S = nI (Hn A 6) := hC.1.1.1 6 (by decide)
theorem V_workLimit {A : AS} {T : Nat} {S : SS} (hC : RC A (S 0)) (hI : Inv A T) : F_X10_workLimit S = nI (Hn A 1) := hC.1.1.1 1 (by decide)
theorem V_actionsLeft {A : AS} {T : Nat} {S : SS} (hC : RC A (S 0)) (hI : Inv A T) : F_X10_actionsLeft S = nI (Hn A 7) := hC.1.1.1 7 (by decide)
theorem V_twigsPlanted {A : AS} {T : Nat} {S : SS} (hC : RC A (S 0)) (hI : Inv A T) : F_X10_twigsPlanted S = Hc A 0 := hC.1.1.2.1 0 (by decide)
theorem V_twigsPruned {A : AS} {T : Nat} {S : SS} (hC : RC A (S 0)) (hI : Inv A T) : F_X10_twigsPruned S = Hc A 1 := hC.1.1.2.1 1 (by decide)
theorem V_twigsRemoved {A : AS} {T : Nat} {S : SS} (hC : RC A (S 0)) (hI : Inv A T) : F_X10_twigsRemoved S = Hc A 2 := hC.1.1.2.1 2 (by decide)
theorem V_active {A : AS} {T : Nat} {S : SS} (hC : RC A (S 0)) (hI : Inv A T) : F_X10_activeGardener S = nI (Hn A 6 % 2) := C_active hC.1.1 hI
theorem V_twigCount {A : AS} {T : Nat} {S : SS} (hC : RC A (S 0)) (hI : Inv A T) {N : Nat} (hN : 400 < N) : F_X10_twigCount N S = some (nI (cnt (twgB (Hr A)) (Hn A 0))) := by
  unfold F_X10_twigCount
  rw [C_countTwigs hC.1.1 hI (by omega), ob1_s]
theorem V_nestCount {A : AS} {T : Nat} {S : SS} (hC : RC A (S 0)) (hI : Inv A T) {N : Nat} (hN : 400 < N) : F_X10_nestCount N S = some (nI (cnt (nstB (Hr A)) (Hn A 0))) := by
  unfold F_X10_nestCount
  rw [C_countNests hC.1.1 hI (by omega), ob1_s]
theorem V_wrong {A : AS} {T : Nat} {S : SS} (hC : RC A (S 0)) (hI : Inv A T) {N : Nat} (hN : 400 < N) : F_X10_wrongLetters N S = some (nI (wrgAll A)) := by
  unfold F_X10_wrongLetters
  rw [C_wrong hC hI (by omega), ob1_s]
theorem V_best {A : AS} {T : Nat} {S : SS} (hC : RC A (S 0)) (hI : Inv A T) {N : Nat} (hN : 400 < N) : F_X10_bestNestSlot N S = some (bstR A) := by
  unfold F_X10_bestNestSlot
  rw [C_best hC.1.1 hI (by omega), ob1_s]
theorem V_toInsp {A : AS} {T : Nat} {S : SS} (hC : RC A (S 0)) (hI : Inv A T) : F_X10_daysUntilInspection S = some (nI (Hn A 4 - Hn A 6 % Hn A 4)) := by
  unfold F_X10_daysUntilInspection
  rw [C_toInsp hC.1.1 hI, ob1_s]
theorem V_twigImb {A : AS} {T : Nat} {S : SS} (hC : RC A (S 0)) (hI : Inv A T) {N : Nat} (hN : 400 < N) : F_X10_twigImbalance N S = some (Hc A 0 - ((Hc A 1 + Hc A 2) + nI (cnt (twgB (Hr A)) (Hn A 0)))) := by
  have c0 : (S 0 0).1 16 = Hc A 0 := hC.1.1.2.1 0 (by decide)
  have c1 : (S 0 0).1 17 = Hc A 1 := hC.1.1.2.1 1 (by decide)
  have c2 : (S 0 0).1 18 = Hc A 2 := hC.1.1.2.1 2 (by decide)
  unfold F_X10_twigImbalance
  rw [C_countTwigs hC.1.1 hI (by omega), ob1_s, c0, c1, c2]
theorem V_qms {A : AS} {T : Nat} {S : SS} (hC : RC A (S 0)) (hI : Inv A T) {g : Nat} (hg : g < 2) : F_X4_queuedMinusSettled (S 0 (1 + g)) = Hc A (10 + g) - ((((Hc A (12 + g)) + (Hc A (16 + g))) + nI (Hq A g).length) + nI (if (Hp A g).2.2 ≠ [] then 1 else 0)) := by
  have hG := hC.1.2 g hg
  have k6 : (S 0 (1 + g)).1 6 = Hc A (10 + g) := hG.1 0 (by decide)
  have k7 : (S 0 (1 + g)).1 7 = Hc A (12 + g) := hG.1 1 (by decide)
  have k9 : (S 0 (1 + g)).1 9 = Hc A (16 + g) := hG.1 3 (by decide)
  have k2 : (S 0 (1 + g)).1 2 = nI (Hq A g).length := hG.2.2.1
  unfold F_X4_queuedMinusSettled
  rw [k6, k7, k9, k2]
  simp only [C_isWriting hG (Inv_pl hI hg).1]
  by_cases c : (Hp A g).2.2 ≠ []
  · rw [if_pos c, if_pos c]; rfl
  · rw [if_neg c, if_neg c]; rfl
theorem V_msgImb {A : AS} {T : Nat} {S : SS} (hC : RC A (S 0)) (hI : Inv A T) : F_X10_messageImbalance S = (Hc A 10 - ((((Hc A 12) + (Hc A 16)) + nI (Hq A 0).length) + nI (if (Hp A 0).2.2 ≠ [] then 1 else 0))) + (Hc A 11 - ((((Hc A 13) + (Hc A 17)) + nI (Hq A 1).length) + nI (if (Hp A 1).2.2 ≠ [] then 1 else 0))) - nI (Hl A).length := by
  unfold F_X10_messageImbalance
  rw [show S 0 1 = S 0 (1 + 0) from rfl, show S 0 2 = S 0 (1 + 1) from rfl, V_qms hC hI (by decide), V_qms hC hI (by decide), hC.2.1]
theorem V_letterAt {A : AS} {T : Nat} {S : SS} (hC : RC A (S 0)) (hI : Inv A T) {k : Nat} (hk : k < Hn A 0) : okI (F_X10_letterAt (nI k) S) = some (ltV A k) := by
  have h40 := hI.2.1.1.2
  unfold F_X10_letterAt
  rw [V_slot hC hI hk, Zox_l, C_row hC.1.1.2.2 hI (by decide) (by omega)]
  simp only [C_hasTwig hC.1.1 hI (show k < 2 ^ 31 by omega), decide_eq_true_eq]
  unfold ltV
  by_cases c : 0 < Hr A 2 k
  · rw [if_pos c, if_pos c]; rfl
  · rw [if_neg c, if_neg c]; rfl
theorem V_ownerAt {A : AS} {T : Nat} {S : SS} (hC : RC A (S 0)) (hI : Inv A T) {k : Nat} (hk : k < Hn A 0) : okI (F_X10_ownerAt (nI k) S) = some (owV A k) := by
  have h40 := hI.2.1.1.2
  unfold F_X10_ownerAt
  rw [V_slot hC hI hk, Zox_l, C_row hC.1.1.2.2 hI (by decide) (by omega)]
  simp only [C_hasTwig hC.1.1 hI (show k < 2 ^ 31 by omega), decide_eq_true_eq]
  unfold owV
  by_cases c : 0 < Hr A 2 k
  · rw [if_pos c, if_pos c]; rfl
  · rw [if_neg c, if_neg c]; rfl
theorem V_lengthAt {A : AS} {T : Nat} {S : SS} (hC : RC A (S 0)) (hI : Inv A T) {k : Nat} (hk : k < Hn A 0) : okI (F_X10_lengthAt (nI k) S) = some (nI (Hr A 2 k)) := by
  have h40 := hI.2.1.1.2
  unfold F_X10_lengthAt
  rw [V_slot hC hI hk, Zox_l, C_row hC.1.1.2.2 hI (by decide) (by omega)]
  rfl
theorem V_nestDays {A : AS} {T : Nat} {S : SS} (hC : RC A (S 0)) (hI : Inv A T) {k : Nat} (hk : k < Hn A 0) : okI (F_X10_nestDays (nI k) S) = some (nI (Hr A 3 k)) := by
  have h40 := hI.2.1.1.2
  unfold F_X10_nestDays
  rw [V_slot hC hI hk, Zox_l, C_row hC.1.1.2.2 hI (by decide) (by omega)]
  rfl
theorem V_isReserved {A : AS} {T : Nat} {S : SS} (hC : RC A (S 0)) (hI : Inv A T) {k : Nat} (hk : k < Hn A 0) : okI (F_X10_isReserved (nI k) S) = some (decide (0 < Hr A 4 k)) := by
  have h40 := hI.2.1.1.2
  have hb := C_isBooked hC.1.1 hI (show k < 2 ^ 31 by omega)
  unfold F_X10_isReserved
  rw [V_slot hC hI hk, Zox_l]
  show some (F_X5_isBooked (nI k) (S 0)) = _
  by_cases c : 0 < Hr A 4 k
  · rw [show F_X5_isBooked (nI k) (S 0) = true by rw [hb]; exact c, decide_eq_true c]
  · rw [show F_X5_isBooked (nI k) (S 0) = false by rw [← Bool.not_eq_true, hb]; exact c, decide_eq_false c]
theorem V_isProtected {A : AS} {T : Nat} {S : SS} (hC : RC A (S 0)) (hI : Inv A T) {k : Nat} (hk : k < Hn A 0) : okI (F_X10_isProtected (nI k) S) = some (decide (grd (Hr A) k)) := by
  have h40 := hI.2.1.1.2
  have hb := C_isGuarded hC.1.1 hI (show k < 2 ^ 30 by omega)
  unfold F_X10_isProtected
  rw [V_slot hC hI hk, Zox_l]
  show some (F_X5_isGuarded (nI k) (S 0)) = _
  by_cases c : grd (Hr A) k
  · rw [show F_X5_isGuarded (nI k) (S 0) = true by rw [hb]; exact c, decide_eq_true c]
  · rw [show F_X5_isGuarded (nI k) (S 0) = false by rw [← Bool.not_eq_true, hb]; exact c, decide_eq_false c]
theorem V_plantReason {A : AS} {T : Nat} {S : SS} (hC : RC A (S 0)) (hI : Inv A T) {k : Nat} (hk : k < Hn A 0) : okI (F_X10_plantReason (nI k) S) = some (nI (plR (Hr A) (Hn A 7) k)) := by
  have h40 := hI.2.1.1.2
  unfold F_X10_plantReason
  rw [V_slot hC hI hk, Zox_l, C_plR hC.1.1 hI (by omega)]
  rfl
theorem V_removeReason {A : AS} {T : Nat} {S : SS} (hC : RC A (S 0)) (hI : Inv A T) {k : Nat} (hk : k < Hn A 0) : okI (F_X10_removeReason (nI k) S) = some (nI (reR (Hr A) (Hn A 7) (Hn A 6) k)) := by
  have h40 := hI.2.1.1.2
  unfold F_X10_removeReason
  rw [V_slot hC hI hk, Zox_l, C_reR hC.1.1 hI (by omega)]
  rfl
theorem V_trimReason {A : AS} {T : Nat} {S : SS} (hC : RC A (S 0)) (hI : Inv A T) {k : Nat} (hk : k < Hn A 0) : okI (F_X10_trimReason (nI k) S) = some (nI (trR (Hr A) (Hn A 7) (Hn A 6) k)) := by
  have h40 := hI.2.1.1.2
  unfold F_X10_trimReason
  rw [V_slot hC hI hk, Zox_l, C_trR hC.1.1 hI (by omega)]
  rfl
theorem V_keepReason {A : AS} {T : Nat} {S : SS} (hC : RC A (S 0)) (hI : Inv A T) {k : Nat} (hk : k < Hn A 0) : okI (F_X10_keepReason (nI k) S) = some (nI (keepR (Hr A) (Hn A 3) k)) := by
  have h40 := hI.2.1.1.2
  unfold F_X10_keepReason
  rw [V_slot hC hI hk, Zox_l, C_keepReason hC.1.1 hI (by omega)]
  rfl
theorem V_pending {A : AS} {T : Nat} {S : SS} (hC : RC A (S 0)) (hI : Inv A T) {g : Nat} (hg : g < 2) : okI (F_X10_pendingCount (nI g) S) = some (nI (Hq A g).length) := by
  unfold F_X10_pendingCount
  rw [V_gard hg, Zox_l, Z_gsel hg, (hC.1.2 g hg).2.2.1]
  rfl
theorem V_written {A : AS} {T : Nat} {S : SS} (hC : RC A (S 0)) (hI : Inv A T) {g : Nat} (hg : g < 2) : okI (F_X10_lettersWritten (nI g) S) = some (nI (Hp A g).1) := by
  unfold F_X10_lettersWritten
  rw [V_gard hg, Zox_l, Z_gsel hg, (hC.1.2 g hg).2.1.2.2]
  rfl
theorem V_start {A : AS} {T : Nat} {S : SS} (hC : RC A (S 0)) (hI : Inv A T) {g : Nat} (hg : g < 2) : okI (F_X10_startSlot (nI g) S) = some (if (Hp A g).2.2 ≠ [] then nI (Hp A g).2.1 else -1) := by
  unfold F_X10_startSlot
  rw [V_gard hg, Zox_l, Z_gsel hg]
  simp only [C_isWriting (hC.1.2 g hg) (Inv_pl hI hg).1]
  by_cases c : (Hp A g).2.2 ≠ []
  · rw [if_pos c, if_pos c, (hC.1.2 g hg).2.1.1]; rfl
  · rw [if_neg c, if_neg c]; rfl
theorem V_posted {A : AS} {T : Nat} {S : SS} (hC : RC A (S 0)) (hI : Inv A T) {g N : Nat} (hg : g < 2) (hN : 400 < N) : okI (F_X10_postedCount N (nI g) S) = some (nI (cnt (pstB A g) (Hl A).length)) := by
  unfold F_X10_postedCount
  rw [V_gard hg, Zox_l, C_countOf hC.2 hI hg (by omega), ob1_s]
  rfl
theorem V_next {A : AS} {T : Nat} {S : SS} (hC : RC A (S 0)) (hI : Inv A T) {g N : Nat} (hg : g < 2) (hN : 400 < N) : okI (F_X10_nextStartSlot N (nI g) S) = some (oI (fStart (Hr A) (Hn A 0) ((Hq A g).getD 0 []).length)) := by
  have q8 := (hI.2.2.2.2.1 g hg).1
  unfold F_X10_nextStartSlot
  rw [V_gard hg, Zox_l, Z_gsel hg, L0, C_lengthOf (hC.1.2 g hg) q8 (by decide), C_findStart hC.1.1 hI (by omega) (by
      by_cases c : 0 < (Hq A g).length
      · have := (Inv_qw hI hg c).2.1; omega
      · rw [gD_no (by omega)]; decide), ob1_s]
  rfl
theorem V_writeReason {A : AS} {T : Nat} {S : SS} (hC : RC A (S 0)) (hI : Inv A T) {g N : Nat} (hg : g < 2) (hN : 400 < N) : okI (F_X10_writeReason N (nI g) S) = some (nI (wrR A g)) := by
  unfold F_X10_writeReason
  rw [V_gard hg, Zox_l, C_wrR hC.1 hI hg (by omega), ob1_s]
  rfl
theorem V_queued {A : AS} {T : Nat} {S : SS} (hC : RC A (S 0)) (hI : Inv A T) {g : Nat} (hg : g < 2) : okI (F_X10_messagesQueued (nI g) S) = some (Hc A (10 + g)) := by
  have kc : (S 0 (1 + g)).1 6 = Hc A (10 + 2 * 0 + g) := (hC.1.2 g hg).1 0 (by decide)
  unfold F_X10_messagesQueued
  rw [V_gard hg, Zox_l, Z_gsel hg, kc]
  rfl
theorem V_delivered {A : AS} {T : Nat} {S : SS} (hC : RC A (S 0)) (hI : Inv A T) {g : Nat} (hg : g < 2) : okI (F_X10_messagesDelivered (nI g) S) = some (Hc A (12 + g)) := by
  have kc : (S 0 (1 + g)).1 7 = Hc A (10 + 2 * 1 + g) := (hC.1.2 g hg).1 1 (by decide)
  unfold F_X10_messagesDelivered
  rw [V_gard hg, Zox_l, Z_gsel hg, kc]
  rfl
theorem V_failed {A : AS} {T : Nat} {S : SS} (hC : RC A (S 0)) (hI : Inv A T) {g : Nat} (hg : g < 2) : okI (F_X10_messagesFailed (nI g) S) = some (Hc A (14 + g)) := by
  have kc : (S 0 (1 + g)).1 8 = Hc A (10 + 2 * 2 + g) := (hC.1.2 g hg).1 2 (by decide)
  unfold F_X10_messagesFailed
  rw [V_gard hg, Zox_l, Z_gsel hg, kc]
  rfl
theorem V_dropped {A : AS} {T : Nat} {S : SS} (hC : RC A (S 0)) (hI : Inv A T) {g : Nat} (hg : g < 2) : okI (F_X10_messagesDropped (nI g) S) = some (Hc A (16 + g)) := by
  have kc : (S 0 (1 + g)).1 9 = Hc A (10 + 2 * 3 + g) := (hC.1.2 g hg).1 3 (by decide)
  unfold F_X10_messagesDropped
  rw [V_gard hg, Zox_l, Z_gsel hg, kc]
  rfl
/-- the i-th letter of the m-th pending word, or -1 -/
theorem V_letter {A : AS} {T : Nat} {S : SS} (hC : RC A (S 0)) (hI : Inv A T) {g m i : Nat} (hg : g < 2) (hm : m < 2 ^ 20) (hi : i < 2 ^ 20) : okI (F_X10_pendingLetter (nI g) (nI m) (nI i) S) = some (if m < (Hq A g).length ∧ i < ((Hq A g).getD m []).length then nI (((Hq A g).getD m []).getD i 0) else -1) := by
  have q8 := (hI.2.2.2.2.1 g hg).1
  obtain ⟨c1, c2, c3⟩ := C_letterOf (hC.1.2 g hg) q8 (fun k hk => (Inv_qw hI hg hk).2.1)
  unfold F_X10_pendingLetter
  rw [V_gard hg, Zox_l, Z_gsel hg]
  by_cases h1 : m < (Hq A g).length
  · have hl := (Inv_qw hI hg h1).2.1
    by_cases h2 : i < ((Hq A g).getD m []).length
    · rw [if_pos ⟨h1, h2⟩, c3 m i h1 h2]; rfl
    · rw [if_neg (fun q => h2 q.2), c2 m _ h1 (Or.inr (by rw [Z_le (by omega) (by omega)]; omega))]; rfl
  · rw [if_neg (fun q => h1 q.1), c1 _ _ (Or.inr (by rw [Z_le (by omega) (by omega)]; omega))]; rfl
theorem V_mean {A : AS} {T : Nat} {S : SS} (hC : RC A (S 0)) (hI : Inv A T) {N : Nat} (hN : 400 < N) : F_X10_meanLength N S = some (if cnt (twgB (Hr A)) (Hn A 0) = 0 then FP.fconst0 else FP.fdiv (FP.i2f (nI (sumF (Hr A 2) (Hn A 0)))) (FP.i2f (nI (cnt (twgB (Hr A)) (Hn A 0))))) ∧ (cnt (twgB (Hr A)) (Hn A 0) ≠ 0 → n32 (FP.fdiv (FP.i2f (nI (sumF (Hr A 2) (Hn A 0)))) (FP.i2f (nI (cnt (twgB (Hr A)) (Hn A 0))))) = true) := by
  have h40 := hI.2.1.1.2
  have hcl := cnt_le (twgB (Hr A)) (Hn A 0)
  have hc := C_countTwigs (N := N) hC.1.1 hI (by omega)
  have hs := C_sum (N := N) hC.1.1 hI (by omega)
  by_cases c : cnt (twgB (Hr A)) (Hn A 0) = 0
  · refine ⟨?_, fun h => absurd c h⟩
    unfold F_X10_meanLength
    rw [hc, ob1_s, if_pos c, c, if_pos (show nI 0 ≤ 0 by decide)]
  · have hb : nI (cnt (twgB (Hr A)) (Hn A 0)) ≠ 0 := by
      show ¬ nI (cnt (twgB (Hr A)) (Hn A 0)) = nI 0
      rw [Z_eq (by omega) (by omega)]
      exact c
    have hn := fl_d32 (nI (sumF (Hr A 2) (Hn A 0))) hb
    have hn2 := n32_i (fl_n32 hn)
    refine ⟨?_, fun _ => hn2⟩
    unfold F_X10_meanLength
    rw [hc, ob1_s, if_neg (show ¬ nI (cnt (twgB (Hr A)) (Hn A 0)) ≤ 0 by rw [L0, Z_le (by omega) (by omega)]; omega), hs, ob1_s, if_pos hn2, if_neg c]
theorem V_occ {A : AS} {T : Nat} {S : SS} (hC : RC A (S 0)) (hI : Inv A T) {N : Nat} (hN : 400 < N) : F_X10_occupancy N S = some (FP.ddiv (FP.i2d (nI (cnt (twgB (Hr A)) (Hn A 0)))) (FP.i2d (nI (Hn A 0)))) ∧ n64 (FP.ddiv (FP.i2d (nI (cnt (twgB (Hr A)) (Hn A 0)))) (FP.i2d (nI (Hn A 0)))) = true ∧ Op.cmpValue (FP.dcmp (FP.ddiv (FP.i2d (nI (cnt (twgB (Hr A)) (Hn A 0)))) (FP.i2d (nI (Hn A 0)))) (FP.ddiv (FP.i2d (nI (cnt (twgB (Hr A)) (Hn A 0)))) (FP.i2d (nI (Hn A 0))))) .l = 0 := by
  obtain ⟨h4, h40⟩ := hI.2.1.1
  have hc := C_countTwigs (N := N) hC.1.1 hI (by omega)
  have e0 : (S 0 0).1 0 = nI (Hn A 0) := hC.1.1.1 0 (by decide)
  have hb : nI (Hn A 0) ≠ 0 := by
    show ¬ nI (Hn A 0) = nI 0
    rw [Z_eq (by omega) (by omega)]
    omega
  have hn := fl_d64 (nI (cnt (twgB (Hr A)) (Hn A 0))) hb
  have hn2 := n64_i (fl_n64 hn)
  refine ⟨?_, hn2, fl_c hn⟩
  unfold F_X10_occupancy
  rw [e0, if_neg (show ¬ nI (Hn A 0) ≤ 0 by rw [L0, Z_le (by omega) (by omega)]; omega), hc, ob1_s, if_pos hn2]
