/-! ===== the law: each call, then the loop ===== -/
abbrev LO (w : WP) (b : Nat) (i : Int32) : List (Nat × Value) := [(4, .int i), (0, .ref b), (1, .ref (wAd w (7, 11, 6, 0))), (2, .ref (wAd w (11, 12, 0, 0))), (3, .ref (wAd w (14, 13, 0, 0)))]
def gLB (w : WP) (X : CX) (b L : Nat) (xs : Nat → Int32) : Prop := gW w ∧ gWM w ∧ gS w ∧ gZ w ∧ wFr w (14, 13, 0, 0) ∧ gC w X cL_law "HedgeMessagesLaw" (some .boolean) 15 9 ∧ gSc X b L xs
/-- what is owed behind the call -/
def KT (w : WP) (X : CX) (b : Nat) (Q1 : State → Prop) (i : Int32) (T c n : Nat) : Prop := ∀ (S' : SS) (τ' : HV) (o' : Nat → Int64) (c' n' : Nat), LR S' τ' (T + 1800) → c' ≤ c + 1 → n' ≤ n + 6 → gU w X (Q1, c', n') (cA w (S', τ', o')) 3008 (LO w b i) []
def gIn (i : Int32) (L : Nat) : Prop := vp_in (i + 1) L ∧ vp_in (i + 2) L ∧ vp_in (i + 3) L ∧ vp_in (i + 4) L ∧ vp_in (i + 5) L
theorem qOk_l {X : CX} {Q1 : State → Prop} {c n : Nat} (h : qOk X (Q1, c + 1, n + 6)) : qOk X (Q1, c, n) := by
  obtain ⟨p, e, R, s, m, args, below, meth, c9, nn, A⟩ := X
  exact ⟨Nat.le_trans (Nat.le_succ _) h.1, Nat.le_trans (Nat.le_add_right _ _) h.2⟩
theorem LR_l {S : SS} {τ : HV} {T : Nat} (h : LR S τ T) (v : Int32) (hT : T + 1800 < 2 ^ 20) : LR S (sS τ 6 v) (T + 1800) := LR_up (LR_6 h v (by omega)) (by omega) hT
theorem ca_0 {w : WP} {X : CX} {b L : Nat} {xs : Nat → Int32} (H : gLB w X b L xs) {S : SS} {τ : HV} {o : Nat → Int64} {i : Int32} {Q1 : State → Prop} {c n T N : Nat} (hL : LR S τ T) (hT : T + 1800 < 2 ^ 20) (hN : 6000 < N) (hp : gIn i L) (hq : qOk X (Q1, c + 1, n + 6)) (kk : KT w X b Q1 i T c n) : gU w X (Q1, c, n) (cA w (S, τ, o)) 308 (LO w b i) [] := by
  obtain ⟨hW, hM, hS, hZ, hO, C, hX⟩ := H
  have hq0 := qOk_l hq
  rcases E0 (N := N) hL (by omega) (by omega) (xs (i + 1).toNatClampNeg) (xs (i + 2).toNatClampNeg) (xs (i + 3).toNatClampNeg) (xs (i + 4).toNatClampNeg) (xs (i + 5).toNatClampNeg) with ⟨v, S', τ', hF, hG, ht, hR⟩ | ⟨q, S', b9, τ', hq9, hF, hG, ht, hR⟩
  · exact la0N hW hM hS hZ hO C hX ⟨hp.1, rfl⟩ ⟨hp.2.1, rfl⟩ ⟨hp.2.2.1, rfl⟩ ⟨hp.2.2.2.1, rfl⟩ ⟨hp.2.2.2.2, rfl⟩ N hF hG ht hq0 (kk _ _ _ _ _ (LR_up hR (by omega) hT) (Nat.le_succ _) (Nat.le_add_right _ _))
  · rcases List.mem_cons.mp hq9 with rfl | hq9
    · exact la0X1 hW hM hS hZ hO C hX ⟨hp.1, rfl⟩ ⟨hp.2.1, rfl⟩ ⟨hp.2.2.1, rfl⟩ ⟨hp.2.2.2.1, rfl⟩ ⟨hp.2.2.2.2, rfl⟩ N hF hG ht hq (kk _ _ _ _ _ (LR_up hR (by omega) hT) (Nat.le_refl _) (Nat.le_refl _))
    · exact absurd hq9 List.not_mem_nil
theorem ca_1 {w : WP} {X : CX} {b L : Nat} {xs : Nat → Int32} (H : gLB w X b L xs) {S : SS} {τ : HV} {o : Nat → Int64} {i : Int32} {Q1 : State → Prop} {c n T N : Nat} (hL : LR S τ T) (hT : T + 1800 < 2 ^ 20) (hN : 6000 < N) (hp : gIn i L) (hq : qOk X (Q1, c + 1, n + 6)) (kk : KT w X b Q1 i T c n) : gU w X (Q1, c, n) (cA w (S, τ, o)) 412 (LO w b i) [] := by
  obtain ⟨hW, hM, hS, hZ, hO, C, hX⟩ := H
  have hq0 := qOk_l hq
  rcases E1 hL (by omega) (xs (i + 1).toNatClampNeg) with ⟨v, S', τ', hF, hG, ht, hR⟩ | ⟨q, S', b9, τ', hq9, hF, hG, ht, hR⟩
  · exact la1N hW hM hS hZ hO C hX ⟨hp.1, rfl⟩ hF hG ht hq0 (kk _ _ _ _ _ (LR_up hR (by omega) hT) (Nat.le_succ _) (Nat.le_add_right _ _))
  · rcases List.mem_cons.mp hq9 with rfl | hq9
    · exact la1X2 hW hM hS hZ hO C hX ⟨hp.1, rfl⟩ hF hG ht hq (kk _ _ _ _ _ (LR_up hR (by omega) hT) (Nat.le_refl _) (Nat.le_refl _))
    · exact absurd hq9 List.not_mem_nil
theorem ca_2 {w : WP} {X : CX} {b L : Nat} {xs : Nat → Int32} (H : gLB w X b L xs) {S : SS} {τ : HV} {o : Nat → Int64} {i : Int32} {Q1 : State → Prop} {c n T N : Nat} (hL : LR S τ T) (hT : T + 1800 < 2 ^ 20) (hN : 6000 < N) (hp : gIn i L) (hq : qOk X (Q1, c + 1, n + 6)) (kk : KT w X b Q1 i T c n) : gU w X (Q1, c, n) (cA w (S, τ, o)) 468 (LO w b i) [] := by
  obtain ⟨hW, hM, hS, hZ, hO, C, hX⟩ := H
  have hq0 := qOk_l hq
  rcases E2 (N := N) hL (by omega) (by omega) with ⟨v, S', τ', hF, hG, ht, hR⟩ | ⟨q, S', b9, τ', hq9, hF, hG, ht, hR⟩
  · exact la2N hW hM hS hZ hO C hX N hF hG ht hq0 (kk _ _ _ _ _ (LR_up hR (by omega) hT) (Nat.le_succ _) (Nat.le_add_right _ _))
  · rcases List.mem_cons.mp hq9 with rfl | hq9
    · exact la2X2 hW hM hS hZ hO C hX N hF hG ht hq (kk _ _ _ _ _ (LR_up hR (by omega) hT) (Nat.le_refl _) (Nat.le_refl _))
    · exact absurd hq9 List.not_mem_nil
theorem ca_3 {w : WP} {X : CX} {b L : Nat} {xs : Nat → Int32} (H : gLB w X b L xs) {S : SS} {τ : HV} {o : Nat → Int64} {i : Int32} {Q1 : State → Prop} {c n T N : Nat} (hL : LR S τ T) (hT : T + 1800 < 2 ^ 20) (hN : 6000 < N) (hp : gIn i L) (hq : qOk X (Q1, c + 1, n + 6)) (kk : KT w X b Q1 i T c n) : gU w X (Q1, c, n) (cA w (S, τ, o)) 512 (LO w b i) [] := by
  obtain ⟨hW, hM, hS, hZ, hO, C, hX⟩ := H
  have hq0 := qOk_l hq
  rcases E3 (N := N) hL (by omega) (by omega) with ⟨v, S', τ', hF, hG, ht, hR⟩ | ⟨q, S', b9, τ', hq9, hF, hG, ht, hR⟩
  · exact la3N hW hM hS hZ hO C hX N hF hG ht hq0 (kk _ _ _ _ _ (LR_up hR (by omega) hT) (Nat.le_succ _) (Nat.le_add_right _ _))
  · rcases List.mem_cons.mp hq9 with rfl | hq9
    · exact la3X2 hW hM hS hZ hO C hX N hF hG ht hq (kk _ _ _ _ _ (LR_up hR (by omega) hT) (Nat.le_refl _) (Nat.le_refl _))
    · exact absurd hq9 List.not_mem_nil
theorem ca_4 {w : WP} {X : CX} {b L : Nat} {xs : Nat → Int32} (H : gLB w X b L xs) {S : SS} {τ : HV} {o : Nat → Int64} {i : Int32} {Q1 : State → Prop} {c n T N : Nat} (hL : LR S τ T) (hT : T + 1800 < 2 ^ 20) (hN : 6000 < N) (hp : gIn i L) (hq : qOk X (Q1, c + 1, n + 6)) (kk : KT w X b Q1 i T c n) : gU w X (Q1, c, n) (cA w (S, τ, o)) 556 (LO w b i) [] := by
  obtain ⟨hW, hM, hS, hZ, hO, C, hX⟩ := H
  have hq0 := qOk_l hq
  obtain ⟨v, hF, hG⟩ := E4 hL
  exact la4N hW hM hS hZ hO C hX hF hG hq0 (kk _ _ _ _ _ (LR_l hL 0 hT) (Nat.le_succ _) (Nat.le_add_right _ _))
theorem ca_5 {w : WP} {X : CX} {b L : Nat} {xs : Nat → Int32} (H : gLB w X b L xs) {S : SS} {τ : HV} {o : Nat → Int64} {i : Int32} {Q1 : State → Prop} {c n T N : Nat} (hL : LR S τ T) (hT : T + 1800 < 2 ^ 20) (hN : 6000 < N) (hp : gIn i L) (hq : qOk X (Q1, c + 1, n + 6)) (kk : KT w X b Q1 i T c n) : gU w X (Q1, c, n) (cA w (S, τ, o)) 569 (LO w b i) [] := by
  obtain ⟨hW, hM, hS, hZ, hO, C, hX⟩ := H
  have hq0 := qOk_l hq
  obtain ⟨v, hF, hG⟩ := E5 hL
  exact la5N hW hM hS hZ hO C hX hF hG hq0 (kk _ _ _ _ _ (LR_l hL 0 hT) (Nat.le_succ _) (Nat.le_add_right _ _))
theorem ca_6 {w : WP} {X : CX} {b L : Nat} {xs : Nat → Int32} (H : gLB w X b L xs) {S : SS} {τ : HV} {o : Nat → Int64} {i : Int32} {Q1 : State → Prop} {c n T N : Nat} (hL : LR S τ T) (hT : T + 1800 < 2 ^ 20) (hN : 6000 < N) (hp : gIn i L) (hq : qOk X (Q1, c + 1, n + 6)) (kk : KT w X b Q1 i T c n) : gU w X (Q1, c, n) (cA w (S, τ, o)) 582 (LO w b i) [] := by
  obtain ⟨hW, hM, hS, hZ, hO, C, hX⟩ := H
  have hq0 := qOk_l hq
  obtain ⟨v, hF, hG⟩ := E6 hL
  exact la6N hW hM hS hZ hO C hX hF hG hq0 (kk _ _ _ _ _ (LR_l hL 0 hT) (Nat.le_succ _) (Nat.le_add_right _ _))
theorem ca_7 {w : WP} {X : CX} {b L : Nat} {xs : Nat → Int32} (H : gLB w X b L xs) {S : SS} {τ : HV} {o : Nat → Int64} {i : Int32} {Q1 : State → Prop} {c n T N : Nat} (hL : LR S τ T) (hT : T + 1800 < 2 ^ 20) (hN : 6000 < N) (hp : gIn i L) (hq : qOk X (Q1, c + 1, n + 6)) (kk : KT w X b Q1 i T c n) : gU w X (Q1, c, n) (cA w (S, τ, o)) 595 (LO w b i) [] := by
  obtain ⟨hW, hM, hS, hZ, hO, C, hX⟩ := H
  have hq0 := qOk_l hq
  obtain ⟨v, hF, hG⟩ := E7 hL
  exact la7N hW hM hS hZ hO C hX hF hG hq0 (kk _ _ _ _ _ (LR_l hL 0 hT) (Nat.le_succ _) (Nat.le_add_right _ _))
theorem ca_8 {w : WP} {X : CX} {b L : Nat} {xs : Nat → Int32} (H : gLB w X b L xs) {S : SS} {τ : HV} {o : Nat → Int64} {i : Int32} {Q1 : State → Prop} {c n T N : Nat} (hL : LR S τ T) (hT : T + 1800 < 2 ^ 20) (hN : 6000 < N) (hp : gIn i L) (hq : qOk X (Q1, c + 1, n + 6)) (kk : KT w X b Q1 i T c n) : gU w X (Q1, c, n) (cA w (S, τ, o)) 608 (LO w b i) [] := by
  obtain ⟨hW, hM, hS, hZ, hO, C, hX⟩ := H
  have hq0 := qOk_l hq
  obtain ⟨v, hF, hG⟩ := E8 hL
  exact la8N hW hM hS hZ hO C hX hF hG hq0 (kk _ _ _ _ _ (LR_l hL 0 hT) (Nat.le_succ _) (Nat.le_add_right _ _))
theorem ca_9 {w : WP} {X : CX} {b L : Nat} {xs : Nat → Int32} (H : gLB w X b L xs) {S : SS} {τ : HV} {o : Nat → Int64} {i : Int32} {Q1 : State → Prop} {c n T N : Nat} (hL : LR S τ T) (hT : T + 1800 < 2 ^ 20) (hN : 6000 < N) (hp : gIn i L) (hq : qOk X (Q1, c + 1, n + 6)) (kk : KT w X b Q1 i T c n) : gU w X (Q1, c, n) (cA w (S, τ, o)) 621 (LO w b i) [] := by
  obtain ⟨hW, hM, hS, hZ, hO, C, hX⟩ := H
  have hq0 := qOk_l hq
  obtain ⟨v, hF, hG⟩ := E9 hL
  exact la9N hW hM hS hZ hO C hX hF hG hq0 (kk _ _ _ _ _ (LR_l hL 0 hT) (Nat.le_succ _) (Nat.le_add_right _ _))
theorem ca_10 {w : WP} {X : CX} {b L : Nat} {xs : Nat → Int32} (H : gLB w X b L xs) {S : SS} {τ : HV} {o : Nat → Int64} {i : Int32} {Q1 : State → Prop} {c n T N : Nat} (hL : LR S τ T) (hT : T + 1800 < 2 ^ 20) (hN : 6000 < N) (hp : gIn i L) (hq : qOk X (Q1, c + 1, n + 6)) (kk : KT w X b Q1 i T c n) : gU w X (Q1, c, n) (cA w (S, τ, o)) 634 (LO w b i) [] := by
  obtain ⟨hW, hM, hS, hZ, hO, C, hX⟩ := H
  have hq0 := qOk_l hq
  obtain ⟨v, hF, hG⟩ := E10 hL
  exact la10N hW hM hS hZ hO C hX hF hG hq0 (kk _ _ _ _ _ (LR_l hL 0 hT) (Nat.le_succ _) (Nat.le_add_right _ _))
theorem ca_11 {w : WP} {X : CX} {b L : Nat} {xs : Nat → Int32} (H : gLB w X b L xs) {S : SS} {τ : HV} {o : Nat → Int64} {i : Int32} {Q1 : State → Prop} {c n T N : Nat} (hL : LR S τ T) (hT : T + 1800 < 2 ^ 20) (hN : 6000 < N) (hp : gIn i L) (hq : qOk X (Q1, c + 1, n + 6)) (kk : KT w X b Q1 i T c n) : gU w X (Q1, c, n) (cA w (S, τ, o)) 647 (LO w b i) [] := by
  obtain ⟨hW, hM, hS, hZ, hO, C, hX⟩ := H
  have hq0 := qOk_l hq
  obtain ⟨v, hF, hG⟩ := E11 (N := N) hL (by omega)
  exact la11N hW hM hS hZ hO C hX N hF hG hq0 (kk _ _ _ _ _ (LR_l hL 0 hT) (Nat.le_succ _) (Nat.le_add_right _ _))
theorem ca_12 {w : WP} {X : CX} {b L : Nat} {xs : Nat → Int32} (H : gLB w X b L xs) {S : SS} {τ : HV} {o : Nat → Int64} {i : Int32} {Q1 : State → Prop} {c n T N : Nat} (hL : LR S τ T) (hT : T + 1800 < 2 ^ 20) (hN : 6000 < N) (hp : gIn i L) (hq : qOk X (Q1, c + 1, n + 6)) (kk : KT w X b Q1 i T c n) : gU w X (Q1, c, n) (cA w (S, τ, o)) 660 (LO w b i) [] := by
  obtain ⟨hW, hM, hS, hZ, hO, C, hX⟩ := H
  have hq0 := qOk_l hq
  rcases E12 hL (xs (i + 1).toNatClampNeg) with ⟨v, hF, hG⟩ | ⟨b9, hF, hG⟩
  · exact la12N hW hM hS hZ hO C hX ⟨hp.1, rfl⟩ hF hG thr_6 hq0 (kk _ _ _ _ _ (LR_l hL 0 hT) (Nat.le_succ _) (Nat.le_add_right _ _))
  · exact la12X3 hW hM hS hZ hO C hX ⟨hp.1, rfl⟩ hF hG thr_6 hq (kk _ _ _ _ _ (LR_l hL 1 hT) (Nat.le_refl _) (Nat.le_refl _))
theorem ca_13 {w : WP} {X : CX} {b L : Nat} {xs : Nat → Int32} (H : gLB w X b L xs) {S : SS} {τ : HV} {o : Nat → Int64} {i : Int32} {Q1 : State → Prop} {c n T N : Nat} (hL : LR S τ T) (hT : T + 1800 < 2 ^ 20) (hN : 6000 < N) (hp : gIn i L) (hq : qOk X (Q1, c + 1, n + 6)) (kk : KT w X b Q1 i T c n) : gU w X (Q1, c, n) (cA w (S, τ, o)) 716 (LO w b i) [] := by
  obtain ⟨hW, hM, hS, hZ, hO, C, hX⟩ := H
  have hq0 := qOk_l hq
  rcases E13 hL (xs (i + 1).toNatClampNeg) with ⟨v, hF, hG⟩ | ⟨b9, hF, hG⟩
  · exact la13N hW hM hS hZ hO C hX ⟨hp.1, rfl⟩ hF hG thr_6 hq0 (kk _ _ _ _ _ (LR_l hL 0 hT) (Nat.le_succ _) (Nat.le_add_right _ _))
  · exact la13X3 hW hM hS hZ hO C hX ⟨hp.1, rfl⟩ hF hG thr_6 hq (kk _ _ _ _ _ (LR_l hL 1 hT) (Nat.le_refl _) (Nat.le_refl _))
theorem ca_14 {w : WP} {X : CX} {b L : Nat} {xs : Nat → Int32} (H : gLB w X b L xs) {S : SS} {τ : HV} {o : Nat → Int64} {i : Int32} {Q1 : State → Prop} {c n T N : Nat} (hL : LR S τ T) (hT : T + 1800 < 2 ^ 20) (hN : 6000 < N) (hp : gIn i L) (hq : qOk X (Q1, c + 1, n + 6)) (kk : KT w X b Q1 i T c n) : gU w X (Q1, c, n) (cA w (S, τ, o)) 772 (LO w b i) [] := by
  obtain ⟨hW, hM, hS, hZ, hO, C, hX⟩ := H
  have hq0 := qOk_l hq
  rcases E14 hL (xs (i + 1).toNatClampNeg) with ⟨v, hF, hG⟩ | ⟨b9, hF, hG⟩
  · exact la14N hW hM hS hZ hO C hX ⟨hp.1, rfl⟩ hF hG thr_6 hq0 (kk _ _ _ _ _ (LR_l hL 0 hT) (Nat.le_succ _) (Nat.le_add_right _ _))
  · exact la14X3 hW hM hS hZ hO C hX ⟨hp.1, rfl⟩ hF hG thr_6 hq (kk _ _ _ _ _ (LR_l hL 1 hT) (Nat.le_refl _) (Nat.le_refl _))
theorem ca_15 {w : WP} {X : CX} {b L : Nat} {xs : Nat → Int32} (H : gLB w X b L xs) {S : SS} {τ : HV} {o : Nat → Int64} {i : Int32} {Q1 : State → Prop} {c n T N : Nat} (hL : LR S τ T) (hT : T + 1800 < 2 ^ 20) (hN : 6000 < N) (hp : gIn i L) (hq : qOk X (Q1, c + 1, n + 6)) (kk : KT w X b Q1 i T c n) : gU w X (Q1, c, n) (cA w (S, τ, o)) 828 (LO w b i) [] := by
  obtain ⟨hW, hM, hS, hZ, hO, C, hX⟩ := H
  have hq0 := qOk_l hq
  rcases E15 (N := N) hL (by omega) (xs (i + 1).toNatClampNeg) with ⟨v, hF, hG⟩ | ⟨b9, hF, hG⟩
  · exact la15N hW hM hS hZ hO C hX ⟨hp.1, rfl⟩ N hF hG thr_6 hq0 (kk _ _ _ _ _ (LR_l hL 0 hT) (Nat.le_succ _) (Nat.le_add_right _ _))
  · exact la15X3 hW hM hS hZ hO C hX ⟨hp.1, rfl⟩ N hF hG thr_6 hq (kk _ _ _ _ _ (LR_l hL 1 hT) (Nat.le_refl _) (Nat.le_refl _))
theorem ca_16 {w : WP} {X : CX} {b L : Nat} {xs : Nat → Int32} (H : gLB w X b L xs) {S : SS} {τ : HV} {o : Nat → Int64} {i : Int32} {Q1 : State → Prop} {c n T N : Nat} (hL : LR S τ T) (hT : T + 1800 < 2 ^ 20) (hN : 6000 < N) (hp : gIn i L) (hq : qOk X (Q1, c + 1, n + 6)) (kk : KT w X b Q1 i T c n) : gU w X (Q1, c, n) (cA w (S, τ, o)) 891 (LO w b i) [] := by
  obtain ⟨hW, hM, hS, hZ, hO, C, hX⟩ := H
  have hq0 := qOk_l hq
  rcases E16 hL (xs (i + 1).toNatClampNeg) with ⟨v, hF, hG⟩ | ⟨b9, hF, hG⟩
  · exact la16N hW hM hS hZ hO C hX ⟨hp.1, rfl⟩ hF hG thr_6 hq0 (kk _ _ _ _ _ (LR_l hL 0 hT) (Nat.le_succ _) (Nat.le_add_right _ _))
  · exact la16X3 hW hM hS hZ hO C hX ⟨hp.1, rfl⟩ hF hG thr_6 hq (kk _ _ _ _ _ (LR_l hL 1 hT) (Nat.le_refl _) (Nat.le_refl _))
theorem ca_17 {w : WP} {X : CX} {b L : Nat} {xs : Nat → Int32} (H : gLB w X b L xs) {S : SS} {τ : HV} {o : Nat → Int64} {i : Int32} {Q1 : State → Prop} {c n T N : Nat} (hL : LR S τ T) (hT : T + 1800 < 2 ^ 20) (hN : 6000 < N) (hp : gIn i L) (hq : qOk X (Q1, c + 1, n + 6)) (kk : KT w X b Q1 i T c n) : gU w X (Q1, c, n) (cA w (S, τ, o)) 947 (LO w b i) [] := by
  obtain ⟨hW, hM, hS, hZ, hO, C, hX⟩ := H
  have hq0 := qOk_l hq
  rcases E17 hL (xs (i + 1).toNatClampNeg) with ⟨v, hF, hG⟩ | ⟨b9, hF, hG⟩
  · exact la17N hW hM hS hZ hO C hX ⟨hp.1, rfl⟩ hF hG thr_6 hq0 (kk _ _ _ _ _ (LR_l hL 0 hT) (Nat.le_succ _) (Nat.le_add_right _ _))
  · exact la17X3 hW hM hS hZ hO C hX ⟨hp.1, rfl⟩ hF hG thr_6 hq (kk _ _ _ _ _ (LR_l hL 1 hT) (Nat.le_refl _) (Nat.le_refl _))
theorem ca_18 {w : WP} {X : CX} {b L : Nat} {xs : Nat → Int32} (H : gLB w X b L xs) {S : SS} {τ : HV} {o : Nat → Int64} {i : Int32} {Q1 : State → Prop} {c n T N : Nat} (hL : LR S τ T) (hT : T + 1800 < 2 ^ 20) (hN : 6000 < N) (hp : gIn i L) (hq : qOk X (Q1, c + 1, n + 6)) (kk : KT w X b Q1 i T c n) : gU w X (Q1, c, n) (cA w (S, τ, o)) 1010 (LO w b i) [] := by
  obtain ⟨hW, hM, hS, hZ, hO, C, hX⟩ := H
  have hq0 := qOk_l hq
  obtain ⟨v, hF, hG⟩ := E18 (N := N) hL (by omega)
  exact la18N hW hM hS hZ hO C hX N hF hG hq0 (kk _ _ _ _ _ (LR_l hL 0 hT) (Nat.le_succ _) (Nat.le_add_right _ _))
theorem ca_19 {w : WP} {X : CX} {b L : Nat} {xs : Nat → Int32} (H : gLB w X b L xs) {S : SS} {τ : HV} {o : Nat → Int64} {i : Int32} {Q1 : State → Prop} {c n T N : Nat} (hL : LR S τ T) (hT : T + 1800 < 2 ^ 20) (hN : 6000 < N) (hp : gIn i L) (hq : qOk X (Q1, c + 1, n + 6)) (kk : KT w X b Q1 i T c n) : gU w X (Q1, c, n) (cA w (S, τ, o)) 1023 (LO w b i) [] := by
  obtain ⟨hW, hM, hS, hZ, hO, C, hX⟩ := H
  have hq0 := qOk_l hq
  rcases E19 hL (xs (i + 1).toNatClampNeg) with ⟨v, hF, hG⟩ | ⟨b9, hF, hG⟩
  · exact la19N hW hM hS hZ hO C hX ⟨hp.1, rfl⟩ hF hG thr_6 hq0 (kk _ _ _ _ _ (LR_l hL 0 hT) (Nat.le_succ _) (Nat.le_add_right _ _))
  · exact la19X2 hW hM hS hZ hO C hX ⟨hp.1, rfl⟩ hF hG thr_6 hq (kk _ _ _ _ _ (LR_l hL 1 hT) (Nat.le_refl _) (Nat.le_refl _))
theorem ca_20 {w : WP} {X : CX} {b L : Nat} {xs : Nat → Int32} (H : gLB w X b L xs) {S : SS} {τ : HV} {o : Nat → Int64} {i : Int32} {Q1 : State → Prop} {c n T N : Nat} (hL : LR S τ T) (hT : T + 1800 < 2 ^ 20) (hN : 6000 < N) (hp : gIn i L) (hq : qOk X (Q1, c + 1, n + 6)) (kk : KT w X b Q1 i T c n) : gU w X (Q1, c, n) (cA w (S, τ, o)) 1079 (LO w b i) [] := by
  obtain ⟨hW, hM, hS, hZ, hO, C, hX⟩ := H
  have hq0 := qOk_l hq
  rcases E20 hL (xs (i + 1).toNatClampNeg) (xs (i + 2).toNatClampNeg) (xs (i + 3).toNatClampNeg) with ⟨v, hF, hG⟩ | ⟨b9, hF, hG⟩
  · exact la20N hW hM hS hZ hO C hX ⟨hp.1, rfl⟩ ⟨hp.2.1, rfl⟩ ⟨hp.2.2.1, rfl⟩ hF hG thr_6 hq0 (kk _ _ _ _ _ (LR_l hL 0 hT) (Nat.le_succ _) (Nat.le_add_right _ _))
  · exact la20X2 hW hM hS hZ hO C hX ⟨hp.1, rfl⟩ ⟨hp.2.1, rfl⟩ ⟨hp.2.2.1, rfl⟩ hF hG thr_6 hq (kk _ _ _ _ _ (LR_l hL 1 hT) (Nat.le_refl _) (Nat.le_refl _))
theorem ca_21 {w : WP} {X : CX} {b L : Nat} {xs : Nat → Int32} (H : gLB w X b L xs) {S : SS} {τ : HV} {o : Nat → Int64} {i : Int32} {Q1 : State → Prop} {c n T N : Nat} (hL : LR S τ T) (hT : T + 1800 < 2 ^ 20) (hN : 6000 < N) (hp : gIn i L) (hq : qOk X (Q1, c + 1, n + 6)) (kk : KT w X b Q1 i T c n) : gU w X (Q1, c, n) (cA w (S, τ, o)) 1159 (LO w b i) [] := by
  obtain ⟨hW, hM, hS, hZ, hO, C, hX⟩ := H
  have hq0 := qOk_l hq
  rcases E21 hL (xs (i + 1).toNatClampNeg) with ⟨v, hF, hG⟩ | ⟨b9, hF, hG⟩
  · exact la21N hW hM hS hZ hO C hX ⟨hp.1, rfl⟩ hF hG thr_6 hq0 (kk _ _ _ _ _ (LR_l hL 0 hT) (Nat.le_succ _) (Nat.le_add_right _ _))
  · exact la21X2 hW hM hS hZ hO C hX ⟨hp.1, rfl⟩ hF hG thr_6 hq (kk _ _ _ _ _ (LR_l hL 1 hT) (Nat.le_refl _) (Nat.le_refl _))
theorem ca_22 {w : WP} {X : CX} {b L : Nat} {xs : Nat → Int32} (H : gLB w X b L xs) {S : SS} {τ : HV} {o : Nat → Int64} {i : Int32} {Q1 : State → Prop} {c n T N : Nat} (hL : LR S τ T) (hT : T + 1800 < 2 ^ 20) (hN : 6000 < N) (hp : gIn i L) (hq : qOk X (Q1, c + 1, n + 6)) (kk : KT w X b Q1 i T c n) : gU w X (Q1, c, n) (cA w (S, τ, o)) 1215 (LO w b i) [] := by
  obtain ⟨hW, hM, hS, hZ, hO, C, hX⟩ := H
  have hq0 := qOk_l hq
  rcases E22 hL (xs (i + 1).toNatClampNeg) with ⟨v, hF, hG⟩ | ⟨b9, hF, hG⟩
  · exact la22N hW hM hS hZ hO C hX ⟨hp.1, rfl⟩ hF hG thr_6 hq0 (kk _ _ _ _ _ (LR_l hL 0 hT) (Nat.le_succ _) (Nat.le_add_right _ _))
  · exact la22X2 hW hM hS hZ hO C hX ⟨hp.1, rfl⟩ hF hG thr_6 hq (kk _ _ _ _ _ (LR_l hL 1 hT) (Nat.le_refl _) (Nat.le_refl _))
theorem ca_23 {w : WP} {X : CX} {b L : Nat} {xs : Nat → Int32} (H : gLB w X b L xs) {S : SS} {τ : HV} {o : Nat → Int64} {i : Int32} {Q1 : State → Prop} {c n T N : Nat} (hL : LR S τ T) (hT : T + 1800 < 2 ^ 20) (hN : 6000 < N) (hp : gIn i L) (hq : qOk X (Q1, c + 1, n + 6)) (kk : KT w X b Q1 i T c n) : gU w X (Q1, c, n) (cA w (S, τ, o)) 1271 (LO w b i) [] := by
  obtain ⟨hW, hM, hS, hZ, hO, C, hX⟩ := H
  have hq0 := qOk_l hq
  rcases E23 (N := N) hL (by omega) (xs (i + 1).toNatClampNeg) with ⟨v, hF, hG⟩ | ⟨b9, hF, hG⟩
  · exact la23N hW hM hS hZ hO C hX ⟨hp.1, rfl⟩ N hF hG thr_6 hq0 (kk _ _ _ _ _ (LR_l hL 0 hT) (Nat.le_succ _) (Nat.le_add_right _ _))
  · exact la23X2 hW hM hS hZ hO C hX ⟨hp.1, rfl⟩ N hF hG thr_6 hq (kk _ _ _ _ _ (LR_l hL 1 hT) (Nat.le_refl _) (Nat.le_refl _))
theorem ca_24 {w : WP} {X : CX} {b L : Nat} {xs : Nat → Int32} (H : gLB w X b L xs) {S : SS} {τ : HV} {o : Nat → Int64} {i : Int32} {Q1 : State → Prop} {c n T N : Nat} (hL : LR S τ T) (hT : T + 1800 < 2 ^ 20) (hN : 6000 < N) (hp : gIn i L) (hq : qOk X (Q1, c + 1, n + 6)) (kk : KT w X b Q1 i T c n) : gU w X (Q1, c, n) (cA w (S, τ, o)) 1327 (LO w b i) [] := by
  obtain ⟨hW, hM, hS, hZ, hO, C, hX⟩ := H
  have hq0 := qOk_l hq
  rcases E24 (N := N) hL (by omega) (xs (i + 1).toNatClampNeg) with ⟨v, hF, hG⟩ | ⟨b9, hF, hG⟩
  · exact la24N hW hM hS hZ hO C hX ⟨hp.1, rfl⟩ N hF hG thr_6 hq0 (kk _ _ _ _ _ (LR_l hL 0 hT) (Nat.le_succ _) (Nat.le_add_right _ _))
  · exact la24X2 hW hM hS hZ hO C hX ⟨hp.1, rfl⟩ N hF hG thr_6 hq (kk _ _ _ _ _ (LR_l hL 1 hT) (Nat.le_refl _) (Nat.le_refl _))
theorem ca_25 {w : WP} {X : CX} {b L : Nat} {xs : Nat → Int32} (H : gLB w X b L xs) {S : SS} {τ : HV} {o : Nat → Int64} {i : Int32} {Q1 : State → Prop} {c n T N : Nat} (hL : LR S τ T) (hT : T + 1800 < 2 ^ 20) (hN : 6000 < N) (hp : gIn i L) (hq : qOk X (Q1, c + 1, n + 6)) (kk : KT w X b Q1 i T c n) : gU w X (Q1, c, n) (cA w (S, τ, o)) 1383 (LO w b i) [] := by
  obtain ⟨hW, hM, hS, hZ, hO, C, hX⟩ := H
  have hq0 := qOk_l hq
  obtain ⟨v, hF, hG⟩ := E25 (N := N) hL (by omega)
  exact la25N hW hM hS hZ hO C hX N hF hG hq0 (kk _ _ _ _ _ (LR_l hL 0 hT) (Nat.le_succ _) (Nat.le_add_right _ _))
theorem ca_26 {w : WP} {X : CX} {b L : Nat} {xs : Nat → Int32} (H : gLB w X b L xs) {S : SS} {τ : HV} {o : Nat → Int64} {i : Int32} {Q1 : State → Prop} {c n T N : Nat} (hL : LR S τ T) (hT : T + 1800 < 2 ^ 20) (hN : 6000 < N) (hp : gIn i L) (hq : qOk X (Q1, c + 1, n + 6)) (kk : KT w X b Q1 i T c n) : gU w X (Q1, c, n) (cA w (S, τ, o)) 1396 (LO w b i) [] := by
  obtain ⟨hW, hM, hS, hZ, hO, C, hX⟩ := H
  have hq0 := qOk_l hq
  obtain ⟨v, hF, hG⟩ := E26 (N := N) hL (by omega) (xs (i + 1).toNatClampNeg)
  exact la26N hW hM hS hZ hO C hX ⟨hp.1, rfl⟩ N hF hG hq0 (kk _ _ _ _ _ (LR_l hL 0 hT) (Nat.le_succ _) (Nat.le_add_right _ _))
theorem ca_27 {w : WP} {X : CX} {b L : Nat} {xs : Nat → Int32} (H : gLB w X b L xs) {S : SS} {τ : HV} {o : Nat → Int64} {i : Int32} {Q1 : State → Prop} {c n T N : Nat} (hL : LR S τ T) (hT : T + 1800 < 2 ^ 20) (hN : 6000 < N) (hp : gIn i L) (hq : qOk X (Q1, c + 1, n + 6)) (kk : KT w X b Q1 i T c n) : gU w X (Q1, c, n) (cA w (S, τ, o)) 1421 (LO w b i) [] := by
  obtain ⟨hW, hM, hS, hZ, hO, C, hX⟩ := H
  have hq0 := qOk_l hq
  rcases E27 (N := N) hL (by omega) (xs (i + 1).toNatClampNeg) with ⟨v, hF, hG⟩ | ⟨b9, hF, hG⟩
  · exact la27N hW hM hS hZ hO C hX ⟨hp.1, rfl⟩ N hF hG thr_6 hq0 (kk _ _ _ _ _ (LR_l hL 0 hT) (Nat.le_succ _) (Nat.le_add_right _ _))
  · exact la27X3 hW hM hS hZ hO C hX ⟨hp.1, rfl⟩ N hF hG thr_6 hq (kk _ _ _ _ _ (LR_l hL 1 hT) (Nat.le_refl _) (Nat.le_refl _))
theorem ca_28 {w : WP} {X : CX} {b L : Nat} {xs : Nat → Int32} (H : gLB w X b L xs) {S : SS} {τ : HV} {o : Nat → Int64} {i : Int32} {Q1 : State → Prop} {c n T N : Nat} (hL : LR S τ T) (hT : T + 1800 < 2 ^ 20) (hN : 6000 < N) (hp : gIn i L) (hq : qOk X (Q1, c + 1, n + 6)) (kk : KT w X b Q1 i T c n) : gU w X (Q1, c, n) (cA w (S, τ, o)) 1477 (LO w b i) [] := by
  obtain ⟨hW, hM, hS, hZ, hO, C, hX⟩ := H
  have hq0 := qOk_l hq
  rcases E28 hL (xs (i + 1).toNatClampNeg) with ⟨v, hF, hG⟩ | ⟨b9, hF, hG⟩
  · exact la28N hW hM hS hZ hO C hX ⟨hp.1, rfl⟩ hF hG thr_6 hq0 (kk _ _ _ _ _ (LR_l hL 0 hT) (Nat.le_succ _) (Nat.le_add_right _ _))
  · exact la28X3 hW hM hS hZ hO C hX ⟨hp.1, rfl⟩ hF hG thr_6 hq (kk _ _ _ _ _ (LR_l hL 1 hT) (Nat.le_refl _) (Nat.le_refl _))
theorem ca_29 {w : WP} {X : CX} {b L : Nat} {xs : Nat → Int32} (H : gLB w X b L xs) {S : SS} {τ : HV} {o : Nat → Int64} {i : Int32} {Q1 : State → Prop} {c n T N : Nat} (hL : LR S τ T) (hT : T + 1800 < 2 ^ 20) (hN : 6000 < N) (hp : gIn i L) (hq : qOk X (Q1, c + 1, n + 6)) (kk : KT w X b Q1 i T c n) : gU w X (Q1, c, n) (cA w (S, τ, o)) 1533 (LO w b i) [] := by
  obtain ⟨hW, hM, hS, hZ, hO, C, hX⟩ := H
  have hq0 := qOk_l hq
  rcases E29 hL (xs (i + 1).toNatClampNeg) with ⟨v, hF, hG⟩ | ⟨b9, hF, hG⟩
  · exact la29N hW hM hS hZ hO C hX ⟨hp.1, rfl⟩ hF hG thr_6 hq0 (kk _ _ _ _ _ (LR_l hL 0 hT) (Nat.le_succ _) (Nat.le_add_right _ _))
  · exact la29X3 hW hM hS hZ hO C hX ⟨hp.1, rfl⟩ hF hG thr_6 hq (kk _ _ _ _ _ (LR_l hL 1 hT) (Nat.le_refl _) (Nat.le_refl _))
theorem ca_30 {w : WP} {X : CX} {b L : Nat} {xs : Nat → Int32} (H : gLB w X b L xs) {S : SS} {τ : HV} {o : Nat → Int64} {i : Int32} {Q1 : State → Prop} {c n T N : Nat} (hL : LR S τ T) (hT : T + 1800 < 2 ^ 20) (hN : 6000 < N) (hp : gIn i L) (hq : qOk X (Q1, c + 1, n + 6)) (kk : KT w X b Q1 i T c n) : gU w X (Q1, c, n) (cA w (S, τ, o)) 1589 (LO w b i) [] := by
  obtain ⟨hW, hM, hS, hZ, hO, C, hX⟩ := H
  have hq0 := qOk_l hq
  rcases E30 (N := N) hL (by omega) (xs (i + 1).toNatClampNeg) with ⟨v, hF, hG⟩ | ⟨b9, hF, hG⟩
  · exact la30N hW hM hS hZ hO C hX ⟨hp.1, rfl⟩ N hF hG thr_6 hq0 (kk _ _ _ _ _ (LR_l hL 0 hT) (Nat.le_succ _) (Nat.le_add_right _ _))
  · exact la30X2 hW hM hS hZ hO C hX ⟨hp.1, rfl⟩ N hF hG thr_6 hq (kk _ _ _ _ _ (LR_l hL 1 hT) (Nat.le_refl _) (Nat.le_refl _))
theorem ca_31 {w : WP} {X : CX} {b L : Nat} {xs : Nat → Int32} (H : gLB w X b L xs) {S : SS} {τ : HV} {o : Nat → Int64} {i : Int32} {Q1 : State → Prop} {c n T N : Nat} (hL : LR S τ T) (hT : T + 1800 < 2 ^ 20) (hN : 6000 < N) (hp : gIn i L) (hq : qOk X (Q1, c + 1, n + 6)) (kk : KT w X b Q1 i T c n) : gU w X (Q1, c, n) (cA w (S, τ, o)) 1645 (LO w b i) [] := by
  obtain ⟨hW, hM, hS, hZ, hO, C, hX⟩ := H
  have hq0 := qOk_l hq
  rcases E31 hL (xs (i + 1).toNatClampNeg) with ⟨v, hF, hG⟩ | ⟨b9, hF, hG⟩
  · exact la31N hW hM hS hZ hO C hX ⟨hp.1, rfl⟩ hF hG thr_6 hq0 (kk _ _ _ _ _ (LR_l hL 0 hT) (Nat.le_succ _) (Nat.le_add_right _ _))
  · exact la31X3 hW hM hS hZ hO C hX ⟨hp.1, rfl⟩ hF hG thr_6 hq (kk _ _ _ _ _ (LR_l hL 1 hT) (Nat.le_refl _) (Nat.le_refl _))
theorem ca_32 {w : WP} {X : CX} {b L : Nat} {xs : Nat → Int32} (H : gLB w X b L xs) {S : SS} {τ : HV} {o : Nat → Int64} {i : Int32} {Q1 : State → Prop} {c n T N : Nat} (hL : LR S τ T) (hT : T + 1800 < 2 ^ 20) (hN : 6000 < N) (hp : gIn i L) (hq : qOk X (Q1, c + 1, n + 6)) (kk : KT w X b Q1 i T c n) : gU w X (Q1, c, n) (cA w (S, τ, o)) 1701 (LO w b i) [] := by
  obtain ⟨hW, hM, hS, hZ, hO, C, hX⟩ := H
  have hq0 := qOk_l hq
  obtain ⟨v, hF, hG⟩ := E32 hL
  exact la32N hW hM hS hZ hO C hX hF hG hq0 (kk _ _ _ _ _ (LR_l hL 0 hT) (Nat.le_succ _) (Nat.le_add_right _ _))
theorem ca_33 {w : WP} {X : CX} {b L : Nat} {xs : Nat → Int32} (H : gLB w X b L xs) {S : SS} {τ : HV} {o : Nat → Int64} {i : Int32} {Q1 : State → Prop} {c n T N : Nat} (hL : LR S τ T) (hT : T + 1800 < 2 ^ 20) (hN : 6000 < N) (hp : gIn i L) (hq : qOk X (Q1, c + 1, n + 6)) (kk : KT w X b Q1 i T c n) : gU w X (Q1, c, n) (cA w (S, τ, o)) 1714 (LO w b i) [] := by
  obtain ⟨hW, hM, hS, hZ, hO, C, hX⟩ := H
  have hq0 := qOk_l hq
  rcases E33 (N := N) hL (by omega) (by omega) (xs (i + 1).toNatClampNeg) with ⟨v, S', τ', hF, hG, ht, hR⟩ | ⟨q, S', b9, τ', hq9, hF, hG, ht, hR⟩
  · exact la33N hW hM hS hZ hO C hX ⟨hp.1, rfl⟩ N hF hG ht hq0 (kk _ _ _ _ _ (LR_up hR (by omega) hT) (Nat.le_succ _) (Nat.le_add_right _ _))
  · rcases List.mem_cons.mp hq9 with rfl | hq9
    · exact la33X3 hW hM hS hZ hO C hX ⟨hp.1, rfl⟩ N hF hG ht hq (kk _ _ _ _ _ (LR_up hR (by omega) hT) (Nat.le_refl _) (Nat.le_refl _))
    · exact absurd hq9 List.not_mem_nil
theorem ca_34 {w : WP} {X : CX} {b L : Nat} {xs : Nat → Int32} (H : gLB w X b L xs) {S : SS} {τ : HV} {o : Nat → Int64} {i : Int32} {Q1 : State → Prop} {c n T N : Nat} (hL : LR S τ T) (hT : T + 1800 < 2 ^ 20) (hN : 6000 < N) (hp : gIn i L) (hq : qOk X (Q1, c + 1, n + 6)) (kk : KT w X b Q1 i T c n) : gU w X (Q1, c, n) (cA w (S, τ, o)) 1770 (LO w b i) [] := by
  obtain ⟨hW, hM, hS, hZ, hO, C, hX⟩ := H
  have hq0 := qOk_l hq
  rcases E34 (N := N) hL (by omega) (by omega) (xs (i + 1).toNatClampNeg) (xs (i + 2).toNatClampNeg) with ⟨v, S', τ', hF, hG, ht, hR⟩ | ⟨q, S', b9, τ', hq9, hF, hG, ht, hR⟩
  · exact la34N hW hM hS hZ hO C hX ⟨hp.1, rfl⟩ ⟨hp.2.1, rfl⟩ N hF hG ht hq0 (kk _ _ _ _ _ (LR_up hR (by omega) hT) (Nat.le_succ _) (Nat.le_add_right _ _))
  · rcases List.mem_cons.mp hq9 with rfl | hq9
    · exact la34X2 hW hM hS hZ hO C hX ⟨hp.1, rfl⟩ ⟨hp.2.1, rfl⟩ N hF hG ht hq (kk _ _ _ _ _ (LR_up hR (by omega) hT) (Nat.le_refl _) (Nat.le_refl _))
    · exact absurd hq9 List.not_mem_nil
theorem ca_35 {w : WP} {X : CX} {b L : Nat} {xs : Nat → Int32} (H : gLB w X b L xs) {S : SS} {τ : HV} {o : Nat → Int64} {i : Int32} {Q1 : State → Prop} {c n T N : Nat} (hL : LR S τ T) (hT : T + 1800 < 2 ^ 20) (hN : 6000 < N) (hp : gIn i L) (hq : qOk X (Q1, c + 1, n + 6)) (kk : KT w X b Q1 i T c n) : gU w X (Q1, c, n) (cA w (S, τ, o)) 1838 (LO w b i) [] := by
  obtain ⟨hW, hM, hS, hZ, hO, C, hX⟩ := H
  have hq0 := qOk_l hq
  rcases E35 (N := N) hL (by omega) (by omega) (xs (i + 1).toNatClampNeg) (xs (i + 2).toNatClampNeg) with ⟨v, S', τ', hF, hG, ht, hR⟩ | ⟨q, S', b9, τ', hq9, hF, hG, ht, hR⟩
  · exact la35N hW hM hS hZ hO C hX ⟨hp.1, rfl⟩ ⟨hp.2.1, rfl⟩ N hF hG ht hq0 (kk _ _ _ _ _ (LR_up hR (by omega) hT) (Nat.le_succ _) (Nat.le_add_right _ _))
  · rcases List.mem_cons.mp hq9 with rfl | hq9
    · exact la35X2 hW hM hS hZ hO C hX ⟨hp.1, rfl⟩ ⟨hp.2.1, rfl⟩ N hF hG ht hq (kk _ _ _ _ _ (LR_up hR (by omega) hT) (Nat.le_refl _) (Nat.le_refl _))
    · exact absurd hq9 List.not_mem_nil
theorem ca_36 {w : WP} {X : CX} {b L : Nat} {xs : Nat → Int32} (H : gLB w X b L xs) {S : SS} {τ : HV} {o : Nat → Int64} {i : Int32} {Q1 : State → Prop} {c n T N : Nat} (hL : LR S τ T) (hT : T + 1800 < 2 ^ 20) (hN : 6000 < N) (hp : gIn i L) (hq : qOk X (Q1, c + 1, n + 6)) (kk : KT w X b Q1 i T c n) : gU w X (Q1, c, n) (cA w (S, τ, o)) 1906 (LO w b i) [] := by
  obtain ⟨hW, hM, hS, hZ, hO, C, hX⟩ := H
  have hq0 := qOk_l hq
  obtain ⟨v, hF, hG⟩ := E36 (N := N) hL (by omega)
  exact la36N hW hM hS hZ hO C hX N hF hG hq0 (kk _ _ _ _ _ (LR_l hL 0 hT) (Nat.le_succ _) (Nat.le_add_right _ _))
theorem ca_37 {w : WP} {X : CX} {b L : Nat} {xs : Nat → Int32} (H : gLB w X b L xs) {S : SS} {τ : HV} {o : Nat → Int64} {i : Int32} {Q1 : State → Prop} {c n T N : Nat} (hL : LR S τ T) (hT : T + 1800 < 2 ^ 20) (hN : 6000 < N) (hp : gIn i L) (hq : qOk X (Q1, c + 1, n + 6)) (kk : KT w X b Q1 i T c n) : gU w X (Q1, c, n) (cA w (S, τ, o)) 1919 (LO w b i) [] := by
  obtain ⟨hW, hM, hS, hZ, hO, C, hX⟩ := H
  have hq0 := qOk_l hq
  rcases E37 (N := N) hL (by omega) (by omega) (xs (i + 1).toNatClampNeg) (xs (i + 2).toNatClampNeg) with ⟨v, S', τ', hF, hG, ht, hR⟩ | ⟨q, S', b9, τ', hq9, hF, hG, ht, hR⟩
  · exact la37N hW hM hS hZ hO C hX ⟨hp.1, rfl⟩ ⟨hp.2.1, rfl⟩ N hF hG ht hq0 (kk _ _ _ _ _ (LR_up hR (by omega) hT) (Nat.le_succ _) (Nat.le_add_right _ _))
  · rcases List.mem_cons.mp hq9 with rfl | hq9
    · exact la37X2 hW hM hS hZ hO C hX ⟨hp.1, rfl⟩ ⟨hp.2.1, rfl⟩ N hF hG ht hq (kk _ _ _ _ _ (LR_up hR (by omega) hT) (Nat.le_refl _) (Nat.le_refl _))
    · exact absurd hq9 List.not_mem_nil
theorem ca_38 {w : WP} {X : CX} {b L : Nat} {xs : Nat → Int32} (H : gLB w X b L xs) {S : SS} {τ : HV} {o : Nat → Int64} {i : Int32} {Q1 : State → Prop} {c n T N : Nat} (hL : LR S τ T) (hT : T + 1800 < 2 ^ 20) (hN : 6000 < N) (hp : gIn i L) (hq : qOk X (Q1, c + 1, n + 6)) (kk : KT w X b Q1 i T c n) : gU w X (Q1, c, n) (cA w (S, τ, o)) 1987 (LO w b i) [] := by
  obtain ⟨hW, hM, hS, hZ, hO, C, hX⟩ := H
  have hq0 := qOk_l hq
  rcases E38 hL (xs (i + 1).toNatClampNeg) with ⟨v, hF, hG⟩ | ⟨b9, hF, hG⟩
  · exact la38N hW hM hS hZ hO C hX ⟨hp.1, rfl⟩ hF hG thr_6 hq0 (kk _ _ _ _ _ (LR_l hL 0 hT) (Nat.le_succ _) (Nat.le_add_right _ _))
  · exact la38X2 hW hM hS hZ hO C hX ⟨hp.1, rfl⟩ hF hG thr_6 hq (kk _ _ _ _ _ (LR_l hL 1 hT) (Nat.le_refl _) (Nat.le_refl _))
theorem ca_39 {w : WP} {X : CX} {b L : Nat} {xs : Nat → Int32} (H : gLB w X b L xs) {S : SS} {τ : HV} {o : Nat → Int64} {i : Int32} {Q1 : State → Prop} {c n T N : Nat} (hL : LR S τ T) (hT : T + 1800 < 2 ^ 20) (hN : 6000 < N) (hp : gIn i L) (hq : qOk X (Q1, c + 1, n + 6)) (kk : KT w X b Q1 i T c n) : gU w X (Q1, c, n) (cA w (S, τ, o)) 2043 (LO w b i) [] := by
  obtain ⟨hW, hM, hS, hZ, hO, C, hX⟩ := H
  have hq0 := qOk_l hq
  rcases E39 hL (xs (i + 1).toNatClampNeg) with ⟨v, hF, hG⟩ | ⟨b9, hF, hG⟩
  · exact la39N hW hM hS hZ hO C hX ⟨hp.1, rfl⟩ hF hG thr_6 hq0 (kk _ _ _ _ _ (LR_l hL 0 hT) (Nat.le_succ _) (Nat.le_add_right _ _))
  · exact la39X2 hW hM hS hZ hO C hX ⟨hp.1, rfl⟩ hF hG thr_6 hq (kk _ _ _ _ _ (LR_l hL 1 hT) (Nat.le_refl _) (Nat.le_refl _))
theorem ca_40 {w : WP} {X : CX} {b L : Nat} {xs : Nat → Int32} (H : gLB w X b L xs) {S : SS} {τ : HV} {o : Nat → Int64} {i : Int32} {Q1 : State → Prop} {c n T N : Nat} (hL : LR S τ T) (hT : T + 1800 < 2 ^ 20) (hN : 6000 < N) (hp : gIn i L) (hq : qOk X (Q1, c + 1, n + 6)) (kk : KT w X b Q1 i T c n) : gU w X (Q1, c, n) (cA w (S, τ, o)) 2099 (LO w b i) [] := by
  obtain ⟨hW, hM, hS, hZ, hO, C, hX⟩ := H
  have hq0 := qOk_l hq
  rcases E40 hL (xs (i + 1).toNatClampNeg) with ⟨v, hF, hG⟩ | ⟨b9, hF, hG⟩
  · exact la40N hW hM hS hZ hO C hX ⟨hp.1, rfl⟩ hF hG thr_6 hq0 (kk _ _ _ _ _ (LR_l hL 0 hT) (Nat.le_succ _) (Nat.le_add_right _ _))
  · exact la40X2 hW hM hS hZ hO C hX ⟨hp.1, rfl⟩ hF hG thr_6 hq (kk _ _ _ _ _ (LR_l hL 1 hT) (Nat.le_refl _) (Nat.le_refl _))
theorem ca_41 {w : WP} {X : CX} {b L : Nat} {xs : Nat → Int32} (H : gLB w X b L xs) {S : SS} {τ : HV} {o : Nat → Int64} {i : Int32} {Q1 : State → Prop} {c n T N : Nat} (hL : LR S τ T) (hT : T + 1800 < 2 ^ 20) (hN : 6000 < N) (hp : gIn i L) (hq : qOk X (Q1, c + 1, n + 6)) (kk : KT w X b Q1 i T c n) : gU w X (Q1, c, n) (cA w (S, τ, o)) 2155 (LO w b i) [] := by
  obtain ⟨hW, hM, hS, hZ, hO, C, hX⟩ := H
  have hq0 := qOk_l hq
  rcases E41 hL (xs (i + 1).toNatClampNeg) with ⟨v, hF, hG⟩ | ⟨b9, hF, hG⟩
  · exact la41N hW hM hS hZ hO C hX ⟨hp.1, rfl⟩ hF hG thr_6 hq0 (kk _ _ _ _ _ (LR_l hL 0 hT) (Nat.le_succ _) (Nat.le_add_right _ _))
  · exact la41X2 hW hM hS hZ hO C hX ⟨hp.1, rfl⟩ hF hG thr_6 hq (kk _ _ _ _ _ (LR_l hL 1 hT) (Nat.le_refl _) (Nat.le_refl _))
theorem ca_42 {w : WP} {X : CX} {b L : Nat} {xs : Nat → Int32} (H : gLB w X b L xs) {S : SS} {τ : HV} {o : Nat → Int64} {i : Int32} {Q1 : State → Prop} {c n T N : Nat} (hL : LR S τ T) (hT : T + 1800 < 2 ^ 20) (hN : 6000 < N) (hp : gIn i L) (hq : qOk X (Q1, c + 1, n + 6)) (kk : KT w X b Q1 i T c n) : gU w X (Q1, c, n) (cA w (S, τ, o)) 2211 (LO w b i) [] := by
  obtain ⟨hW, hM, hS, hZ, hO, C, hX⟩ := H
  have hq0 := qOk_l hq
  obtain ⟨v, hF, hG⟩ := E42 hL
  exact la42N hW hM hS hZ hO C hX hF hG hq0 (kk _ _ _ _ _ (LR_l hL 0 hT) (Nat.le_succ _) (Nat.le_add_right _ _))
theorem ca_43 {w : WP} {X : CX} {b L : Nat} {xs : Nat → Int32} (H : gLB w X b L xs) {S : SS} {τ : HV} {o : Nat → Int64} {i : Int32} {Q1 : State → Prop} {c n T N : Nat} (hL : LR S τ T) (hT : T + 1800 < 2 ^ 20) (hN : 6000 < N) (hp : gIn i L) (hq : qOk X (Q1, c + 1, n + 6)) (kk : KT w X b Q1 i T c n) : gU w X (Q1, c, n) (cA w (S, τ, o)) 2224 (LO w b i) [] := by
  obtain ⟨hW, hM, hS, hZ, hO, C, hX⟩ := H
  have hq0 := qOk_l hq
  obtain ⟨v, hF, hG⟩ := E43 hL
  exact la43N hW hM hS hZ hO C hX hF hG hq0 (kk _ _ _ _ _ (LR_l hL 0 hT) (Nat.le_succ _) (Nat.le_add_right _ _))
theorem ca_44 {w : WP} {X : CX} {b L : Nat} {xs : Nat → Int32} (H : gLB w X b L xs) {S : SS} {τ : HV} {o : Nat → Int64} {i : Int32} {Q1 : State → Prop} {c n T N : Nat} (hL : LR S τ T) (hT : T + 1800 < 2 ^ 20) (hN : 6000 < N) (hp : gIn i L) (hq : qOk X (Q1, c + 1, n + 6)) (kk : KT w X b Q1 i T c n) : gU w X (Q1, c, n) (cA w (S, τ, o)) 2237 (LO w b i) [] := by
  obtain ⟨hW, hM, hS, hZ, hO, C, hX⟩ := H
  have hq0 := qOk_l hq
  obtain ⟨v, hF, hG⟩ := E44 hL
  exact la44N hW hM hS hZ hO C hX hF hG hq0 (kk _ _ _ _ _ (LR_l hL 0 hT) (Nat.le_succ _) (Nat.le_add_right _ _))
theorem ca_45 {w : WP} {X : CX} {b L : Nat} {xs : Nat → Int32} (H : gLB w X b L xs) {S : SS} {τ : HV} {o : Nat → Int64} {i : Int32} {Q1 : State → Prop} {c n T N : Nat} (hL : LR S τ T) (hT : T + 1800 < 2 ^ 20) (hN : 6000 < N) (hp : gIn i L) (hq : qOk X (Q1, c + 1, n + 6)) (kk : KT w X b Q1 i T c n) : gU w X (Q1, c, n) (cA w (S, τ, o)) 2250 (LO w b i) [] := by
  obtain ⟨hW, hM, hS, hZ, hO, C, hX⟩ := H
  have hq0 := qOk_l hq
  obtain ⟨v, hF, hG⟩ := E45 (N := N) hL (by omega)
  exact la45N hW hM hS hZ hO C hX N hF hG hq0 (kk _ _ _ _ _ (LR_l hL 0 hT) (Nat.le_succ _) (Nat.le_add_right _ _))
theorem ca_46 {w : WP} {X : CX} {b L : Nat} {xs : Nat → Int32} (H : gLB w X b L xs) {S : SS} {τ : HV} {o : Nat → Int64} {i : Int32} {Q1 : State → Prop} {c n T N : Nat} (hL : LR S τ T) (hT : T + 1800 < 2 ^ 20) (hN : 6000 < N) (hp : gIn i L) (hq : qOk X (Q1, c + 1, n + 6)) (kk : KT w X b Q1 i T c n) : gU w X (Q1, c, n) (cA w (S, τ, o)) 2263 (LO w b i) [] := by
  obtain ⟨hW, hM, hS, hZ, hO, C, hX⟩ := H
  have hq0 := qOk_l hq
  obtain ⟨v, hF, hG⟩ := E46 (N := N) hL (by omega)
  exact la46N hW hM hS hZ hO C hX N hF hG hq0 (kk _ _ _ _ _ (LR_l hL 0 hT) (Nat.le_succ _) (Nat.le_add_right _ _))
theorem ca_47 {w : WP} {X : CX} {b L : Nat} {xs : Nat → Int32} (H : gLB w X b L xs) {S : SS} {τ : HV} {o : Nat → Int64} {i : Int32} {Q1 : State → Prop} {c n T N : Nat} (hL : LR S τ T) (hT : T + 1800 < 2 ^ 20) (hN : 6000 < N) (hp : gIn i L) (hq : qOk X (Q1, c + 1, n + 6)) (kk : KT w X b Q1 i T c n) : gU w X (Q1, c, n) (cA w (S, τ, o)) 2276 (LO w b i) [] := by
  obtain ⟨hW, hM, hS, hZ, hO, C, hX⟩ := H
  have hq0 := qOk_l hq
  obtain ⟨v, hF, hG⟩ := E47 (N := N) hL (by omega)
  exact la47N hW hM hS hZ hO C hX N hF hG hq0 (kk _ _ _ _ _ (LR_l hL 0 hT) (Nat.le_succ _) (Nat.le_add_right _ _))
theorem ca_48 {w : WP} {X : CX} {b L : Nat} {xs : Nat → Int32} (H : gLB w X b L xs) {S : SS} {τ : HV} {o : Nat → Int64} {i : Int32} {Q1 : State → Prop} {c n T N : Nat} (hL : LR S τ T) (hT : T + 1800 < 2 ^ 20) (hN : 6000 < N) (hp : gIn i L) (hq : qOk X (Q1, c + 1, n + 6)) (kk : KT w X b Q1 i T c n) : gU w X (Q1, c, n) (cA w (S, τ, o)) 2289 (LO w b i) [] := by
  obtain ⟨hW, hM, hS, hZ, hO, C, hX⟩ := H
  have hq0 := qOk_l hq
  obtain ⟨v, hF, hn, hc, hG⟩ := E48 (N := N) hL (by omega)
  exact la48N hW hM hS hZ hO C hX N hF hn hG hc hq0 (kk _ _ _ _ _ (LR_l hL 0 hT) (Nat.le_succ _) (Nat.le_add_right _ _))
theorem ca_49 {w : WP} {X : CX} {b L : Nat} {xs : Nat → Int32} (H : gLB w X b L xs) {S : SS} {τ : HV} {o : Nat → Int64} {i : Int32} {Q1 : State → Prop} {c n T N : Nat} (hL : LR S τ T) (hT : T + 1800 < 2 ^ 20) (hN : 6000 < N) (hp : gIn i L) (hq : qOk X (Q1, c + 1, n + 6)) (kk : KT w X b Q1 i T c n) : gU w X (Q1, c, n) (cA w (S, τ, o)) 2332 (LO w b i) [] := by
  obtain ⟨hW, hM, hS, hZ, hO, C, hX⟩ := H
  have hq0 := qOk_l hq
  obtain ⟨v, hF, hc, hG⟩ := E49 (N := N) hL (by omega)
  exact la49N hW hM hS hZ hO C hX N hF hG hc hq0 (kk _ _ _ _ _ (LR_l hL 0 hT) (Nat.le_succ _) (Nat.le_add_right _ _))
theorem ca_50 {w : WP} {X : CX} {b L : Nat} {xs : Nat → Int32} (H : gLB w X b L xs) {S : SS} {τ : HV} {o : Nat → Int64} {i : Int32} {Q1 : State → Prop} {c n T N : Nat} (hL : LR S τ T) (hT : T + 1800 < 2 ^ 20) (hN : 6000 < N) (hp : gIn i L) (hq : qOk X (Q1, c + 1, n + 6)) (kk : KT w X b Q1 i T c n) : gU w X (Q1, c, n) (cA w (S, τ, o)) 2373 (LO w b i) [] := by
  obtain ⟨hW, hM, hS, hZ, hO, C, hX⟩ := H
  have hq0 := qOk_l hq
  rcases E50 (N := N) hL (by omega) (by omega) (xs (i + 1).toNatClampNeg) (xs (i + 2).toNatClampNeg) with ⟨v, S', τ', hF, hG, ht, hR⟩ | ⟨q, S', b9, τ', hq9, hF, hG, ht, hR⟩
  · exact la50N hW hM hS hZ hO C hX ⟨hp.1, rfl⟩ ⟨hp.2.1, rfl⟩ N hF hG ht hq0 (kk _ _ _ _ _ (LR_up hR (by omega) hT) (Nat.le_succ _) (Nat.le_add_right _ _))
  · rcases List.mem_cons.mp hq9 with rfl | hq9
    · exact la50X3 hW hM hS hZ hO C hX ⟨hp.1, rfl⟩ ⟨hp.2.1, rfl⟩ N hF hG ht hq (kk _ _ _ _ _ (LR_up hR (by omega) hT) (Nat.le_refl _) (Nat.le_refl _))
    · rcases List.mem_cons.mp hq9 with rfl | hq9
      · exact la50X2 hW hM hS hZ hO C hX ⟨hp.1, rfl⟩ ⟨hp.2.1, rfl⟩ N hF hG ht hq (kk _ _ _ _ _ (LR_up hR (by omega) hT) (Nat.le_refl _) (Nat.le_refl _))
      · rcases List.mem_cons.mp hq9 with rfl | hq9
        · exact la50X1 hW hM hS hZ hO C hX ⟨hp.1, rfl⟩ ⟨hp.2.1, rfl⟩ N hF hG ht hq (kk _ _ _ _ _ (LR_up hR (by omega) hT) (Nat.le_refl _) (Nat.le_refl _))
        · exact absurd hq9 List.not_mem_nil
theorem ca_51 {w : WP} {X : CX} {b L : Nat} {xs : Nat → Int32} (H : gLB w X b L xs) {S : SS} {τ : HV} {o : Nat → Int64} {i : Int32} {Q1 : State → Prop} {c n T N : Nat} (hL : LR S τ T) (hT : T + 1800 < 2 ^ 20) (hN : 6000 < N) (hp : gIn i L) (hq : qOk X (Q1, c + 1, n + 6)) (kk : KT w X b Q1 i T c n) : gU w X (Q1, c, n) (cA w (S, τ, o)) 2441 (LO w b i) [] := by
  obtain ⟨hW, hM, hS, hZ, hO, C, hX⟩ := H
  have hq0 := qOk_l hq
  rcases E51 (N := N) hL (by omega) (by omega) (xs (i + 1).toNatClampNeg) with ⟨v, S', τ', hF, hG, ht, hR⟩ | ⟨q, S', b9, τ', hq9, hF, hG, ht, hR⟩
  · exact la51N hW hM hS hZ hO C hX ⟨hp.1, rfl⟩ N hF hG ht hq0 (kk _ _ _ _ _ (LR_up hR (by omega) hT) (Nat.le_succ _) (Nat.le_add_right _ _))
  · rcases List.mem_cons.mp hq9 with rfl | hq9
    · exact la51X3 hW hM hS hZ hO C hX ⟨hp.1, rfl⟩ N hF hG ht hq (kk _ _ _ _ _ (LR_up hR (by omega) hT) (Nat.le_refl _) (Nat.le_refl _))
    · rcases List.mem_cons.mp hq9 with rfl | hq9
      · exact la51X1 hW hM hS hZ hO C hX ⟨hp.1, rfl⟩ N hF hG ht hq (kk _ _ _ _ _ (LR_up hR (by omega) hT) (Nat.le_refl _) (Nat.le_refl _))
      · exact absurd hq9 List.not_mem_nil
theorem ca_52 {w : WP} {X : CX} {b L : Nat} {xs : Nat → Int32} (H : gLB w X b L xs) {S : SS} {τ : HV} {o : Nat → Int64} {i : Int32} {Q1 : State → Prop} {c n T N : Nat} (hL : LR S τ T) (hT : T + 1800 < 2 ^ 20) (hN : 6000 < N) (hp : gIn i L) (hq : qOk X (Q1, c + 1, n + 6)) (kk : KT w X b Q1 i T c n) : gU w X (Q1, c, n) (cA w (S, τ, o)) 2497 (LO w b i) [] := by
  obtain ⟨hW, hM, hS, hZ, hO, C, hX⟩ := H
  have hq0 := qOk_l hq
  rcases E52 (N := N) hL (by omega) (by omega) (xs (i + 1).toNatClampNeg) (xs (i + 2).toNatClampNeg) with ⟨v, S', τ', hF, hG, ht, hR⟩ | ⟨q, S', b9, τ', hq9, hF, hG, ht, hR⟩
  · exact la52N hW hM hS hZ hO C hX ⟨hp.1, rfl⟩ ⟨hp.2.1, rfl⟩ N hF hG ht hq0 (kk _ _ _ _ _ (LR_up hR (by omega) hT) (Nat.le_succ _) (Nat.le_add_right _ _))
  · rcases List.mem_cons.mp hq9 with rfl | hq9
    · exact la52X3 hW hM hS hZ hO C hX ⟨hp.1, rfl⟩ ⟨hp.2.1, rfl⟩ N hF hG ht hq (kk _ _ _ _ _ (LR_up hR (by omega) hT) (Nat.le_refl _) (Nat.le_refl _))
    · rcases List.mem_cons.mp hq9 with rfl | hq9
      · exact la52X2 hW hM hS hZ hO C hX ⟨hp.1, rfl⟩ ⟨hp.2.1, rfl⟩ N hF hG ht hq (kk _ _ _ _ _ (LR_up hR (by omega) hT) (Nat.le_refl _) (Nat.le_refl _))
      · rcases List.mem_cons.mp hq9 with rfl | hq9
        · exact la52X1 hW hM hS hZ hO C hX ⟨hp.1, rfl⟩ ⟨hp.2.1, rfl⟩ N hF hG ht hq (kk _ _ _ _ _ (LR_up hR (by omega) hT) (Nat.le_refl _) (Nat.le_refl _))
        · exact absurd hq9 List.not_mem_nil
theorem ca_53 {w : WP} {X : CX} {b L : Nat} {xs : Nat → Int32} (H : gLB w X b L xs) {S : SS} {τ : HV} {o : Nat → Int64} {i : Int32} {Q1 : State → Prop} {c n T N : Nat} (hL : LR S τ T) (hT : T + 1800 < 2 ^ 20) (hN : 6000 < N) (hp : gIn i L) (hq : qOk X (Q1, c + 1, n + 6)) (kk : KT w X b Q1 i T c n) : gU w X (Q1, c, n) (cA w (S, τ, o)) 2565 (LO w b i) [] := by
  obtain ⟨hW, hM, hS, hZ, hO, C, hX⟩ := H
  have hq0 := qOk_l hq
  rcases E53 (N := N) hL (by omega) (by omega) (xs (i + 1).toNatClampNeg) (xs (i + 2).toNatClampNeg) with ⟨v, S', τ', hF, hG, ht, hR⟩ | ⟨q, S', b9, τ', hq9, hF, hG, ht, hR⟩
  · exact la53N hW hM hS hZ hO C hX ⟨hp.1, rfl⟩ ⟨hp.2.1, rfl⟩ N hF hG ht hq0 (kk _ _ _ _ _ (LR_up hR (by omega) hT) (Nat.le_succ _) (Nat.le_add_right _ _))
  · rcases List.mem_cons.mp hq9 with rfl | hq9
    · exact la53X3 hW hM hS hZ hO C hX ⟨hp.1, rfl⟩ ⟨hp.2.1, rfl⟩ N hF hG ht hq (kk _ _ _ _ _ (LR_up hR (by omega) hT) (Nat.le_refl _) (Nat.le_refl _))
    · rcases List.mem_cons.mp hq9 with rfl | hq9
      · exact la53X2 hW hM hS hZ hO C hX ⟨hp.1, rfl⟩ ⟨hp.2.1, rfl⟩ N hF hG ht hq (kk _ _ _ _ _ (LR_up hR (by omega) hT) (Nat.le_refl _) (Nat.le_refl _))
      · rcases List.mem_cons.mp hq9 with rfl | hq9
        · exact la53X1 hW hM hS hZ hO C hX ⟨hp.1, rfl⟩ ⟨hp.2.1, rfl⟩ N hF hG ht hq (kk _ _ _ _ _ (LR_up hR (by omega) hT) (Nat.le_refl _) (Nat.le_refl _))
        · exact absurd hq9 List.not_mem_nil
theorem ca_54 {w : WP} {X : CX} {b L : Nat} {xs : Nat → Int32} (H : gLB w X b L xs) {S : SS} {τ : HV} {o : Nat → Int64} {i : Int32} {Q1 : State → Prop} {c n T N : Nat} (hL : LR S τ T) (hT : T + 1800 < 2 ^ 20) (hN : 6000 < N) (hp : gIn i L) (hq : qOk X (Q1, c + 1, n + 6)) (kk : KT w X b Q1 i T c n) : gU w X (Q1, c, n) (cA w (S, τ, o)) 2633 (LO w b i) [] := by
  obtain ⟨hW, hM, hS, hZ, hO, C, hX⟩ := H
  have hq0 := qOk_l hq
  rcases E54 (N := N) hL (by omega) (by omega) (xs (i + 1).toNatClampNeg) with ⟨v, S', τ', hF, hG, ht, hR⟩ | ⟨q, S', b9, τ', hq9, hF, hG, ht, hR⟩
  · exact la54N hW hM hS hZ hO C hX ⟨hp.1, rfl⟩ N hF hG ht hq0 (kk _ _ _ _ _ (LR_up hR (by omega) hT) (Nat.le_succ _) (Nat.le_add_right _ _))
  · rcases List.mem_cons.mp hq9 with rfl | hq9
    · exact la54X2 hW hM hS hZ hO C hX ⟨hp.1, rfl⟩ N hF hG ht hq (kk _ _ _ _ _ (LR_up hR (by omega) hT) (Nat.le_refl _) (Nat.le_refl _))
    · rcases List.mem_cons.mp hq9 with rfl | hq9
      · exact la54X1 hW hM hS hZ hO C hX ⟨hp.1, rfl⟩ N hF hG ht hq (kk _ _ _ _ _ (LR_up hR (by omega) hT) (Nat.le_refl _) (Nat.le_refl _))
      · exact absurd hq9 List.not_mem_nil
theorem ca_55 {w : WP} {X : CX} {b L : Nat} {xs : Nat → Int32} (H : gLB w X b L xs) {S : SS} {τ : HV} {o : Nat → Int64} {i : Int32} {Q1 : State → Prop} {c n T N : Nat} (hL : LR S τ T) (hT : T + 1800 < 2 ^ 20) (hN : 6000 < N) (hp : gIn i L) (hq : qOk X (Q1, c + 1, n + 6)) (kk : KT w X b Q1 i T c n) : gU w X (Q1, c, n) (cA w (S, τ, o)) 2689 (LO w b i) [] := by
  obtain ⟨hW, hM, hS, hZ, hO, C, hX⟩ := H
  have hq0 := qOk_l hq
  rcases E55 (N := N) hL (by omega) (by omega) (xs (i + 1).toNatClampNeg) (xs (i + 2).toNatClampNeg) with ⟨v, S', τ', hF, hG, ht, hR⟩ | ⟨q, S', b9, τ', hq9, hF, hG, ht, hR⟩
  · exact la55N hW hM hS hZ hO C hX ⟨hp.1, rfl⟩ ⟨hp.2.1, rfl⟩ N hF hG ht hq0 (kk _ _ _ _ _ (LR_up hR (by omega) hT) (Nat.le_succ _) (Nat.le_add_right _ _))
  · rcases List.mem_cons.mp hq9 with rfl | hq9
    · exact la55X2 hW hM hS hZ hO C hX ⟨hp.1, rfl⟩ ⟨hp.2.1, rfl⟩ N hF hG ht hq (kk _ _ _ _ _ (LR_up hR (by omega) hT) (Nat.le_refl _) (Nat.le_refl _))
    · rcases List.mem_cons.mp hq9 with rfl | hq9
      · exact la55X3 hW hM hS hZ hO C hX ⟨hp.1, rfl⟩ ⟨hp.2.1, rfl⟩ N hF hG ht hq (kk _ _ _ _ _ (LR_up hR (by omega) hT) (Nat.le_refl _) (Nat.le_refl _))
      · exact absurd hq9 List.not_mem_nil
theorem ca_56 {w : WP} {X : CX} {b L : Nat} {xs : Nat → Int32} (H : gLB w X b L xs) {S : SS} {τ : HV} {o : Nat → Int64} {i : Int32} {Q1 : State → Prop} {c n T N : Nat} (hL : LR S τ T) (hT : T + 1800 < 2 ^ 20) (hN : 6000 < N) (hp : gIn i L) (hq : qOk X (Q1, c + 1, n + 6)) (kk : KT w X b Q1 i T c n) : gU w X (Q1, c, n) (cA w (S, τ, o)) 2757 (LO w b i) [] := by
  obtain ⟨hW, hM, hS, hZ, hO, C, hX⟩ := H
  have hq0 := qOk_l hq
  rcases E56 (N := N) hL (by omega) (by omega) (xs (i + 1).toNatClampNeg) with ⟨v, S', τ', hF, hG, ht, hR⟩ | ⟨q, S', b9, τ', hq9, hF, hG, ht, hR⟩
  · exact la56N hW hM hS hZ hO C hX ⟨hp.1, rfl⟩ N hF hG ht hq0 (kk _ _ _ _ _ (LR_up hR (by omega) hT) (Nat.le_succ _) (Nat.le_add_right _ _))
  · rcases List.mem_cons.mp hq9 with rfl | hq9
    · exact la56X2 hW hM hS hZ hO C hX ⟨hp.1, rfl⟩ N hF hG ht hq (kk _ _ _ _ _ (LR_up hR (by omega) hT) (Nat.le_refl _) (Nat.le_refl _))
    · exact absurd hq9 List.not_mem_nil
theorem ca_57 {w : WP} {X : CX} {b L : Nat} {xs : Nat → Int32} (H : gLB w X b L xs) {S : SS} {τ : HV} {o : Nat → Int64} {i : Int32} {Q1 : State → Prop} {c n T N : Nat} (hL : LR S τ T) (hT : T + 1800 < 2 ^ 20) (hN : 6000 < N) (hp : gIn i L) (hq : qOk X (Q1, c + 1, n + 6)) (kk : KT w X b Q1 i T c n) : gU w X (Q1, c, n) (cA w (S, τ, o)) 2813 (LO w b i) [] := by
  obtain ⟨hW, hM, hS, hZ, hO, C, hX⟩ := H
  have hq0 := qOk_l hq
  rcases E57 (N := N) hL (by omega) (by omega) (xs (i + 1).toNatClampNeg) with ⟨v, S', τ', hF, hG, ht, hR⟩ | ⟨q, S', b9, τ', hq9, hF, hG, ht, hR⟩
  · exact la57N hW hM hS hZ hO C hX ⟨hp.1, rfl⟩ N hF hG ht hq0 (kk _ _ _ _ _ (LR_up hR (by omega) hT) (Nat.le_succ _) (Nat.le_add_right _ _))
  · rcases List.mem_cons.mp hq9 with rfl | hq9
    · exact la57X2 hW hM hS hZ hO C hX ⟨hp.1, rfl⟩ N hF hG ht hq (kk _ _ _ _ _ (LR_up hR (by omega) hT) (Nat.le_refl _) (Nat.le_refl _))
    · exact absurd hq9 List.not_mem_nil
theorem ca_58 {w : WP} {X : CX} {b L : Nat} {xs : Nat → Int32} (H : gLB w X b L xs) {S : SS} {τ : HV} {o : Nat → Int64} {i : Int32} {Q1 : State → Prop} {c n T N : Nat} (hL : LR S τ T) (hT : T + 1800 < 2 ^ 20) (hN : 6000 < N) (hp : gIn i L) (hq : qOk X (Q1, c + 1, n + 6)) (kk : KT w X b Q1 i T c n) : gU w X (Q1, c, n) (cA w (S, τ, o)) 2869 (LO w b i) [] := by
  obtain ⟨hW, hM, hS, hZ, hO, C, hX⟩ := H
  have hq0 := qOk_l hq
  rcases E58 (N := N) hL (by omega) (by omega) with ⟨v, S', τ', hF, hG, ht, hR⟩ | ⟨q, S', b9, τ', hq9, hF, hG, ht, hR⟩
  · exact la58N hW hM hS hZ hO C hX N hF hG ht hq0 (kk _ _ _ _ _ (LR_up hR (by omega) hT) (Nat.le_succ _) (Nat.le_add_right _ _))
  · rcases List.mem_cons.mp hq9 with rfl | hq9
    · exact la58X1 hW hM hS hZ hO C hX N hF hG ht hq (kk _ _ _ _ _ (LR_up hR (by omega) hT) (Nat.le_refl _) (Nat.le_refl _))
    · exact absurd hq9 List.not_mem_nil
theorem ca_59 {w : WP} {X : CX} {b L : Nat} {xs : Nat → Int32} (H : gLB w X b L xs) {S : SS} {τ : HV} {o : Nat → Int64} {i : Int32} {Q1 : State → Prop} {c n T N : Nat} (hL : LR S τ T) (hT : T + 1800 < 2 ^ 20) (hN : 6000 < N) (hp : gIn i L) (hq : qOk X (Q1, c + 1, n + 6)) (kk : KT w X b Q1 i T c n) : gU w X (Q1, c, n) (cA w (S, τ, o)) 2913 (LO w b i) [] := by
  obtain ⟨hW, hM, hS, hZ, hO, C, hX⟩ := H
  have hq0 := qOk_l hq
  obtain ⟨v, S', τ', hF, hG, hR⟩ := E59 (N := N) hL (by omega) (by omega)
  exact la59N hW hM hS hZ hO C hX N hF hG hq0 (kk _ _ _ _ _ (LR_up hR (by omega) hT) (Nat.le_succ _) (Nat.le_add_right _ _))
theorem ca_60 {w : WP} {X : CX} {b L : Nat} {xs : Nat → Int32} (H : gLB w X b L xs) {S : SS} {τ : HV} {o : Nat → Int64} {i : Int32} {Q1 : State → Prop} {c n T N : Nat} (hL : LR S τ T) (hT : T + 1800 < 2 ^ 20) (hN : 6000 < N) (hp : gIn i L) (hq : qOk X (Q1, c + 1, n + 6)) (kk : KT w X b Q1 i T c n) : gU w X (Q1, c, n) (cA w (S, τ, o)) 2926 (LO w b i) [] := by
  obtain ⟨hW, hM, hS, hZ, hO, C, hX⟩ := H
  have hq0 := qOk_l hq
  rcases E60 (N := N) hL (by omega) (by omega) with ⟨v, S', τ', hF, hG, ht, hR⟩ | ⟨q, S', b9, τ', hq9, hF, hG, ht, hR⟩
  · exact la60N hW hM hS hZ hO C hX N hF hG ht hq0 (kk _ _ _ _ _ (LR_up hR (by omega) hT) (Nat.le_succ _) (Nat.le_add_right _ _))
  · rcases List.mem_cons.mp hq9 with rfl | hq9
    · exact la60X1 hW hM hS hZ hO C hX N hF hG ht hq (kk _ _ _ _ _ (LR_up hR (by omega) hT) (Nat.le_refl _) (Nat.le_refl _))
    · exact absurd hq9 List.not_mem_nil
theorem ca_61 {w : WP} {X : CX} {b L : Nat} {xs : Nat → Int32} (H : gLB w X b L xs) {S : SS} {τ : HV} {o : Nat → Int64} {i : Int32} {Q1 : State → Prop} {c n T N : Nat} (hL : LR S τ T) (hT : T + 1800 < 2 ^ 20) (hN : 6000 < N) (hp : gIn i L) (hq : qOk X (Q1, c + 1, n + 6)) (kk : KT w X b Q1 i T c n) : gU w X (Q1, c, n) (cA w (S, τ, o)) 2970 (LO w b i) [] := by
  obtain ⟨hW, hM, hS, hZ, hO, C, hX⟩ := H
  have hq0 := qOk_l hq
  obtain ⟨v, S', τ', hF, hG, hR⟩ := E61 (N := N) hL (by omega) (by omega)
  exact la61N hW hM hS hZ hO C hX N hF hG hq0 (kk _ _ _ _ _ (LR_up hR (by omega) hT) (Nat.le_succ _) (Nat.le_add_right _ _))
theorem ca_62 {w : WP} {X : CX} {b L : Nat} {xs : Nat → Int32} (H : gLB w X b L xs) {S : SS} {τ : HV} {o : Nat → Int64} {i : Int32} {Q1 : State → Prop} {c n T N : Nat} (hL : LR S τ T) (hT : T + 1800 < 2 ^ 20) (hN : 6000 < N) (hp : gIn i L) (hq : qOk X (Q1, c + 1, n + 6)) (kk : KT w X b Q1 i T c n) : gU w X (Q1, c, n) (cA w (S, τ, o)) 2983 (LO w b i) [] := by
  obtain ⟨hW, hM, hS, hZ, hO, C, hX⟩ := H
  have hq0 := qOk_l hq
  obtain ⟨v, hF, hG⟩ := E62 hL (xs (i + 1).toNatClampNeg)
  exact la62N hW hM hS hZ hO C hX ⟨hp.1, rfl⟩ hF hG hq0 (kk _ _ _ _ _ (LR_l hL 0 hT) (Nat.le_succ _) (Nat.le_add_right _ _))
theorem cb_0 {w : WP} {X : CX} {b L : Nat} {xs : Nat → Int32} (H : gLB w X b L xs) {S : SS} {τ : HV} {o : Nat → Int64} {i : Int32} {Q1 : State → Prop} {c n T N : Nat} (hL : LR S τ T) (hT : T + 1800 < 2 ^ 20) (hN : 6000 < N) (hp : gIn i L) (hq : qOk X (Q1, c + 1, n + 6)) (kk : KT w X b Q1 i T c n) {r : Nat} (hr : r < 8) {x : Int32} (e : x = nI (0 + r)) : gU w X (Q1, c, n) (cA w (S, τ, o)) 40 (LO w b i) [.int x] := by
  have C := H.2.2.2.2.2.1
  match r, hr with
  | 0, _ => exact r_tabIn C (v := nI 0) (tgt := 308) e dL_law_40 (by decide) (by decide) rfl rfl (ca_0 H hL hT hN hp hq kk)
  | 1, _ => exact r_tabIn C (v := nI 1) (tgt := 412) e dL_law_40 (by decide) (by decide) rfl rfl (ca_1 H hL hT hN hp hq kk)
  | 2, _ => exact r_tabIn C (v := nI 2) (tgt := 468) e dL_law_40 (by decide) (by decide) rfl rfl (ca_2 H hL hT hN hp hq kk)
  | 3, _ => exact r_tabIn C (v := nI 3) (tgt := 512) e dL_law_40 (by decide) (by decide) rfl rfl (ca_3 H hL hT hN hp hq kk)
  | 4, _ => exact r_tabIn C (v := nI 4) (tgt := 556) e dL_law_40 (by decide) (by decide) rfl rfl (ca_4 H hL hT hN hp hq kk)
  | 5, _ => exact r_tabIn C (v := nI 5) (tgt := 569) e dL_law_40 (by decide) (by decide) rfl rfl (ca_5 H hL hT hN hp hq kk)
  | 6, _ => exact r_tabIn C (v := nI 6) (tgt := 582) e dL_law_40 (by decide) (by decide) rfl rfl (ca_6 H hL hT hN hp hq kk)
  | 7, _ => exact r_tabIn C (v := nI 7) (tgt := 595) e dL_law_40 (by decide) (by decide) rfl rfl (ca_7 H hL hT hN hp hq kk)
  | r + 8, h => exact absurd h (by omega)
theorem cb_1 {w : WP} {X : CX} {b L : Nat} {xs : Nat → Int32} (H : gLB w X b L xs) {S : SS} {τ : HV} {o : Nat → Int64} {i : Int32} {Q1 : State → Prop} {c n T N : Nat} (hL : LR S τ T) (hT : T + 1800 < 2 ^ 20) (hN : 6000 < N) (hp : gIn i L) (hq : qOk X (Q1, c + 1, n + 6)) (kk : KT w X b Q1 i T c n) {r : Nat} (hr : r < 8) {x : Int32} (e : x = nI (8 + r)) : gU w X (Q1, c, n) (cA w (S, τ, o)) 40 (LO w b i) [.int x] := by
  have C := H.2.2.2.2.2.1
  match r, hr with
  | 0, _ => exact r_tabIn C (v := nI 8) (tgt := 608) e dL_law_40 (by decide) (by decide) rfl rfl (ca_8 H hL hT hN hp hq kk)
  | 1, _ => exact r_tabIn C (v := nI 9) (tgt := 621) e dL_law_40 (by decide) (by decide) rfl rfl (ca_9 H hL hT hN hp hq kk)
  | 2, _ => exact r_tabIn C (v := nI 10) (tgt := 634) e dL_law_40 (by decide) (by decide) rfl rfl (ca_10 H hL hT hN hp hq kk)
  | 3, _ => exact r_tabIn C (v := nI 11) (tgt := 647) e dL_law_40 (by decide) (by decide) rfl rfl (ca_11 H hL hT hN hp hq kk)
  | 4, _ => exact r_tabIn C (v := nI 12) (tgt := 660) e dL_law_40 (by decide) (by decide) rfl rfl (ca_12 H hL hT hN hp hq kk)
  | 5, _ => exact r_tabIn C (v := nI 13) (tgt := 716) e dL_law_40 (by decide) (by decide) rfl rfl (ca_13 H hL hT hN hp hq kk)
  | 6, _ => exact r_tabIn C (v := nI 14) (tgt := 772) e dL_law_40 (by decide) (by decide) rfl rfl (ca_14 H hL hT hN hp hq kk)
  | 7, _ => exact r_tabIn C (v := nI 15) (tgt := 828) e dL_law_40 (by decide) (by decide) rfl rfl (ca_15 H hL hT hN hp hq kk)
  | r + 8, h => exact absurd h (by omega)
theorem cb_2 {w : WP} {X : CX} {b L : Nat} {xs : Nat → Int32} (H : gLB w X b L xs) {S : SS} {τ : HV} {o : Nat → Int64} {i : Int32} {Q1 : State → Prop} {c n T N : Nat} (hL : LR S τ T) (hT : T + 1800 < 2 ^ 20) (hN : 6000 < N) (hp : gIn i L) (hq : qOk X (Q1, c + 1, n + 6)) (kk : KT w X b Q1 i T c n) {r : Nat} (hr : r < 8) {x : Int32} (e : x = nI (16 + r)) : gU w X (Q1, c, n) (cA w (S, τ, o)) 40 (LO w b i) [.int x] := by
  have C := H.2.2.2.2.2.1
  match r, hr with
  | 0, _ => exact r_tabIn C (v := nI 16) (tgt := 891) e dL_law_40 (by decide) (by decide) rfl rfl (ca_16 H hL hT hN hp hq kk)
  | 1, _ => exact r_tabIn C (v := nI 17) (tgt := 947) e dL_law_40 (by decide) (by decide) rfl rfl (ca_17 H hL hT hN hp hq kk)
  | 2, _ => exact r_tabIn C (v := nI 18) (tgt := 1010) e dL_law_40 (by decide) (by decide) rfl rfl (ca_18 H hL hT hN hp hq kk)
  | 3, _ => exact r_tabIn C (v := nI 19) (tgt := 1023) e dL_law_40 (by decide) (by decide) rfl rfl (ca_19 H hL hT hN hp hq kk)
  | 4, _ => exact r_tabIn C (v := nI 20) (tgt := 1079) e dL_law_40 (by decide) (by decide) rfl rfl (ca_20 H hL hT hN hp hq kk)
  | 5, _ => exact r_tabIn C (v := nI 21) (tgt := 1159) e dL_law_40 (by decide) (by decide) rfl rfl (ca_21 H hL hT hN hp hq kk)
  | 6, _ => exact r_tabIn C (v := nI 22) (tgt := 1215) e dL_law_40 (by decide) (by decide) rfl rfl (ca_22 H hL hT hN hp hq kk)
  | 7, _ => exact r_tabIn C (v := nI 23) (tgt := 1271) e dL_law_40 (by decide) (by decide) rfl rfl (ca_23 H hL hT hN hp hq kk)
  | r + 8, h => exact absurd h (by omega)
theorem cb_3 {w : WP} {X : CX} {b L : Nat} {xs : Nat → Int32} (H : gLB w X b L xs) {S : SS} {τ : HV} {o : Nat → Int64} {i : Int32} {Q1 : State → Prop} {c n T N : Nat} (hL : LR S τ T) (hT : T + 1800 < 2 ^ 20) (hN : 6000 < N) (hp : gIn i L) (hq : qOk X (Q1, c + 1, n + 6)) (kk : KT w X b Q1 i T c n) {r : Nat} (hr : r < 8) {x : Int32} (e : x = nI (24 + r)) : gU w X (Q1, c, n) (cA w (S, τ, o)) 40 (LO w b i) [.int x] := by
  have C := H.2.2.2.2.2.1
  match r, hr with
  | 0, _ => exact r_tabIn C (v := nI 24) (tgt := 1327) e dL_law_40 (by decide) (by decide) rfl rfl (ca_24 H hL hT hN hp hq kk)
  | 1, _ => exact r_tabIn C (v := nI 25) (tgt := 1383) e dL_law_40 (by decide) (by decide) rfl rfl (ca_25 H hL hT hN hp hq kk)
  | 2, _ => exact r_tabIn C (v := nI 26) (tgt := 1396) e dL_law_40 (by decide) (by decide) rfl rfl (ca_26 H hL hT hN hp hq kk)
  | 3, _ => exact r_tabIn C (v := nI 27) (tgt := 1421) e dL_law_40 (by decide) (by decide) rfl rfl (ca_27 H hL hT hN hp hq kk)
  | 4, _ => exact r_tabIn C (v := nI 28) (tgt := 1477) e dL_law_40 (by decide) (by decide) rfl rfl (ca_28 H hL hT hN hp hq kk)
  | 5, _ => exact r_tabIn C (v := nI 29) (tgt := 1533) e dL_law_40 (by decide) (by decide) rfl rfl (ca_29 H hL hT hN hp hq kk)
  | 6, _ => exact r_tabIn C (v := nI 30) (tgt := 1589) e dL_law_40 (by decide) (by decide) rfl rfl (ca_30 H hL hT hN hp hq kk)
  | 7, _ => exact r_tabIn C (v := nI 31) (tgt := 1645) e dL_law_40 (by decide) (by decide) rfl rfl (ca_31 H hL hT hN hp hq kk)
  | r + 8, h => exact absurd h (by omega)
theorem cb_4 {w : WP} {X : CX} {b L : Nat} {xs : Nat → Int32} (H : gLB w X b L xs) {S : SS} {τ : HV} {o : Nat → Int64} {i : Int32} {Q1 : State → Prop} {c n T N : Nat} (hL : LR S τ T) (hT : T + 1800 < 2 ^ 20) (hN : 6000 < N) (hp : gIn i L) (hq : qOk X (Q1, c + 1, n + 6)) (kk : KT w X b Q1 i T c n) {r : Nat} (hr : r < 8) {x : Int32} (e : x = nI (32 + r)) : gU w X (Q1, c, n) (cA w (S, τ, o)) 40 (LO w b i) [.int x] := by
  have C := H.2.2.2.2.2.1
  match r, hr with
  | 0, _ => exact r_tabIn C (v := nI 32) (tgt := 1701) e dL_law_40 (by decide) (by decide) rfl rfl (ca_32 H hL hT hN hp hq kk)
  | 1, _ => exact r_tabIn C (v := nI 33) (tgt := 1714) e dL_law_40 (by decide) (by decide) rfl rfl (ca_33 H hL hT hN hp hq kk)
  | 2, _ => exact r_tabIn C (v := nI 34) (tgt := 1770) e dL_law_40 (by decide) (by decide) rfl rfl (ca_34 H hL hT hN hp hq kk)
  | 3, _ => exact r_tabIn C (v := nI 35) (tgt := 1838) e dL_law_40 (by decide) (by decide) rfl rfl (ca_35 H hL hT hN hp hq kk)
  | 4, _ => exact r_tabIn C (v := nI 36) (tgt := 1906) e dL_law_40 (by decide) (by decide) rfl rfl (ca_36 H hL hT hN hp hq kk)
  | 5, _ => exact r_tabIn C (v := nI 37) (tgt := 1919) e dL_law_40 (by decide) (by decide) rfl rfl (ca_37 H hL hT hN hp hq kk)
  | 6, _ => exact r_tabIn C (v := nI 38) (tgt := 1987) e dL_law_40 (by decide) (by decide) rfl rfl (ca_38 H hL hT hN hp hq kk)
  | 7, _ => exact r_tabIn C (v := nI 39) (tgt := 2043) e dL_law_40 (by decide) (by decide) rfl rfl (ca_39 H hL hT hN hp hq kk)
  | r + 8, h => exact absurd h (by omega)
theorem cb_5 {w : WP} {X : CX} {b L : Nat} {xs : Nat → Int32} (H : gLB w X b L xs) {S : SS} {τ : HV} {o : Nat → Int64} {i : Int32} {Q1 : State → Prop} {c n T N : Nat} (hL : LR S τ T) (hT : T + 1800 < 2 ^ 20) (hN : 6000 < N) (hp : gIn i L) (hq : qOk X (Q1, c + 1, n + 6)) (kk : KT w X b Q1 i T c n) {r : Nat} (hr : r < 8) {x : Int32} (e : x = nI (40 + r)) : gU w X (Q1, c, n) (cA w (S, τ, o)) 40 (LO w b i) [.int x] := by
  have C := H.2.2.2.2.2.1
  match r, hr with
  | 0, _ => exact r_tabIn C (v := nI 40) (tgt := 2099) e dL_law_40 (by decide) (by decide) rfl rfl (ca_40 H hL hT hN hp hq kk)
  | 1, _ => exact r_tabIn C (v := nI 41) (tgt := 2155) e dL_law_40 (by decide) (by decide) rfl rfl (ca_41 H hL hT hN hp hq kk)
  | 2, _ => exact r_tabIn C (v := nI 42) (tgt := 2211) e dL_law_40 (by decide) (by decide) rfl rfl (ca_42 H hL hT hN hp hq kk)
  | 3, _ => exact r_tabIn C (v := nI 43) (tgt := 2224) e dL_law_40 (by decide) (by decide) rfl rfl (ca_43 H hL hT hN hp hq kk)
  | 4, _ => exact r_tabIn C (v := nI 44) (tgt := 2237) e dL_law_40 (by decide) (by decide) rfl rfl (ca_44 H hL hT hN hp hq kk)
  | 5, _ => exact r_tabIn C (v := nI 45) (tgt := 2250) e dL_law_40 (by decide) (by decide) rfl rfl (ca_45 H hL hT hN hp hq kk)
  | 6, _ => exact r_tabIn C (v := nI 46) (tgt := 2263) e dL_law_40 (by decide) (by decide) rfl rfl (ca_46 H hL hT hN hp hq kk)
  | 7, _ => exact r_tabIn C (v := nI 47) (tgt := 2276) e dL_law_40 (by decide) (by decide) rfl rfl (ca_47 H hL hT hN hp hq kk)
  | r + 8, h => exact absurd h (by omega)
theorem cb_6 {w : WP} {X : CX} {b L : Nat} {xs : Nat → Int32} (H : gLB w X b L xs) {S : SS} {τ : HV} {o : Nat → Int64} {i : Int32} {Q1 : State → Prop} {c n T N : Nat} (hL : LR S τ T) (hT : T + 1800 < 2 ^ 20) (hN : 6000 < N) (hp : gIn i L) (hq : qOk X (Q1, c + 1, n + 6)) (kk : KT w X b Q1 i T c n) {r : Nat} (hr : r < 8) {x : Int32} (e : x = nI (48 + r)) : gU w X (Q1, c, n) (cA w (S, τ, o)) 40 (LO w b i) [.int x] := by
  have C := H.2.2.2.2.2.1
  match r, hr with
  | 0, _ => exact r_tabIn C (v := nI 48) (tgt := 2289) e dL_law_40 (by decide) (by decide) rfl rfl (ca_48 H hL hT hN hp hq kk)
  | 1, _ => exact r_tabIn C (v := nI 49) (tgt := 2332) e dL_law_40 (by decide) (by decide) rfl rfl (ca_49 H hL hT hN hp hq kk)
  | 2, _ => exact r_tabIn C (v := nI 50) (tgt := 2373) e dL_law_40 (by decide) (by decide) rfl rfl (ca_50 H hL hT hN hp hq kk)
  | 3, _ => exact r_tabIn C (v := nI 51) (tgt := 2441) e dL_law_40 (by decide) (by decide) rfl rfl (ca_51 H hL hT hN hp hq kk)
  | 4, _ => exact r_tabIn C (v := nI 52) (tgt := 2497) e dL_law_40 (by decide) (by decide) rfl rfl (ca_52 H hL hT hN hp hq kk)
  | 5, _ => exact r_tabIn C (v := nI 53) (tgt := 2565) e dL_law_40 (by decide) (by decide) rfl rfl (ca_53 H hL hT hN hp hq kk)
  | 6, _ => exact r_tabIn C (v := nI 54) (tgt := 2633) e dL_law_40 (by decide) (by decide) rfl rfl (ca_54 H hL hT hN hp hq kk)
  | 7, _ => exact r_tabIn C (v := nI 55) (tgt := 2689) e dL_law_40 (by decide) (by decide) rfl rfl (ca_55 H hL hT hN hp hq kk)
  | r + 8, h => exact absurd h (by omega)
theorem cb_7 {w : WP} {X : CX} {b L : Nat} {xs : Nat → Int32} (H : gLB w X b L xs) {S : SS} {τ : HV} {o : Nat → Int64} {i : Int32} {Q1 : State → Prop} {c n T N : Nat} (hL : LR S τ T) (hT : T + 1800 < 2 ^ 20) (hN : 6000 < N) (hp : gIn i L) (hq : qOk X (Q1, c + 1, n + 6)) (kk : KT w X b Q1 i T c n) {r : Nat} (hr : r < 8) {x : Int32} (e : x = nI (56 + r)) : gU w X (Q1, c, n) (cA w (S, τ, o)) 40 (LO w b i) [.int x] := by
  have C := H.2.2.2.2.2.1
  match r, hr with
  | 0, _ => exact r_tabIn C (v := nI 56) (tgt := 2757) e dL_law_40 (by decide) (by decide) rfl rfl (ca_56 H hL hT hN hp hq kk)
  | 1, _ => exact r_tabIn C (v := nI 57) (tgt := 2813) e dL_law_40 (by decide) (by decide) rfl rfl (ca_57 H hL hT hN hp hq kk)
  | 2, _ => exact r_tabIn C (v := nI 58) (tgt := 2869) e dL_law_40 (by decide) (by decide) rfl rfl (ca_58 H hL hT hN hp hq kk)
  | 3, _ => exact r_tabIn C (v := nI 59) (tgt := 2913) e dL_law_40 (by decide) (by decide) rfl rfl (ca_59 H hL hT hN hp hq kk)
  | 4, _ => exact r_tabIn C (v := nI 60) (tgt := 2926) e dL_law_40 (by decide) (by decide) rfl rfl (ca_60 H hL hT hN hp hq kk)
  | 5, _ => exact r_tabIn C (v := nI 61) (tgt := 2970) e dL_law_40 (by decide) (by decide) rfl rfl (ca_61 H hL hT hN hp hq kk)
  | 6, _ => exact r_tabIn C (v := nI 62) (tgt := 2983) e dL_law_40 (by decide) (by decide) rfl rfl (ca_62 H hL hT hN hp hq kk)
  | 7, _ => exact r_tabOut C (tgt := 3008) dL_law_40 (Or.inr (by rw [e]; decide)) rfl (kk _ _ _ _ _ (LR_up hL (by omega) hT) (Nat.le_succ _) (Nat.le_add_right _ _))
  | r + 8, h => exact absurd h (by omega)
theorem an_63 (x : Int32) : ∃ k, k < 64 ∧ x &&& 63 = nI k := by
  have h1 : (x.toBitVec &&& 63#32).toNat = x.toBitVec.toNat % 64 := by
    rw [BitVec.toNat_and]
    exact Nat.and_two_pow_sub_one_eq_mod _ 6
  refine ⟨x.toBitVec.toNat % 64, Nat.mod_lt _ (by decide), ?_⟩
  apply Int32.toBitVec_inj.mp
  apply BitVec.eq_of_toNat_eq
  have key : ∀ m, m < 64 → (nI m).toBitVec.toNat = m := fun m hm => by
    show (BitVec.ofNat 32 m).toNat = m
    rw [BitVec.toNat_ofNat]
    exact Nat.mod_eq_of_lt (by omega)
  rw [key _ (Nat.mod_lt _ (by decide))]
  exact h1
theorem ca_all {w : WP} {X : CX} {b L : Nat} {xs : Nat → Int32} (H : gLB w X b L xs) {S : SS} {τ : HV} {o : Nat → Int64} {i : Int32} {Q1 : State → Prop} {c n T N : Nat} (hL : LR S τ T) (hT : T + 1800 < 2 ^ 20) (hN : 6000 < N) (hp : gIn i L) (hq : qOk X (Q1, c + 1, n + 6)) (kk : KT w X b Q1 i T c n) (x : Int32) : gU w X (Q1, c, n) (cA w (S, τ, o)) 40 (LO w b i) [.int (x &&& 63)] := by
  obtain ⟨k, hk, e⟩ := an_63 x
  have hr : k % 8 < 8 := Nat.mod_lt _ (by decide)
  have hj : k / 8 < 8 := by omega
  have hkk : k = 8 * (k / 8) + k % 8 := by omega
  generalize k % 8 = r at hr hkk
  generalize k / 8 = j at hj hkk
  subst hkk
  match j, hj with
  | 0, _ => exact cb_0 H hL hT hN hp hq kk hr (by rw [e])
  | 1, _ => exact cb_1 H hL hT hN hp hq kk hr (by rw [e])
  | 2, _ => exact cb_2 H hL hT hN hp hq kk hr (by rw [e])
  | 3, _ => exact cb_3 H hL hT hN hp hq kk hr (by rw [e])
  | 4, _ => exact cb_4 H hL hT hN hp hq kk hr (by rw [e])
  | 5, _ => exact cb_5 H hL hT hN hp hq kk hr (by rw [e])
  | 6, _ => exact cb_6 H hL hT hN hp hq kk hr (by rw [e])
  | 7, _ => exact cb_7 H hL hT hN hp hq kk hr (by rw [e])
  | j + 8, h => exact absurd h (by omega)
/-- the loop: whatever stands there, the two machines agree -/
theorem lw_loop {w : WP} {X : CX} {b L : Nat} {xs : Nat → Int32} (H : gLB w X b L xs) (hL3 : L ≤ 3072) {Q1 : State → Prop} (hroom : ∀ c n, c ≤ 4096 → n ≤ 60000 → qOk X (Q1, c, n)) (hend : ∀ (S : SS) (τ : HV) (o : Nat → Int64) (c n : Nat) (i : Int32), c ≤ 4096 → n ≤ 60000 → gU w X (Q1, c, n) (cA w (S, τ, o)) 3014 (LO w b i) []) : ∀ (m i : Nat) (S : SS) (τ : HV) (o : Nat → Int64) (c n T : Nat), i ≤ L + 5 → L < i + 6 * m → LR S τ T → T ≤ 300 * i → c ≤ 341 + i → n ≤ 17300 + 6 * i → gU w X (Q1, c, n) (cA w (S, τ, o)) 23 (LO w b (nI i)) [] := by
  have C := H.2.2.2.2.2.1
  have hX := H.2.2.2.2.2.2
  have gt : ∀ i, i ≤ L + 5 → (nI L - 6 < nI i) = (L < i + 6) := fun i hi => by
    apply propext
    rw [show (6 : Int32) = nI 6 from rfl, Int32.lt_iff_toInt_lt, pk_sub_toInt (by omega) (by omega), nI_toInt (by omega)]
    omega
  intro m
  induction m with
  | zero =>
    intro i S τ o c n T hi hm hL hT hc hn
    refine r_iload C (k := 0) rfl dL_law_23 ?_
    refine r_aload_n C (k := 1) rfl rfl dL_law_25 ?_
    refine r_slen C hX dL_law_26 ?_
    refine r_bipush C (v := 6) rfl dL_law_27 ?_
    refine r_isub C dL_law_29 ?_
    refine r_icmp_gt C (tgt := 3014) rfl dL_law_30 (fun _ => hend S τ o c n (nI i) (by omega) (by omega)) (fun h => absurd ?_ h)
    rw [gt i hi]
    omega
  | succ m ih =>
    intro i S τ o c n T hi hm hL hT hc hn
    refine r_iload C (k := 0) rfl dL_law_23 ?_
    refine r_aload_n C (k := 1) rfl rfl dL_law_25 ?_
    refine r_slen C hX dL_law_26 ?_
    refine r_bipush C (v := 6) rfl dL_law_27 ?_
    refine r_isub C dL_law_29 ?_
    refine r_icmp_gt C (tgt := 3014) rfl dL_law_30 (fun _ => hend S τ o c n (nI i) (by omega) (by omega)) (fun h => ?_)
    rw [gt i hi] at h
    have hin : ∀ k, k < 6 → vp_in (nI (i + k)) L := fun k hk => vp_in_nI (by omega) (by omega)
    refine r_aload_n C (k := 1) rfl rfl dL_law_33 ?_
    refine r_iload C (k := 0) rfl dL_law_34 ?_
    refine r_sld C hX (v := xs (nI i).toNatClampNeg) (hin 0 (by decide)) rfl dL_law_36 ?_
    refine r_bipush C (v := 63) rfl dL_law_37 ?_
    refine r_iand C dL_law_39 ?_
    refine ca_all (N := 6001) H hL (by omega) (by decide) ⟨?_, ?_, ?_, ?_, ?_⟩ (hroom _ _ (by omega) (by omega)) (fun S' τ' o' c' n' hL' hc' hn' => ?_) _
    · rw [show (1 : Int32) = nI 1 from rfl, Z_add]; exact hin 1 (by decide)
    · rw [show (2 : Int32) = nI 2 from rfl, Z_add]; exact hin 2 (by decide)
    · rw [show (3 : Int32) = nI 3 from rfl, Z_add]; exact hin 3 (by decide)
    · rw [show (4 : Int32) = nI 4 from rfl, Z_add]; exact hin 4 (by decide)
    · rw [show (5 : Int32) = nI 5 from rfl, Z_add]; exact hin 5 (by decide)
    · refine r_iinc C (k := 0) (v := nI (i + 6)) (lo' := LO w b (nI (i + 6))) rfl (show nI i + Int32.ofInt 6 = nI (i + 6) from nI_add i 6) (by decide) rfl dL_law_3008 ?_
      refine r_goto C (tgt := 23) rfl dL_law_3011 ?_
      exact ih (i + 6) S' τ' o' c' n' (T + 1800) (by omega) (by omega) hL' (by omega) (by omega) (by omega)
