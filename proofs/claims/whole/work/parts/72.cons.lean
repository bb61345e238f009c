/-! ===== cons 3: a gardener ===== -/
def Om0 : OM := (fun _ _ => (fun _ => 0, fun _ _ => 0), (fun _ => 0, fun _ _ => 0), fun _ => 0)
/-- the ids J are as in the beginning, the others as ct has them -/
noncomputable def cN (w : WP) (J : ID → Prop) (ct : CT) : CT := fun i => @ite _ (J i) (Classical.propDecidable _) (cA w Om0 i) (ct i)
theorem cN_in {w : WP} {J : ID → Prop} {ct : CT} {i : ID} (h : J i) : cN w J ct i = cA w Om0 i := by
  unfold cN
  exact @if_pos _ (Classical.propDecidable _) h _ _ _
theorem cN_out {w : WP} {J : ID → Prop} {ct : CT} {i : ID} (h : ¬ J i) : cN w J ct i = ct i := by
  unfold cN
  exact @if_neg _ (Classical.propDecidable _) h _ _ _
theorem upE_s {ct : CT} {i : ID} {e : va_E} : upE ct i e i = e := if_pos rfl
theorem upE_n {ct : CT} {i k : ID} {e : va_E} (h : k ≠ i) : upE ct i e k = ct k := if_neg h
def IR (j p a : Nat) : ID → Prop := fun z => one (3, j, p, a) z ∨ one (4, j, p, a) z
def IG (j p : Nat) : ID → Prop := fun z => IR j p 0 z ∨ IR j p 1 z
def JG (j p : Nat) : ID → Prop := fun z => z = (1, j, p, 0) ∨ IG j p z
def fsG : List Value := [.null, .null, .int 0, .int 0, .int 0, .int 0, .int 0, .int 0, .int 0, .int 0]
theorem dX4_init_0 : decode cX4_init 0 = .ok (.aload_n 0, 1) := by decide +kernel
theorem dX4_init_1 : decode cX4_init 1 = .ok (.invokespecial 3, 3) := by decide +kernel
theorem dX4_init_4 : decode cX4_init 4 = .ok (.aload_n 0, 1) := by decide +kernel
theorem dX4_init_5 : decode cX4_init 5 = .ok (.new 9, 3) := by decide +kernel
theorem dX4_init_8 : decode cX4_init 8 = .ok (.dup, 1) := by decide +kernel
theorem dX4_init_9 : decode cX4_init 9 = .ok (.bipush 96, 2) := by decide +kernel
theorem dX4_init_11 : decode cX4_init 11 = .ok (.invokespecial 11, 3) := by decide +kernel
theorem dX4_init_14 : decode cX4_init 14 = .ok (.putfield 14, 3) := by decide +kernel
theorem dX4_init_17 : decode cX4_init 17 = .ok (.aload_n 0, 1) := by decide +kernel
theorem dX4_init_18 : decode cX4_init 18 = .ok (.new 9, 3) := by decide +kernel
theorem dX4_init_21 : decode cX4_init 21 = .ok (.dup, 1) := by decide +kernel
theorem dX4_init_22 : decode cX4_init 22 = .ok (.bipush 8, 2) := by decide +kernel
theorem dX4_init_24 : decode cX4_init 24 = .ok (.invokespecial 11, 3) := by decide +kernel
theorem dX4_init_27 : decode cX4_init 27 = .ok (.putfield 20, 3) := by decide +kernel
theorem dX4_init_30 : decode cX4_init 30 = .ok (.return_, 1) := by decide +kernel
theorem myX4_init : gYI yX4_init cX4_init 1 0 := ⟨wm1_55, wm1_4, ⟨by decide, by decide, by decide +kernel⟩, wm1_54, rfl⟩
theorem c_X4_init {w : WP} (hD : gD w) (hY : gY w) {j p : Nat} (hp : p = 1 ∨ p = 2) (h0 : wFr w (1, j, p, 0)) (hn : ∀ z, IG j p z → ¬ wOk w z) {b : Nat} (hb : wAd w (1, j, p, 0) = b) {ct : CT} (hct : ct (1, j, p, 0) = .inr (1, fsG)) : gMn w 2 yX4_init cX4_init 1 [.ref b] ct (IG j p) (fun ad => cN (wM w (IG j p) ad) (JG j p) ct) 4 106 := by
  refine gMn_of "HedgeMessages$Gardener" rfl rfl (by decide) (kR rfl) fun X C hT => ?_
  have hq : ∀ c n, c ≤ 4 → n ≤ 106 → qOk X ((qN1 w X (IG j p) (fun ad => cN (wM w (IG j p) ad) (JG j p) ct) 4 106), c, n) := by
    intro c n hc hn
    obtain ⟨p, e, R, s, m, args, below, meth, c9, nn, A⟩ := X
    exact ⟨Nat.le_trans hc hT.1, Nat.le_trans hn hT.2.1⟩
  have h0o := hD.2.1 _ h0
  show gU w X _ _ 0 [(0, .ref b)] []
  refine r_aload_n C (k := 0) rfl rfl dX4_init_0 ?_
  refine r_objInit C wm1_56 (kR rfl) (kR rfl) dX4_init_1 ?_
  refine n_row C hT hY (kR rfl) F4 0 (1, j, p, 0) (3, j, p, 0) (4, j, p, 0) h0 (hn _ (Or.inl (Or.inl rfl))) (hn _ (Or.inl (Or.inr rfl))) (by intro h; cases h) hb hct (by decide) wm1_59 rfl rfl rfl (kR rfl) wm1_57 rfl wm1_58 (n := 96) (by decide) (by decide) rfl (l := 2) dX4_init_4 dX4_init_5 dX4_init_8 (fun C9 k9 => r_bipush C9 (v := nI 96) rfl dX4_init_9 k9) dX4_init_11 dX4_init_14 (hq _ _ (by decide) (by decide)) fun ad1 hag1 hbh1 C1 => ?_
  have hD1 : gD (wM w (IR j p 0) ad1) := by
    obtain ⟨p, e, R, s, m, args, below, meth, c9, nn, A⟩ := X
    exact C1.2.2.2.2.2.1
  have hn1 : ∀ z, IR j p 1 z → ¬ wOk (wM w (IR j p 0) ad1) z := by
    intro z hz h
    rcases h with h | h
    · exact hn z (Or.inr hz) h
    · rcases hz with hz | hz <;> rcases h with h | h <;> · rw [hz] at h; cases h
  refine n_row (w := wM w (IR j p 0) ad1) C1 hT hY (kR rfl) F4 1 (1, j, p, 0) (3, j, p, 1) (4, j, p, 1) (Or.inl h0) (hn1 _ (Or.inl rfl)) (hn1 _ (Or.inr rfl)) (by intro h; cases h) ((hag1 _ h0o).trans hb) upE_s (by decide) wm1_61 rfl rfl rfl (kR rfl) wm1_57 rfl wm1_58 (n := 8) (by decide) (by decide) rfl (l := 2) dX4_init_17 dX4_init_18 dX4_init_21 (fun C9 k9 => r_bipush C9 (v := nI 8) rfl dX4_init_22 k9) dX4_init_24 dX4_init_27 (hq _ _ (by decide) (by decide)) fun ad2 hag2 hbh2 C2 => ?_
  have hagF : gAg w ad2 := gAg_M hag1 hag2
  have hbhF : gBh X (IG j p) ad2 := gBh_M hbh1 hag2 hbh2
  have e3 : ad1 (3, j, p, 0) = ad2 (3, j, p, 0) := (hag2 _ (Or.inr (Or.inl rfl))).symm
  have e4 : ad1 (4, j, p, 0) = ad2 (4, j, p, 0) := (hag2 _ (Or.inr (Or.inr rfl))).symm
  change gC (wM (wM w (IR j p 0) ad1) (IR j p 1) ad2) X cX4_init "HedgeMessages$Gardener" none 2 1 at C2
  change gU (wM (wM w (IR j p 0) ad1) (IR j p 1) ad2) _ _ _ _ _ _
  rw [wM_M] at C2
  rw [wM_M]
  refine r_nend (w := w) (w2 := wM w (IG j p) ad2) (I := IG j p) rfl rfl C2 hD (fun _ h => h) hagF hbhF (fun i _ => ?_) dX4_init_30
  by_cases hi : JG j p i
  · rw [cN_in hi]
    rcases hi with rfl | (rfl | rfl) | rfl | rfl
    · rw [upE_s, e3]
      rfl
    · rw [upE_n (by intro h; cases h), upE_n (by intro h; cases h), upE_n (by intro h; cases h), upE_n (by intro h; cases h), upE_s, e4]
      rfl
    · rw [upE_n (by intro h; cases h), upE_n (by intro h; cases h), upE_n (by intro h; cases h), upE_n (by intro h; cases h), upE_n (by intro h; cases h), upE_s]
      rcases hp with rfl | rfl <;> rfl
    · rw [upE_n (by intro h; cases h), upE_s]
      rfl
    · rw [upE_n (by intro h; cases h), upE_n (by intro h; cases h), upE_s]
      rcases hp with rfl | rfl <;> rfl
  · rw [cN_out hi]
    have k0 : i ≠ (1, j, p, 0) := fun h => hi (Or.inl h)
    have k1 : i ≠ (3, j, p, 0) := fun h => hi (Or.inr (Or.inl (Or.inl h)))
    have k2 : i ≠ (4, j, p, 0) := fun h => hi (Or.inr (Or.inl (Or.inr h)))
    have k3 : i ≠ (3, j, p, 1) := fun h => hi (Or.inr (Or.inr (Or.inl h)))
    have k4 : i ≠ (4, j, p, 1) := fun h => hi (Or.inr (Or.inr (Or.inr h)))
    rw [upE_n k0, upE_n k3, upE_n k4, upE_n k0, upE_n k1, upE_n k2]
