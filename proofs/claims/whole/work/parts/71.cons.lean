/-! ===== cons 2: constructors of the class ===== -/
theorem dX8_init_0 : decode cX8_init 0 = .ok (.aload_n 0, 1) := by decide +kernel
theorem dX8_init_1 : decode cX8_init 1 = .ok (.invokespecial 1, 3) := by decide +kernel
theorem dX8_init_4 : decode cX8_init 4 = .ok (.aload_n 0, 1) := by decide +kernel
theorem dX8_init_5 : decode cX8_init 5 = .ok (.iload_n 1, 1) := by decide +kernel
theorem dX8_init_6 : decode cX8_init 6 = .ok (.ifCond .le 7, 3) := by decide +kernel
theorem dX8_init_9 : decode cX8_init 9 = .ok (.iload_n 1, 1) := by decide +kernel
theorem dX8_init_10 : decode cX8_init 10 = .ok (.goto 4, 3) := by decide +kernel
theorem dX8_init_13 : decode cX8_init 13 = .ok (.iconst 0, 1) := by decide +kernel
theorem dX8_init_14 : decode cX8_init 14 = .ok (.newarray .int, 2) := by decide +kernel
theorem dX8_init_16 : decode cX8_init 16 = .ok (.putfield 7, 3) := by decide +kernel
theorem dX8_init_19 : decode cX8_init 19 = .ok (.return_, 1) := by decide +kernel
theorem myX8_init : gYI yX8_init cX8_init 2 1 := ⟨wm1_44, wm1_3, ⟨by decide, by decide, by decide +kernel⟩, wm1_43, rfl⟩
theorem c_X8_init {w : WP} (hD : gD w) (hY : gY w) {i3 i4 : ID} (h3 : wFr w i3) (h4 : ¬ wOk w i4) {b n : Nat} (hb : wAd w i3 = b) {ct : CT} (hct : ct i3 = .inr (5, [.null])) (hn0 : 0 < n) (hn : n ≤ 10000) : gMn w 1 yX8_init cX8_init 2 [.ref b, .int (nI n)] ct (one i4) (fun ad => upE (upE ct i4 (.inl (wI w, n, .inl fun _ => 0))) i3 (.inr (5, [.ref (ad i4)]))) 1 (0 + n) := by
  have h34 : i3 ≠ i4 := fun h => h4 (h ▸ hD.2.1 _ h3)
  refine gMn_of "HedgeMessages$Row" rfl rfl (by decide) (kR rfl) fun X C hT => ?_
  have hq : qOk X ((qN1 w X (one i4) (fun ad => upE (upE ct i4 (.inl (wI w, n, .inl fun _ => 0))) i3 (.inr (5, [.ref (ad i4)]))) 1 (0 + n)), 0 + 1, 0 + n) := by
    obtain ⟨p, e, R, s, m, args, below, meth, c, nn, A⟩ := X
    exact ⟨hT.1, hT.2.1⟩
  show gU w X _ _ 0 [(0, .ref b), (1, .int (nI n))] []
  refine r_aload_n C (k := 0) rfl rfl dX8_init_0 ?_
  refine r_objInit C wm1_45 (Nat.le_refl 1) (kR rfl) dX8_init_1 ?_
  refine r_aload_n C (k := 0) rfl rfl dX8_init_4 ?_
  refine r_iload_n C (k := 1) rfl rfl dX8_init_5 ?_
  refine r_if_le C (tgt := 13) rfl dX8_init_6 (fun h => absurd h (nI_nle hn0 (by omega))) (fun _ => ?_)
  refine r_iload_n C (k := 1) rfl rfl dX8_init_9 ?_
  refine r_goto C (tgt := 14) rfl dX8_init_10 ?_
  refine r_newI C hY i4 h4 (nI_pos (by omega)) (nI_clamp (by omega)) (by omega) dX8_init_14 hq fun q hag hbh C2 => ?_
  refine r_putR C2 hT F8 0 i3 (Or.inl h3) ((hag i3 (hD.2.1 _ h3)).trans hb) (fs := [.null]) ?_ (by decide) wm1_46 rfl rfl rfl rfl (kR rfl) dX8_init_16 (fun _ _ => rfl) ?_
  · unfold upE
    rw [if_neg h34]
    exact hct
  refine r_nend (w := w) (w2 := wM w (one i4) (adU w i4 q)) (I := one i4) rfl rfl C2 hD (fun _ h => h) hag hbh (fun i _ => ?_) dX8_init_19
  show upE _ i3 (.inr (5, [.ref q])) i = upE _ i3 (.inr (5, [.ref (adU w i4 q i4)])) i
  rw [show adU w i4 q i4 = q from if_pos rfl]
