/-! ===== cons 4: constructors of the gardener, the posted messages, a hedge, the text ===== -/
theorem closed_at {I : ID → Prop} {i0 : ID} (h1 : i0.1 ≤ 10) (h : ∀ k ∈ kids i0, I k) (hI : closed I) : closed (fun z => z = i0 ∨ I z) := by
  refine ⟨fun i hi => hi.elim (fun e => by rw [e]; exact h1) (hI.1 i), fun i hi k hk => hi.elim (fun e => ?_) (fun z => Or.inr (hI.2 i z k hk))⟩
  rw [e] at hk
  exact Or.inr (h k hk)
theorem dX4_init_0 : decode cX4_init 0 = .ok (.aload_n 0, 1) := by decide +kernel
theorem dX4_init_1 : decode cX4_init 1 = .ok (.invokespecial 3, 3) := by decide +kernel
theorem dX4_init_4 : decode cX4_init 4 = .ok (.aload_n 0, 1) := by decide +kernel
theorem dX4_init_5 : decode cX4_init 5 = .ok (.new 9, 3) := by decide +kernel
theorem dX4_init_8 : decode cX4_init 8 = .ok (.dup, 1) := by decide +kernel
theorem dX4_init_9 : decode cX4_init 9 = .ok (.bipush 96, 2) := by decide +kernel
theorem dX4_init_11 : decode cX4_init 11 = .ok (.invokespecial 11, 3) := by decide +kernel
theorem dX4_init_14 : decode cX4_init 14 = .ok (.putfield 14, 3) := by decide +kernel
theorem dX4_init_17 : decode cX4_init 17 = .ok (.aload_n 0, 1) := by decide +kernel
theorem dX4_init_18 : decode cX4_init 18 = .ok (.new 9, 3) := by decide +kernel
theorem dX4_init_21 : decode cX4_init 21 = .ok (.dup, 1) := by decide +kernel
theorem dX4_init_22 : decode cX4_init 22 = .ok (.bipush 8, 2) := by decide +kernel
theorem dX4_init_24 : decode cX4_init 24 = .ok (.invokespecial 11, 3) := by decide +kernel
theorem dX4_init_27 : decode cX4_init 27 = .ok (.putfield 20, 3) := by decide +kernel
theorem dX4_init_30 : decode cX4_init 30 = .ok (.return_, 1) := by decide +kernel
theorem myX4_init : gYI yX4_init cX4_init 1 0 := ⟨wm1_56, wm1_15, ⟨by decide, by decide, by decide +kernel⟩, wm1_55, rfl⟩
def IG (j p : Nat) : ID → Prop := fun z => ((IZ z ∨ IR j p 0 z) ∨ IR j p 1 z)
def fsG : List Value := [.null, .null, .int 0, .int 0, .int 0, .int 0, .int 0, .int 0, .int 0, .int 0]
set_option maxRecDepth 20000 in
theorem c_X4_init {j p : Nat} (hp : p = 1 ∨ p = 2) : gCon yX4_init cX4_init 1 1 fsG (1, j, p, 0) (IG j p) 2 4 106 := by
  intro w hD hY h0 hn b hb ct hct
  refine gMn_of "HedgeMessages$Gardener" rfl rfl (by decide) (kR rfl) fun X C hT => ?_
  have hq : ∀ c n, c ≤ 4 → n ≤ 106 → qOk X ((qN1 w X (IG j p) (fun ad => cN (wM w (IG j p) ad) (fun z => z = (1, j, p, 0) ∨ IG j p z) ct) 4 106), c, n) := by
    intro c n hc hn
    obtain ⟨p, e, R, s, m, args, below, meth, c9, nn, A⟩ := X
    exact ⟨Nat.le_trans hc hT.1, Nat.le_trans hn hT.2.1⟩
  show gU w X _ _ 0 [(0, .ref b)] []
  refine r_aload_n C (k := 0) rfl rfl dX4_init_0 ?_
  refine r_objInit C wm1_57 (kR rfl) (kR rfl) dX4_init_1 ?_
  refine s_start hct ?_
  have G0 := gH_0 C hT hY
  refine s_row (l := 2) (fs := fun ad => [.null, .null, .int 0, .int 0, .int 0, .int 0, .int 0, .int 0, .int 0, .int 0]) (fs' := fun ad => [.ref (ad (3, j, p, 0)), .null, .int 0, .int 0, .int 0, .int 0, .int 0, .int 0, .int 0, .int 0]) G0 (kR rfl) F4 0 (1, j, p, 0) j p 0 h0 (fun z hz h => h.elim (hn z (Or.inl (Or.inr hz))) (fun h => by
          exact (h : False).elim)) hb (fun _ _ _ => rfl) (fun _ => rfl) (by decide) wm1_60 rfl rfl rfl (kR rfl) wm1_58 rfl wm1_59 (by decide) (by decide) (by rcases hp with rfl | rfl <;> rfl) rfl dX4_init_4 dX4_init_5 dX4_init_8 (fun C9 k9 => r_bipush C9 (v := nI 96) rfl dX4_init_9 k9) dX4_init_11 dX4_init_14 (hq _ _ (kR rfl) (kR rfl)) fun ad1 G1 => ?_
  refine s_row (l := 2) (fs := fun ad => [.ref (ad (3, j, p, 0)), .null, .int 0, .int 0, .int 0, .int 0, .int 0, .int 0, .int 0, .int 0]) (fs' := fun ad => [.ref (ad (3, j, p, 0)), .ref (ad (3, j, p, 1)), .int 0, .int 0, .int 0, .int 0, .int 0, .int 0, .int 0, .int 0]) G1 (kR rfl) F4 1 (1, j, p, 0) j p 1 h0 (fun z hz h => h.elim (hn z (Or.inr hz)) (fun h => by
          rcases h with h | h
          · exact (h : False).elim
          · have h1 := tg_R h; have h2 := tg_R hz; omega)) hb (fun ad1 ad2 h => by simp only [h (3, j, p, 0) (Or.inr (Or.inl rfl))]) (fun _ => rfl) (by decide) wm1_62 rfl rfl rfl (kR rfl) wm1_58 rfl wm1_59 (by decide) (by decide) (by rcases hp with rfl | rfl <;> rfl) rfl dX4_init_17 dX4_init_18 dX4_init_21 (fun C9 k9 => r_bipush C9 (v := nI 8) rfl dX4_init_22 k9) dX4_init_24 dX4_init_27 (hq _ _ (kR rfl) (kR rfl)) fun ad2 G2 => ?_
  exact s_end (fs := fun ad => [.ref (ad (3, j, p, 0)), .ref (ad (3, j, p, 1)), .int 0, .int 0, .int 0, .int 0, .int 0, .int 0, .int 0, .int 0]) G2 (by rcases hp with rfl | rfl <;> rfl) dX4_init_30
theorem closed_G {j p : Nat} : closed (fun z => z = (1, j, p, 0) ∨ IG j p z) := by
  refine closed_at (kR rfl) (fun k hk => ?_) (closed_or (closed_or closed_Z closed_R) closed_R)
  simp only [kids, List.mem_cons, List.not_mem_nil, or_false] at hk
  rcases hk with rfl | rfl
  · exact Or.inl (Or.inr (Or.inl rfl))
  · exact Or.inr (Or.inl rfl)
theorem tg_G {j p : Nat} {z : ID} (h : z = (1, j, p, 0) ∨ IG j p z) : (1 ≤ z.1 ∧ z.1 ≤ 4) ∧ z.2.1 = j ∧ z.2.2.1 = p := by
  rcases h with rfl | ((h | h) | h)
  · exact ⟨⟨kR rfl, kR rfl⟩, rfl, rfl⟩
  · exact (h : False).elim
  · have h1 := tg_R h; omega
  · have h1 := tg_R h; omega
theorem dX7_init_0 : decode cX7_init 0 = .ok (.aload_n 0, 1) := by decide +kernel
theorem dX7_init_1 : decode cX7_init 1 = .ok (.invokespecial 3, 3) := by decide +kernel
theorem dX7_init_4 : decode cX7_init 4 = .ok (.aload_n 0, 1) := by decide +kernel
theorem dX7_init_5 : decode cX7_init 5 = .ok (.new 9, 3) := by decide +kernel
theorem dX7_init_8 : decode cX7_init 8 = .ok (.dup, 1) := by decide +kernel
theorem dX7_init_9 : decode cX7_init 9 = .ok (.bipush 20, 2) := by decide +kernel
theorem dX7_init_11 : decode cX7_init 11 = .ok (.invokespecial 11, 3) := by decide +kernel
theorem dX7_init_14 : decode cX7_init 14 = .ok (.putfield 14, 3) := by decide +kernel
theorem dX7_init_17 : decode cX7_init 17 = .ok (.aload_n 0, 1) := by decide +kernel
theorem dX7_init_18 : decode cX7_init 18 = .ok (.new 9, 3) := by decide +kernel
theorem dX7_init_21 : decode cX7_init 21 = .ok (.dup, 1) := by decide +kernel
theorem dX7_init_22 : decode cX7_init 22 = .ok (.bipush 20, 2) := by decide +kernel
theorem dX7_init_24 : decode cX7_init 24 = .ok (.invokespecial 11, 3) := by decide +kernel
theorem dX7_init_27 : decode cX7_init 27 = .ok (.putfield 20, 3) := by decide +kernel
theorem dX7_init_30 : decode cX7_init 30 = .ok (.aload_n 0, 1) := by decide +kernel
theorem dX7_init_31 : decode cX7_init 31 = .ok (.new 9, 3) := by decide +kernel
theorem dX7_init_34 : decode cX7_init 34 = .ok (.dup, 1) := by decide +kernel
theorem dX7_init_35 : decode cX7_init 35 = .ok (.bipush 20, 2) := by decide +kernel
theorem dX7_init_37 : decode cX7_init 37 = .ok (.invokespecial 11, 3) := by decide +kernel
theorem dX7_init_40 : decode cX7_init 40 = .ok (.putfield 23, 3) := by decide +kernel
theorem dX7_init_43 : decode cX7_init 43 = .ok (.return_, 1) := by decide +kernel
theorem myX7_init : gYI yX7_init cX7_init 1 0 := ⟨wm1_111, wm1_16, ⟨by decide, by decide, by decide +kernel⟩, wm1_110, rfl⟩
def IQ (j : Nat) : ID → Prop := fun z => (((IZ z ∨ IR j 3 0 z) ∨ IR j 3 1 z) ∨ IR j 3 2 z)
def fsQ : List Value := [.null, .null, .null, .int 0]
set_option maxRecDepth 20000 in
theorem c_X7_init {j : Nat} : gCon yX7_init cX7_init 1 4 fsQ (2, j, 3, 0) (IQ j) 2 6 63 := by
  intro w hD hY h0 hn b hb ct hct
  refine gMn_of "HedgeMessages$PostedMessages" rfl rfl (by decide) (kR rfl) fun X C hT => ?_
  have hq : ∀ c n, c ≤ 6 → n ≤ 63 → qOk X ((qN1 w X (IQ j) (fun ad => cN (wM w (IQ j) ad) (fun z => z = (2, j, 3, 0) ∨ IQ j z) ct) 6 63), c, n) := by
    intro c n hc hn
    obtain ⟨p, e, R, s, m, args, below, meth, c9, nn, A⟩ := X
    exact ⟨Nat.le_trans hc hT.1, Nat.le_trans hn hT.2.1⟩
  show gU w X _ _ 0 [(0, .ref b)] []
  refine r_aload_n C (k := 0) rfl rfl dX7_init_0 ?_
  refine r_objInit C wm1_112 (kR rfl) (kR rfl) dX7_init_1 ?_
  refine s_start hct ?_
  have G0 := gH_0 C hT hY
  refine s_row (l := 2) (fs := fun ad => [.null, .null, .null, .int 0]) (fs' := fun ad => [.ref (ad (3, j, 3, 0)), .null, .null, .int 0]) G0 (kR rfl) F7 0 (2, j, 3, 0) j 3 0 h0 (fun z hz h => h.elim (hn z (Or.inl (Or.inl (Or.inr hz)))) (fun h => by
          exact (h : False).elim)) hb (fun _ _ _ => rfl) (fun _ => rfl) (by decide) wm1_115 rfl rfl rfl (kR rfl) wm1_113 rfl wm1_114 (by decide) (by decide) rfl rfl dX7_init_4 dX7_init_5 dX7_init_8 (fun C9 k9 => r_bipush C9 (v := nI 20) rfl dX7_init_9 k9) dX7_init_11 dX7_init_14 (hq _ _ (kR rfl) (kR rfl)) fun ad1 G1 => ?_
  refine s_row (l := 2) (fs := fun ad => [.ref (ad (3, j, 3, 0)), .null, .null, .int 0]) (fs' := fun ad => [.ref (ad (3, j, 3, 0)), .ref (ad (3, j, 3, 1)), .null, .int 0]) G1 (kR rfl) F7 1 (2, j, 3, 0) j 3 1 h0 (fun z hz h => h.elim (hn z (Or.inl (Or.inr hz))) (fun h => by
          rcases h with h | h
          · exact (h : False).elim
          · have h1 := tg_R h; have h2 := tg_R hz; omega)) hb (fun ad1 ad2 h => by simp only [h (3, j, 3, 0) (Or.inr (Or.inl rfl))]) (fun _ => rfl) (by decide) wm1_117 rfl rfl rfl (kR rfl) wm1_113 rfl wm1_114 (by decide) (by decide) rfl rfl dX7_init_17 dX7_init_18 dX7_init_21 (fun C9 k9 => r_bipush C9 (v := nI 20) rfl dX7_init_22 k9) dX7_init_24 dX7_init_27 (hq _ _ (kR rfl) (kR rfl)) fun ad2 G2 => ?_
  refine s_row (l := 2) (fs := fun ad => [.ref (ad (3, j, 3, 0)), .ref (ad (3, j, 3, 1)), .null, .int 0]) (fs' := fun ad => [.ref (ad (3, j, 3, 0)), .ref (ad (3, j, 3, 1)), .ref (ad (3, j, 3, 2)), .int 0]) G2 (kR rfl) F7 2 (2, j, 3, 0) j 3 2 h0 (fun z hz h => h.elim (hn z (Or.inr hz)) (fun h => by
          rcases h with (h | h) | h
          · exact (h : False).elim
          · have h1 := tg_R h; have h2 := tg_R hz; omega
          · have h1 := tg_R h; have h2 := tg_R hz; omega)) hb (fun ad1 ad2 h => by simp only [h (3, j, 3, 0) (Or.inl (Or.inr (Or.inl rfl))), h (3, j, 3, 1) (Or.inr (Or.inl rfl))]) (fun _ => rfl) (by decide) wm1_119 rfl rfl rfl (kR rfl) wm1_113 rfl wm1_114 (by decide) (by decide) rfl rfl dX7_init_30 dX7_init_31 dX7_init_34 (fun C9 k9 => r_bipush C9 (v := nI 20) rfl dX7_init_35 k9) dX7_init_37 dX7_init_40 (hq _ _ (kR rfl) (kR rfl)) fun ad3 G3 => ?_
  exact s_end (fs := fun ad => [.ref (ad (3, j, 3, 0)), .ref (ad (3, j, 3, 1)), .ref (ad (3, j, 3, 2)), .int 0]) G3 rfl dX7_init_43
theorem closed_Q {j : Nat} : closed (fun z => z = (2, j, 3, 0) ∨ IQ j z) := by
  refine closed_at (kR rfl) (fun k hk => ?_) (closed_or (closed_or (closed_or closed_Z closed_R) closed_R) closed_R)
  simp only [kids, List.mem_cons, List.not_mem_nil, or_false] at hk
  rcases hk with rfl | rfl | rfl
  · exact Or.inl (Or.inl (Or.inr (Or.inl rfl)))
  · exact Or.inl (Or.inr (Or.inl rfl))
  · exact Or.inr (Or.inl rfl)
theorem tg_Q {j : Nat} {z : ID} (h : z = (2, j, 3, 0) ∨ IQ j z) : (1 ≤ z.1 ∧ z.1 ≤ 4) ∧ z.2.1 = j ∧ z.2.2.1 = 3 := by
  rcases h with rfl | (((h | h) | h) | h)
  · exact ⟨⟨kR rfl, kR rfl⟩, rfl, rfl⟩
  · exact (h : False).elim
  · have h1 := tg_R h; omega
  · have h1 := tg_R h; omega
  · have h1 := tg_R h; omega
theorem dX5_init_0 : decode cX5_init 0 = .ok (.aload_n 0, 1) := by decide +kernel
theorem dX5_init_1 : decode cX5_init 1 = .ok (.invokespecial 3, 3) := by decide +kernel
theorem dX5_init_4 : decode cX5_init 4 = .ok (.aload_n 0, 1) := by decide +kernel
theorem dX5_init_5 : decode cX5_init 5 = .ok (.new 9, 3) := by decide +kernel
theorem dX5_init_8 : decode cX5_init 8 = .ok (.dup, 1) := by decide +kernel
theorem dX5_init_9 : decode cX5_init 9 = .ok (.bipush 40, 2) := by decide +kernel
theorem dX5_init_11 : decode cX5_init 11 = .ok (.invokespecial 11, 3) := by decide +kernel
theorem dX5_init_14 : decode cX5_init 14 = .ok (.putfield 14, 3) := by decide +kernel
theorem dX5_init_17 : decode cX5_init 17 = .ok (.aload_n 0, 1) := by decide +kernel
theorem dX5_init_18 : decode cX5_init 18 = .ok (.new 9, 3) := by decide +kernel
theorem dX5_init_21 : decode cX5_init 21 = .ok (.dup, 1) := by decide +kernel
theorem dX5_init_22 : decode cX5_init 22 = .ok (.bipush 40, 2) := by decide +kernel
theorem dX5_init_24 : decode cX5_init 24 = .ok (.invokespecial 11, 3) := by decide +kernel
theorem dX5_init_27 : decode cX5_init 27 = .ok (.putfield 20, 3) := by decide +kernel
theorem dX5_init_30 : decode cX5_init 30 = .ok (.aload_n 0, 1) := by decide +kernel
theorem dX5_init_31 : decode cX5_init 31 = .ok (.new 9, 3) := by decide +kernel
theorem dX5_init_34 : decode cX5_init 34 = .ok (.dup, 1) := by decide +kernel
theorem dX5_init_35 : decode cX5_init 35 = .ok (.bipush 40, 2) := by decide +kernel
theorem dX5_init_37 : decode cX5_init 37 = .ok (.invokespecial 11, 3) := by decide +kernel
theorem dX5_init_40 : decode cX5_init 40 = .ok (.putfield 23, 3) := by decide +kernel
theorem dX5_init_43 : decode cX5_init 43 = .ok (.aload_n 0, 1) := by decide +kernel
theorem dX5_init_44 : decode cX5_init 44 = .ok (.new 9, 3) := by decide +kernel
theorem dX5_init_47 : decode cX5_init 47 = .ok (.dup, 1) := by decide +kernel
theorem dX5_init_48 : decode cX5_init 48 = .ok (.bipush 40, 2) := by decide +kernel
theorem dX5_init_50 : decode cX5_init 50 = .ok (.invokespecial 11, 3) := by decide +kernel
theorem dX5_init_53 : decode cX5_init 53 = .ok (.putfield 26, 3) := by decide +kernel
theorem dX5_init_56 : decode cX5_init 56 = .ok (.aload_n 0, 1) := by decide +kernel
theorem dX5_init_57 : decode cX5_init 57 = .ok (.new 9, 3) := by decide +kernel
theorem dX5_init_60 : decode cX5_init 60 = .ok (.dup, 1) := by decide +kernel
theorem dX5_init_61 : decode cX5_init 61 = .ok (.bipush 40, 2) := by decide +kernel
theorem dX5_init_63 : decode cX5_init 63 = .ok (.invokespecial 11, 3) := by decide +kernel
theorem dX5_init_66 : decode cX5_init 66 = .ok (.putfield 29, 3) := by decide +kernel
theorem dX5_init_69 : decode cX5_init 69 = .ok (.aload_n 0, 1) := by decide +kernel
theorem dX5_init_70 : decode cX5_init 70 = .ok (.new 32, 3) := by decide +kernel
theorem dX5_init_73 : decode cX5_init 73 = .ok (.dup, 1) := by decide +kernel
theorem dX5_init_74 : decode cX5_init 74 = .ok (.invokespecial 34, 3) := by decide +kernel
theorem dX5_init_77 : decode cX5_init 77 = .ok (.putfield 35, 3) := by decide +kernel
theorem dX5_init_80 : decode cX5_init 80 = .ok (.aload_n 0, 1) := by decide +kernel
theorem dX5_init_81 : decode cX5_init 81 = .ok (.new 32, 3) := by decide +kernel
theorem dX5_init_84 : decode cX5_init 84 = .ok (.dup, 1) := by decide +kernel
theorem dX5_init_85 : decode cX5_init 85 = .ok (.invokespecial 34, 3) := by decide +kernel
theorem dX5_init_88 : decode cX5_init 88 = .ok (.putfield 39, 3) := by decide +kernel
theorem dX5_init_91 : decode cX5_init 91 = .ok (.aload_n 0, 1) := by decide +kernel
theorem dX5_init_92 : decode cX5_init 92 = .ok (.new 42, 3) := by decide +kernel
theorem dX5_init_95 : decode cX5_init 95 = .ok (.dup, 1) := by decide +kernel
theorem dX5_init_96 : decode cX5_init 96 = .ok (.invokespecial 44, 3) := by decide +kernel
theorem dX5_init_99 : decode cX5_init 99 = .ok (.putfield 45, 3) := by decide +kernel
theorem dX5_init_102 : decode cX5_init 102 = .ok (.return_, 1) := by decide +kernel
theorem myX5_init : gYI yX5_init cX5_init 1 0 := ⟨wm1_39, wm1_13, ⟨by decide, by decide, by decide +kernel⟩, wm1_38, rfl⟩
def IH (j : Nat) : ID → Prop := fun z => ((((((((IZ z ∨ IR j 0 0 z) ∨ IR j 0 1 z) ∨ IR j 0 2 z) ∨ IR j 0 3 z) ∨ IR j 0 4 z) ∨ (fun z => z = (1, j, 1, 0) ∨ IG j 1 z) z) ∨ (fun z => z = (1, j, 2, 0) ∨ IG j 2 z) z) ∨ (fun z => z = (2, j, 3, 0) ∨ IQ j z) z)
def fsH : List Value := [.int 0, .int 0, .int 0, .int 0, .int 0, .int 0, .int 0, .int 0, .null, .null, .null, .null, .null, .null, .null, .null, .int 0, .int 0, .int 0]
set_option maxRecDepth 20000 in
theorem c_X5_init {j : Nat} : gCon yX5_init cX5_init 1 2 fsH (0, j, 0, 0) (IH j) 3 27 504 := by
  intro w hD hY h0 hn b hb ct hct
  refine gMn_of "HedgeMessages$Hedge" rfl rfl (by decide) (kR rfl) fun X C hT => ?_
  have hq : ∀ c n, c ≤ 27 → n ≤ 504 → qOk X ((qN1 w X (IH j) (fun ad => cN (wM w (IH j) ad) (fun z => z = (0, j, 0, 0) ∨ IH j z) ct) 27 504), c, n) := by
    intro c n hc hn
    obtain ⟨p, e, R, s, m, args, below, meth, c9, nn, A⟩ := X
    exact ⟨Nat.le_trans hc hT.1, Nat.le_trans hn hT.2.1⟩
  show gU w X _ _ 0 [(0, .ref b)] []
  refine r_aload_n C (k := 0) rfl rfl dX5_init_0 ?_
  refine r_objInit C wm1_40 (kR rfl) (kR rfl) dX5_init_1 ?_
  refine s_start hct ?_
  have G0 := gH_0 C hT hY
  refine s_row (l := 2) (fs := fun ad => [.int 0, .int 0, .int 0, .int 0, .int 0, .int 0, .int 0, .int 0, .null, .null, .null, .null, .null, .null, .null, .null, .int 0, .int 0, .int 0]) (fs' := fun ad => [.int 0, .int 0, .int 0, .int 0, .int 0, .int 0, .int 0, .int 0, .ref (ad (3, j, 0, 0)), .null, .null, .null, .null, .null, .null, .null, .int 0, .int 0, .int 0]) G0 (kR rfl) F5 8 (0, j, 0, 0) j 0 0 h0 (fun z hz h => h.elim (hn z (Or.inl (Or.inl (Or.inl (Or.inl (Or.inl (Or.inl (Or.inl (Or.inr hz))))))))) (fun h => by
          exact (h : False).elim)) hb (fun _ _ _ => rfl) (fun _ => rfl) (by decide) wm1_146 rfl rfl rfl (kR rfl) wm1_41 rfl wm1_43 (by decide) (by decide) rfl rfl dX5_init_4 dX5_init_5 dX5_init_8 (fun C9 k9 => r_bipush C9 (v := nI 40) rfl dX5_init_9 k9) dX5_init_11 dX5_init_14 (hq _ _ (kR rfl) (kR rfl)) fun ad1 G1 => ?_
  refine s_row (l := 2) (fs := fun ad => [.int 0, .int 0, .int 0, .int 0, .int 0, .int 0, .int 0, .int 0, .ref (ad (3, j, 0, 0)), .null, .null, .null, .null, .null, .null, .null, .int 0, .int 0, .int 0]) (fs' := fun ad => [.int 0, .int 0, .int 0, .int 0, .int 0, .int 0, .int 0, .int 0, .ref (ad (3, j, 0, 0)), .ref (ad (3, j, 0, 1)), .null, .null, .null, .null, .null, .null, .int 0, .int 0, .int 0]) G1 (kR rfl) F5 9 (0, j, 0, 0) j 0 1 h0 (fun z hz h => h.elim (hn z (Or.inl (Or.inl (Or.inl (Or.inl (Or.inl (Or.inl (Or.inr hz)))))))) (fun h => by
          rcases h with h | h
          · exact (h : False).elim
          · have h1 := tg_R h; have h2 := tg_R hz; omega)) hb (fun ad1 ad2 h => by simp only [h (3, j, 0, 0) (Or.inr (Or.inl rfl))]) (fun _ => rfl) (by decide) wm1_148 rfl rfl rfl (kR rfl) wm1_41 rfl wm1_43 (by decide) (by decide) rfl rfl dX5_init_17 dX5_init_18 dX5_init_21 (fun C9 k9 => r_bipush C9 (v := nI 40) rfl dX5_init_22 k9) dX5_init_24 dX5_init_27 (hq _ _ (kR rfl) (kR rfl)) fun ad2 G2 => ?_
  refine s_row (l := 2) (fs := fun ad => [.int 0, .int 0, .int 0, .int 0, .int 0, .int 0, .int 0, .int 0, .ref (ad (3, j, 0, 0)), .ref (ad (3, j, 0, 1)), .null, .null, .null, .null, .null, .null, .int 0, .int 0, .int 0]) (fs' := fun ad => [.int 0, .int 0, .int 0, .int 0, .int 0, .int 0, .int 0, .int 0, .ref (ad (3, j, 0, 0)), .ref (ad (3, j, 0, 1)), .ref (ad (3, j, 0, 2)), .null, .null, .null, .null, .null, .int 0, .int 0, .int 0]) G2 (kR rfl) F5 10 (0, j, 0, 0) j 0 2 h0 (fun z hz h => h.elim (hn z (Or.inl (Or.inl (Or.inl (Or.inl (Or.inl (Or.inr hz))))))) (fun h => by
          rcases h with (h | h) | h
          · exact (h : False).elim
          · have h1 := tg_R h; have h2 := tg_R hz; omega
          · have h1 := tg_R h; have h2 := tg_R hz; omega)) hb (fun ad1 ad2 h => by simp only [h (3, j, 0, 0) (Or.inl (Or.inr (Or.inl rfl))), h (3, j, 0, 1) (Or.inr (Or.inl rfl))]) (fun _ => rfl) (by decide) wm1_150 rfl rfl rfl (kR rfl) wm1_41 rfl wm1_43 (by decide) (by decide) rfl rfl dX5_init_30 dX5_init_31 dX5_init_34 (fun C9 k9 => r_bipush C9 (v := nI 40) rfl dX5_init_35 k9) dX5_init_37 dX5_init_40 (hq _ _ (kR rfl) (kR rfl)) fun ad3 G3 => ?_
  refine s_row (l := 2) (fs := fun ad => [.int 0, .int 0, .int 0, .int 0, .int 0, .int 0, .int 0, .int 0, .ref (ad (3, j, 0, 0)), .ref (ad (3, j, 0, 1)), .ref (ad (3, j, 0, 2)), .null, .null, .null, .null, .null, .int 0, .int 0, .int 0]) (fs' := fun ad => [.int 0, .int 0, .int 0, .int 0, .int 0, .int 0, .int 0, .int 0, .ref (ad (3, j, 0, 0)), .ref (ad (3, j, 0, 1)), .ref (ad (3, j, 0, 2)), .ref (ad (3, j, 0, 3)), .null, .null, .null, .null, .int 0, .int 0, .int 0]) G3 (kR rfl) F5 11 (0, j, 0, 0) j 0 3 h0 (fun z hz h => h.elim (hn z (Or.inl (Or.inl (Or.inl (Or.inl (Or.inr hz)))))) (fun h => by
          rcases h with ((h | h) | h) | h
          · exact (h : False).elim
          · have h1 := tg_R h; have h2 := tg_R hz; omega
          · have h1 := tg_R h; have h2 := tg_R hz; omega
          · have h1 := tg_R h; have h2 := tg_R hz; omega)) hb (fun ad1 ad2 h => by simp only [h (3, j, 0, 0) (Or.inl (Or.inl (Or.inr (Or.inl rfl)))), h (3, j, 0, 1) (Or.inl (Or.inr (Or.inl rfl))), h (3, j, 0, 2) (Or.inr (Or.inl rfl))]) (fun _ => rfl) (by decide) wm1_152 rfl rfl rfl (kR rfl) wm1_41 rfl wm1_43 (by decide) (by decide) rfl rfl dX5_init_43 dX5_init_44 dX5_init_47 (fun C9 k9 => r_bipush C9 (v := nI 40) rfl dX5_init_48 k9) dX5_init_50 dX5_init_53 (hq _ _ (kR rfl) (kR rfl)) fun ad4 G4 => ?_
  refine s_row (l := 2) (fs := fun ad => [.int 0, .int 0, .int 0, .int 0, .int 0, .int 0, .int 0, .int 0, .ref (ad (3, j, 0, 0)), .ref (ad (3, j, 0, 1)), .ref (ad (3, j, 0, 2)), .ref (ad (3, j, 0, 3)), .null, .null, .null, .null, .int 0, .int 0, .int 0]) (fs' := fun ad => [.int 0, .int 0, .int 0, .int 0, .int 0, .int 0, .int 0, .int 0, .ref (ad (3, j, 0, 0)), .ref (ad (3, j, 0, 1)), .ref (ad (3, j, 0, 2)), .ref (ad (3, j, 0, 3)), .ref (ad (3, j, 0, 4)), .null, .null, .null, .int 0, .int 0, .int 0]) G4 (kR rfl) F5 12 (0, j, 0, 0) j 0 4 h0 (fun z hz h => h.elim (hn z (Or.inl (Or.inl (Or.inl (Or.inr hz))))) (fun h => by
          rcases h with (((h | h) | h) | h) | h
          · exact (h : False).elim
          · have h1 := tg_R h; have h2 := tg_R hz; omega
          · have h1 := tg_R h; have h2 := tg_R hz; omega
          · have h1 := tg_R h; have h2 := tg_R hz; omega
          · have h1 := tg_R h; have h2 := tg_R hz; omega)) hb (fun ad1 ad2 h => by simp only [h (3, j, 0, 0) (Or.inl (Or.inl (Or.inl (Or.inr (Or.inl rfl))))), h (3, j, 0, 1) (Or.inl (Or.inl (Or.inr (Or.inl rfl)))), h (3, j, 0, 2) (Or.inl (Or.inr (Or.inl rfl))), h (3, j, 0, 3) (Or.inr (Or.inl rfl))]) (fun _ => rfl) (by decide) wm1_155 rfl rfl rfl (kR rfl) wm1_41 rfl wm1_43 (by decide) (by decide) rfl rfl dX5_init_56 dX5_init_57 dX5_init_60 (fun C9 k9 => r_bipush C9 (v := nI 40) rfl dX5_init_61 k9) dX5_init_63 dX5_init_66 (hq _ _ (kR rfl) (kR rfl)) fun ad5 G5 => ?_
  refine s_part (fs := fun ad => [.int 0, .int 0, .int 0, .int 0, .int 0, .int 0, .int 0, .int 0, .ref (ad (3, j, 0, 0)), .ref (ad (3, j, 0, 1)), .ref (ad (3, j, 0, 2)), .ref (ad (3, j, 0, 3)), .ref (ad (3, j, 0, 4)), .null, .null, .null, .int 0, .int 0, .int 0]) (fs' := fun ad => [.int 0, .int 0, .int 0, .int 0, .int 0, .int 0, .int 0, .int 0, .ref (ad (3, j, 0, 0)), .ref (ad (3, j, 0, 1)), .ref (ad (3, j, 0, 2)), .ref (ad (3, j, 0, 3)), .ref (ad (3, j, 0, 4)), .ref (ad (1, j, 1, 0)), .null, .null, .int 0, .int 0, .int 0]) G5 F5 13 (0, j, 0, 0) (1, j, 1, 0) (IG j 1) h0 (fun z hz h => h.elim (hn z (Or.inl (Or.inl (Or.inr hz)))) (fun h => by
          rcases h with ((((h | h) | h) | h) | h) | h
          · exact (h : False).elim
          · have h1 := tg_R h; have h2 := tg_G hz; omega
          · have h1 := tg_R h; have h2 := tg_G hz; omega
          · have h1 := tg_R h; have h2 := tg_G hz; omega
          · have h1 := tg_R h; have h2 := tg_G hz; omega
          · have h1 := tg_R h; have h2 := tg_G hz; omega)) (fun h => by
          rcases h with (h | h) | h
          · exact h
          · rcases (tg_R h).1 with h | h <;> cases h
          · rcases (tg_R h).1 with h | h <;> cases h) (Or.inr fun q h => absurd (tg_G h).1.1 (Nat.not_succ_le_zero 0)) hb (fun ad1 ad2 h => by simp only [h (3, j, 0, 0) (Or.inl (Or.inl (Or.inl (Or.inl (Or.inr (Or.inl rfl)))))), h (3, j, 0, 1) (Or.inl (Or.inl (Or.inl (Or.inr (Or.inl rfl))))), h (3, j, 0, 2) (Or.inl (Or.inl (Or.inr (Or.inl rfl)))), h (3, j, 0, 3) (Or.inl (Or.inr (Or.inl rfl))), h (3, j, 0, 4) (Or.inr (Or.inl rfl))]) (fun _ => rfl) F4 (fs2 := fsG) (fun q hq => by match q, hq with | 0, _ => rfl | 1, _ => rfl | 2, _ => rfl | 3, _ => rfl | 4, _ => rfl | 5, _ => rfl | 6, _ => rfl | 7, _ => rfl | 8, _ => rfl | 9, _ => rfl) (c_X4_init (Or.inl rfl)) myX4_init (kR rfl) (kR rfl) closed_G (by decide) wm1_156 rfl rfl rfl (kR rfl) wm1_52 rfl wm1_53 wm1_15 wm1_54 rfl dX5_init_69 dX5_init_70 dX5_init_73 dX5_init_74 dX5_init_77 (hq _ _ (kR rfl) (kR rfl)) fun ad6 G6 => ?_
  refine s_part (fs := fun ad => [.int 0, .int 0, .int 0, .int 0, .int 0, .int 0, .int 0, .int 0, .ref (ad (3, j, 0, 0)), .ref (ad (3, j, 0, 1)), .ref (ad (3, j, 0, 2)), .ref (ad (3, j, 0, 3)), .ref (ad (3, j, 0, 4)), .ref (ad (1, j, 1, 0)), .null, .null, .int 0, .int 0, .int 0]) (fs' := fun ad => [.int 0, .int 0, .int 0, .int 0, .int 0, .int 0, .int 0, .int 0, .ref (ad (3, j, 0, 0)), .ref (ad (3, j, 0, 1)), .ref (ad (3, j, 0, 2)), .ref (ad (3, j, 0, 3)), .ref (ad (3, j, 0, 4)), .ref (ad (1, j, 1, 0)), .ref (ad (1, j, 2, 0)), .null, .int 0, .int 0, .int 0]) G6 F5 14 (0, j, 0, 0) (1, j, 2, 0) (IG j 2) h0 (fun z hz h => h.elim (hn z (Or.inl (Or.inr hz))) (fun h => by
          rcases h with (((((h | h) | h) | h) | h) | h) | h
          · exact (h : False).elim
          · have h1 := tg_R h; have h2 := tg_G hz; omega
          · have h1 := tg_R h; have h2 := tg_G hz; omega
          · have h1 := tg_R h; have h2 := tg_G hz; omega
          · have h1 := tg_R h; have h2 := tg_G hz; omega
          · have h1 := tg_R h; have h2 := tg_G hz; omega
          · have h1 := tg_G h; have h2 := tg_G hz; omega)) (fun h => by
          rcases h with (h | h) | h
          · exact h
          · rcases (tg_R h).1 with h | h <;> cases h
          · rcases (tg_R h).1 with h | h <;> cases h) (Or.inr fun q h => absurd (tg_G h).1.1 (Nat.not_succ_le_zero 0)) hb (fun ad1 ad2 h => by simp only [h (3, j, 0, 0) (Or.inl (Or.inl (Or.inl (Or.inl (Or.inl (Or.inr (Or.inl rfl))))))), h (3, j, 0, 1) (Or.inl (Or.inl (Or.inl (Or.inl (Or.inr (Or.inl rfl)))))), h (3, j, 0, 2) (Or.inl (Or.inl (Or.inl (Or.inr (Or.inl rfl))))), h (3, j, 0, 3) (Or.inl (Or.inl (Or.inr (Or.inl rfl)))), h (3, j, 0, 4) (Or.inl (Or.inr (Or.inl rfl))), h (1, j, 1, 0) (Or.inr (Or.inl rfl))]) (fun _ => rfl) F4 (fs2 := fsG) (fun q hq => by match q, hq with | 0, _ => rfl | 1, _ => rfl | 2, _ => rfl | 3, _ => rfl | 4, _ => rfl | 5, _ => rfl | 6, _ => rfl | 7, _ => rfl | 8, _ => rfl | 9, _ => rfl) (c_X4_init (Or.inr rfl)) myX4_init (kR rfl) (kR rfl) closed_G (by decide) wm1_158 rfl rfl rfl (kR rfl) wm1_52 rfl wm1_53 wm1_15 wm1_54 rfl dX5_init_80 dX5_init_81 dX5_init_84 dX5_init_85 dX5_init_88 (hq _ _ (kR rfl) (kR rfl)) fun ad7 G7 => ?_
  refine s_part (fs := fun ad => [.int 0, .int 0, .int 0, .int 0, .int 0, .int 0, .int 0, .int 0, .ref (ad (3, j, 0, 0)), .ref (ad (3, j, 0, 1)), .ref (ad (3, j, 0, 2)), .ref (ad (3, j, 0, 3)), .ref (ad (3, j, 0, 4)), .ref (ad (1, j, 1, 0)), .ref (ad (1, j, 2, 0)), .null, .int 0, .int 0, .int 0]) (fs' := fun ad => [.int 0, .int 0, .int 0, .int 0, .int 0, .int 0, .int 0, .int 0, .ref (ad (3, j, 0, 0)), .ref (ad (3, j, 0, 1)), .ref (ad (3, j, 0, 2)), .ref (ad (3, j, 0, 3)), .ref (ad (3, j, 0, 4)), .ref (ad (1, j, 1, 0)), .ref (ad (1, j, 2, 0)), .ref (ad (2, j, 3, 0)), .int 0, .int 0, .int 0]) G7 F5 15 (0, j, 0, 0) (2, j, 3, 0) (IQ j) h0 (fun z hz h => h.elim (hn z (Or.inr hz)) (fun h => by
          rcases h with ((((((h | h) | h) | h) | h) | h) | h) | h
          · exact (h : False).elim
          · have h1 := tg_R h; have h2 := tg_Q hz; omega
          · have h1 := tg_R h; have h2 := tg_Q hz; omega
          · have h1 := tg_R h; have h2 := tg_Q hz; omega
          · have h1 := tg_R h; have h2 := tg_Q hz; omega
          · have h1 := tg_R h; have h2 := tg_Q hz; omega
          · have h1 := tg_G h; have h2 := tg_Q hz; omega
          · have h1 := tg_G h; have h2 := tg_Q hz; omega)) (fun h => by
          rcases h with ((h | h) | h) | h
          · exact h
          · rcases (tg_R h).1 with h | h <;> cases h
          · rcases (tg_R h).1 with h | h <;> cases h
          · rcases (tg_R h).1 with h | h <;> cases h) (Or.inr fun q h => absurd (tg_Q h).1.1 (Nat.not_succ_le_zero 0)) hb (fun ad1 ad2 h => by simp only [h (3, j, 0, 0) (Or.inl (Or.inl (Or.inl (Or.inl (Or.inl (Or.inl (Or.inr (Or.inl rfl)))))))), h (3, j, 0, 1) (Or.inl (Or.inl (Or.inl (Or.inl (Or.inl (Or.inr (Or.inl rfl))))))), h (3, j, 0, 2) (Or.inl (Or.inl (Or.inl (Or.inl (Or.inr (Or.inl rfl)))))), h (3, j, 0, 3) (Or.inl (Or.inl (Or.inl (Or.inr (Or.inl rfl))))), h (3, j, 0, 4) (Or.inl (Or.inl (Or.inr (Or.inl rfl)))), h (1, j, 1, 0) (Or.inl (Or.inr (Or.inl rfl))), h (1, j, 2, 0) (Or.inr (Or.inl rfl))]) (fun _ => rfl) F7 (fs2 := fsQ) (fun q hq => by match q, hq with | 0, _ => rfl | 1, _ => rfl | 2, _ => rfl | 3, _ => rfl) c_X7_init myX7_init (kR rfl) (kR rfl) closed_Q (by decide) wm1_160 rfl rfl rfl (kR rfl) wm1_107 rfl wm1_108 wm1_16 wm1_109 rfl dX5_init_91 dX5_init_92 dX5_init_95 dX5_init_96 dX5_init_99 (hq _ _ (kR rfl) (kR rfl)) fun ad8 G8 => ?_
  exact s_end (fs := fun ad => [.int 0, .int 0, .int 0, .int 0, .int 0, .int 0, .int 0, .int 0, .ref (ad (3, j, 0, 0)), .ref (ad (3, j, 0, 1)), .ref (ad (3, j, 0, 2)), .ref (ad (3, j, 0, 3)), .ref (ad (3, j, 0, 4)), .ref (ad (1, j, 1, 0)), .ref (ad (1, j, 2, 0)), .ref (ad (2, j, 3, 0)), .int 0, .int 0, .int 0]) G8 rfl dX5_init_102
theorem closed_H {j : Nat} : closed (fun z => z = (0, j, 0, 0) ∨ IH j z) := by
  refine closed_at (kR rfl) (fun k hk => ?_) (closed_or (closed_or (closed_or (closed_or (closed_or (closed_or (closed_or (closed_or closed_Z closed_R) closed_R) closed_R) closed_R) closed_R) closed_G) closed_G) closed_Q)
  simp only [kids, List.mem_cons, List.not_mem_nil, or_false] at hk
  rcases hk with rfl | rfl | rfl | rfl | rfl | rfl | rfl | rfl
  · exact Or.inl (Or.inl (Or.inl (Or.inl (Or.inl (Or.inl (Or.inl (Or.inr (Or.inl rfl))))))))
  · exact Or.inl (Or.inl (Or.inl (Or.inl (Or.inl (Or.inl (Or.inr (Or.inl rfl)))))))
  · exact Or.inl (Or.inl (Or.inl (Or.inl (Or.inl (Or.inr (Or.inl rfl))))))
  · exact Or.inl (Or.inl (Or.inl (Or.inl (Or.inr (Or.inl rfl)))))
  · exact Or.inl (Or.inl (Or.inl (Or.inr (Or.inl rfl))))
  · exact Or.inl (Or.inl (Or.inr (Or.inl rfl)))
  · exact Or.inl (Or.inr (Or.inl rfl))
  · exact Or.inr (Or.inl rfl)
theorem tg_H {j : Nat} {z : ID} (h : z = (0, j, 0, 0) ∨ IH j z) : (0 ≤ z.1 ∧ z.1 ≤ 4) ∧ z.2.1 = j := by
  rcases h with rfl | ((((((((h | h) | h) | h) | h) | h) | h) | h) | h)
  · exact ⟨⟨kR rfl, kR rfl⟩, rfl⟩
  · exact (h : False).elim
  · have h1 := tg_R h; omega
  · have h1 := tg_R h; omega
  · have h1 := tg_R h; omega
  · have h1 := tg_R h; omega
  · have h1 := tg_R h; omega
  · have h1 := tg_G h; omega
  · have h1 := tg_G h; omega
  · have h1 := tg_Q h; omega
theorem dX9_init_0 : decode cX9_init 0 = .ok (.aload_n 0, 1) := by decide +kernel
theorem dX9_init_1 : decode cX9_init 1 = .ok (.invokespecial 3, 3) := by decide +kernel
theorem dX9_init_4 : decode cX9_init 4 = .ok (.aload_n 0, 1) := by decide +kernel
theorem dX9_init_5 : decode cX9_init 5 = .ok (.new 9, 3) := by decide +kernel
theorem dX9_init_8 : decode cX9_init 8 = .ok (.dup, 1) := by decide +kernel
theorem dX9_init_9 : decode cX9_init 9 = .ok (.sipush 800, 3) := by decide +kernel
theorem dX9_init_12 : decode cX9_init 12 = .ok (.invokespecial 11, 3) := by decide +kernel
theorem dX9_init_15 : decode cX9_init 15 = .ok (.putfield 14, 3) := by decide +kernel
theorem dX9_init_18 : decode cX9_init 18 = .ok (.aload_n 0, 1) := by decide +kernel
theorem dX9_init_19 : decode cX9_init 19 = .ok (.iconst (-1), 1) := by decide +kernel
theorem dX9_init_20 : decode cX9_init 20 = .ok (.putfield 20, 3) := by decide +kernel
theorem dX9_init_23 : decode cX9_init 23 = .ok (.return_, 1) := by decide +kernel
theorem myX9_init : gYI yX9_init cX9_init 1 0 := ⟨wm1_231, wm1_18, ⟨by decide, by decide, by decide +kernel⟩, wm1_230, rfl⟩
def IX : ID → Prop := fun z => (IZ z ∨ IR 11 4 0 z)
def fsX : List Value := [.null, .int 0, .int 0, .int 0, .int 0, .int 0, .int 0, .int 0, .int 0]
set_option maxRecDepth 20000 in
theorem c_X9_init : gCon yX9_init cX9_init 1 6 fsX (5, 11, 4, 0) (IX) 2 2 801 := by
  intro w hD hY h0 hn b hb ct hct
  refine gMn_of "HedgeMessages$Text" rfl rfl (by decide) (kR rfl) fun X C hT => ?_
  have hq : ∀ c n, c ≤ 2 → n ≤ 801 → qOk X ((qN1 w X (IX) (fun ad => cN (wM w (IX) ad) (fun z => z = (5, 11, 4, 0) ∨ IX z) ct) 2 801), c, n) := by
    intro c n hc hn
    obtain ⟨p, e, R, s, m, args, below, meth, c9, nn, A⟩ := X
    exact ⟨Nat.le_trans hc hT.1, Nat.le_trans hn hT.2.1⟩
  show gU w X _ _ 0 [(0, .ref b)] []
  refine r_aload_n C (k := 0) rfl rfl dX9_init_0 ?_
  refine r_objInit C wm1_232 (kR rfl) (kR rfl) dX9_init_1 ?_
  refine s_start hct ?_
  have G0 := gH_0 C hT hY
  refine s_row (l := 3) (fs := fun ad => [.null, .int 0, .int 0, .int 0, .int 0, .int 0, .int 0, .int 0, .int 0]) (fs' := fun ad => [.ref (ad (3, 11, 4, 0)), .int 0, .int 0, .int 0, .int 0, .int 0, .int 0, .int 0, .int 0]) G0 (kR rfl) F9 0 (5, 11, 4, 0) 11 4 0 h0 (fun z hz h => h.elim (hn z (Or.inr hz)) (fun h => by
          exact (h : False).elim)) hb (fun _ _ _ => rfl) (fun _ => rfl) (by decide) wm1_235 rfl rfl rfl (kR rfl) wm1_233 rfl wm1_234 (by decide) (by decide) rfl rfl dX9_init_4 dX9_init_5 dX9_init_8 (fun C9 k9 => r_sipush C9 (v := nI 800) rfl dX9_init_9 k9) dX9_init_12 dX9_init_15 (hq _ _ (kR rfl) (kR rfl)) fun ad1 G1 => ?_
  refine r_aload_n G1.2.1 (k := 0) rfl rfl dX9_init_18 ?_
  refine r_iconst G1.2.1 (v := (-1)) rfl dX9_init_19 ?_
  refine s_put (fs := fun ad => [.ref (ad (3, 11, 4, 0)), .int 0, .int 0, .int 0, .int 0, .int 0, .int 0, .int 0, .int 0]) (fs' := fun ad => [.ref (ad (3, 11, 4, 0)), .int 0, .int 0, .int 0, .int 0, .int 0, .int 0, .int 0, .int (-1)]) G1 F9 8 (5, 11, 4, 0) h0 hb (fun _ => rfl) (by decide) wm2_9 rfl rfl (kR rfl) dX9_init_20 ?_
  exact s_end (fs := fun ad => [.ref (ad (3, 11, 4, 0)), .int 0, .int 0, .int 0, .int 0, .int 0, .int 0, .int 0, .int (-1)]) G1 rfl dX9_init_23
theorem closed_X : closed (fun z => z = (5, 11, 4, 0) ∨ IX z) := by
  refine closed_at (kR rfl) (fun k hk => ?_) (closed_or closed_Z closed_R)
  simp only [kids, List.mem_cons, List.not_mem_nil, or_false] at hk
  rcases hk with rfl
  · exact Or.inr (Or.inl rfl)
theorem tg_X {z : ID} (h : z = (5, 11, 4, 0) ∨ IX z) : (1 ≤ z.1 ∧ z.1 ≤ 5) ∧ z.2.1 = 11 ∧ z.2.2.1 = 4 := by
  rcases h with rfl | (h | h)
  · exact ⟨⟨kR rfl, kR rfl⟩, rfl, rfl⟩
  · exact (h : False).elim
  · have h1 := tg_R h; omega
