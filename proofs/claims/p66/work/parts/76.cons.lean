/-! ===== cons 7: the constructor of the class ===== -/
theorem IC_1 {z : ID} (h : IC z) : z.1 ≠ 6 := by
  rcases h with (((h | h) | h) | h) | h
  · exact (h : False).elim
  · have h1 := tg_A h; omega
  · have h1 := tg_R h; omega
  · have h1 := tg_R h; omega
  · have h1 := tg_R h; omega
theorem dX10_init_0 : decode cX10_init 0 = .ok (.aload_n 0, 1) := by decide +kernel
theorem dX10_init_1 : decode cX10_init 1 = .ok (.invokespecial 1, 3) := by decide +kernel
theorem dX10_init_4 : decode cX10_init 4 = .ok (.aload_n 0, 1) := by decide +kernel
theorem dX10_init_5 : decode cX10_init 5 = .ok (.new 7, 3) := by decide +kernel
theorem dX10_init_8 : decode cX10_init 8 = .ok (.dup, 1) := by decide +kernel
theorem dX10_init_9 : decode cX10_init 9 = .ok (.invokespecial 9, 3) := by decide +kernel
theorem dX10_init_12 : decode cX10_init 12 = .ok (.putfield 10, 3) := by decide +kernel
theorem dX10_init_15 : decode cX10_init 15 = .ok (.aload_n 0, 1) := by decide +kernel
theorem dX10_init_16 : decode cX10_init 16 = .ok (.new 7, 3) := by decide +kernel
theorem dX10_init_19 : decode cX10_init 19 = .ok (.dup, 1) := by decide +kernel
theorem dX10_init_20 : decode cX10_init 20 = .ok (.invokespecial 9, 3) := by decide +kernel
theorem dX10_init_23 : decode cX10_init 23 = .ok (.putfield 16, 3) := by decide +kernel
theorem dX10_init_26 : decode cX10_init 26 = .ok (.aload_n 0, 1) := by decide +kernel
theorem dX10_init_27 : decode cX10_init 27 = .ok (.new 7, 3) := by decide +kernel
theorem dX10_init_30 : decode cX10_init 30 = .ok (.dup, 1) := by decide +kernel
theorem dX10_init_31 : decode cX10_init 31 = .ok (.invokespecial 9, 3) := by decide +kernel
theorem dX10_init_34 : decode cX10_init 34 = .ok (.putfield 19, 3) := by decide +kernel
theorem dX10_init_37 : decode cX10_init 37 = .ok (.aload_n 0, 1) := by decide +kernel
theorem dX10_init_38 : decode cX10_init 38 = .ok (.new 22, 3) := by decide +kernel
theorem dX10_init_41 : decode cX10_init 41 = .ok (.dup, 1) := by decide +kernel
theorem dX10_init_42 : decode cX10_init 42 = .ok (.invokespecial 24, 3) := by decide +kernel
theorem dX10_init_45 : decode cX10_init 45 = .ok (.putfield 25, 3) := by decide +kernel
theorem dX10_init_48 : decode cX10_init 48 = .ok (.aload_n 0, 1) := by decide +kernel
theorem dX10_init_49 : decode cX10_init 49 = .ok (.new 29, 3) := by decide +kernel
theorem dX10_init_52 : decode cX10_init 52 = .ok (.dup, 1) := by decide +kernel
theorem dX10_init_53 : decode cX10_init 53 = .ok (.invokespecial 31, 3) := by decide +kernel
theorem dX10_init_56 : decode cX10_init 56 = .ok (.putfield 32, 3) := by decide +kernel
theorem dX10_init_59 : decode cX10_init 59 = .ok (.aload_n 0, 1) := by decide +kernel
theorem dX10_init_60 : decode cX10_init 60 = .ok (.new 36, 3) := by decide +kernel
theorem dX10_init_63 : decode cX10_init 63 = .ok (.dup, 1) := by decide +kernel
theorem dX10_init_64 : decode cX10_init 64 = .ok (.invokespecial 38, 3) := by decide +kernel
theorem dX10_init_67 : decode cX10_init 67 = .ok (.putfield 39, 3) := by decide +kernel
theorem dX10_init_70 : decode cX10_init 70 = .ok (.aload_n 0, 1) := by decide +kernel
theorem dX10_init_71 : decode cX10_init 71 = .ok (.new 43, 3) := by decide +kernel
theorem dX10_init_74 : decode cX10_init 74 = .ok (.dup, 1) := by decide +kernel
theorem dX10_init_75 : decode cX10_init 75 = .ok (.bipush 40, 2) := by decide +kernel
theorem dX10_init_77 : decode cX10_init 77 = .ok (.invokespecial 45, 3) := by decide +kernel
theorem dX10_init_80 : decode cX10_init 80 = .ok (.putfield 48, 3) := by decide +kernel
theorem dX10_init_83 : decode cX10_init 83 = .ok (.aload_n 0, 1) := by decide +kernel
theorem dX10_init_84 : decode cX10_init 84 = .ok (.getfield 10, 3) := by decide +kernel
theorem dX10_init_87 : decode cX10_init 87 = .ok (.bipush 16, 2) := by decide +kernel
theorem dX10_init_89 : decode cX10_init 89 = .ok (.iconst 4, 1) := by decide +kernel
theorem dX10_init_90 : decode cX10_init 90 = .ok (.iconst 2, 1) := by decide +kernel
theorem dX10_init_91 : decode cX10_init 91 = .ok (.iconst 5, 1) := by decide +kernel
theorem dX10_init_92 : decode cX10_init 92 = .ok (.iconst 3, 1) := by decide +kernel
theorem dX10_init_93 : decode cX10_init 93 = .ok (.iconst 4, 1) := by decide +kernel
theorem dX10_init_94 : decode cX10_init 94 = .ok (.invokevirtual 52, 3) := by decide +kernel
theorem dX10_init_97 : decode cX10_init 97 = .ok (.aload_n 0, 1) := by decide +kernel
theorem dX10_init_98 : decode cX10_init 98 = .ok (.getfield 10, 3) := by decide +kernel
theorem dX10_init_101 : decode cX10_init 101 = .ok (.iconst 2, 1) := by decide +kernel
theorem dX10_init_102 : decode cX10_init 102 = .ok (.bipush 113, 2) := by decide +kernel
theorem dX10_init_104 : decode cX10_init 104 = .ok (.iconst 0, 1) := by decide +kernel
theorem dX10_init_105 : decode cX10_init 105 = .ok (.iconst 3, 1) := by decide +kernel
theorem dX10_init_106 : decode cX10_init 106 = .ok (.invokevirtual 56, 3) := by decide +kernel
theorem dX10_init_109 : decode cX10_init 109 = .ok (.aload_n 0, 1) := by decide +kernel
theorem dX10_init_110 : decode cX10_init 110 = .ok (.getfield 10, 3) := by decide +kernel
theorem dX10_init_113 : decode cX10_init 113 = .ok (.bipush 9, 2) := by decide +kernel
theorem dX10_init_115 : decode cX10_init 115 = .ok (.bipush 114, 2) := by decide +kernel
theorem dX10_init_117 : decode cX10_init 117 = .ok (.iconst 1, 1) := by decide +kernel
theorem dX10_init_118 : decode cX10_init 118 = .ok (.bipush 6, 2) := by decide +kernel
theorem dX10_init_120 : decode cX10_init 120 = .ok (.invokevirtual 56, 3) := by decide +kernel
theorem dX10_init_123 : decode cX10_init 123 = .ok (.aload_n 0, 1) := by decide +kernel
theorem dX10_init_124 : decode cX10_init 124 = .ok (.getfield 10, 3) := by decide +kernel
theorem dX10_init_127 : decode cX10_init 127 = .ok (.bipush 10, 2) := by decide +kernel
theorem dX10_init_129 : decode cX10_init 129 = .ok (.iconst 5, 1) := by decide +kernel
theorem dX10_init_130 : decode cX10_init 130 = .ok (.invokevirtual 60, 3) := by decide +kernel
theorem dX10_init_133 : decode cX10_init 133 = .ok (.aload_n 0, 1) := by decide +kernel
theorem dX10_init_134 : decode cX10_init 134 = .ok (.getfield 10, 3) := by decide +kernel
theorem dX10_init_137 : decode cX10_init 137 = .ok (.iconst 0, 1) := by decide +kernel
theorem dX10_init_138 : decode cX10_init 138 = .ok (.ldc 64, 2) := by decide +kernel
theorem dX10_init_140 : decode cX10_init 140 = .ok (.invokevirtual 66, 3) := by decide +kernel
theorem dX10_init_143 : decode cX10_init 143 = .ok (.aload_n 0, 1) := by decide +kernel
theorem dX10_init_144 : decode cX10_init 144 = .ok (.getfield 10, 3) := by decide +kernel
theorem dX10_init_147 : decode cX10_init 147 = .ok (.iconst 1, 1) := by decide +kernel
theorem dX10_init_148 : decode cX10_init 148 = .ok (.ldc 70, 2) := by decide +kernel
theorem dX10_init_150 : decode cX10_init 150 = .ok (.invokevirtual 66, 3) := by decide +kernel
theorem dX10_init_153 : decode cX10_init 153 = .ok (.aload_n 0, 1) := by decide +kernel
theorem dX10_init_154 : decode cX10_init 154 = .ok (.getfield 10, 3) := by decide +kernel
theorem dX10_init_157 : decode cX10_init 157 = .ok (.iconst 0, 1) := by decide +kernel
theorem dX10_init_158 : decode cX10_init 158 = .ok (.ldc 72, 2) := by decide +kernel
theorem dX10_init_160 : decode cX10_init 160 = .ok (.invokevirtual 66, 3) := by decide +kernel
theorem dX10_init_163 : decode cX10_init 163 = .ok (.return_, 1) := by decide +kernel
theorem myX10_init : gYI yX10_init cX10_init 1 0 := ⟨wm1_31, wm1_12, ⟨by decide, by decide, by decide +kernel⟩, wm1_30, rfl⟩
def IA : ID → Prop := fun z => (((((((IZ z ∨ (fun z => z = (0, 0, 0, 0) ∨ IH 0 z) z) ∨ (fun z => z = (0, 1, 0, 0) ∨ IH 1 z) z) ∨ (fun z => z = (0, 2, 0, 0) ∨ IH 2 z) z) ∨ (fun z => z = (8, 11, 7, 0) ∨ IY z) z) ∨ (fun z => z = (5, 11, 4, 0) ∨ IX z) z) ∨ (fun z => z = (6, 11, 5, 0) ∨ IC z) z) ∨ IR 11 6 0 z)
def fsA : List Value := [.null, .null, .null, .int 0, .null, .null, .null, .null, .int 0]
theorem IR_ok {j p a : Nat} {z : ID} (h : IR j p a z) (ho : okR j p a) : okC z := by
  rcases h with rfl | rfl <;> exact ho
theorem H_ok {j : Nat} (hj : j ≤ 10) {z : ID} (h : z = (0, j, 0, 0) ∨ IH j z) : okC z := by
  rcases h with rfl | ((((((((h | h) | h) | h) | h) | h) | h) | h) | h)
  · exact ⟨hj, rfl, rfl⟩
  · exact (h : False).elim
  · exact IR_ok h (q0 hj (by decide))
  · exact IR_ok h (q0 hj (by decide))
  · exact IR_ok h (q0 hj (by decide))
  · exact IR_ok h (q0 hj (by decide))
  · exact IR_ok h (q0 hj (by decide))
  · rcases h with rfl | ((h | h) | h)
    · exact ⟨hj, Or.inl rfl, rfl⟩
    · exact (h : False).elim
    · exact IR_ok h (q1 hj (Or.inl rfl) (by decide))
    · exact IR_ok h (q1 hj (Or.inl rfl) (by decide))
  · rcases h with rfl | ((h | h) | h)
    · exact ⟨hj, Or.inr rfl, rfl⟩
    · exact (h : False).elim
    · exact IR_ok h (q1 hj (Or.inr rfl) (by decide))
    · exact IR_ok h (q1 hj (Or.inr rfl) (by decide))
  · rcases h with rfl | (((h | h) | h) | h)
    · exact ⟨hj, rfl, rfl⟩
    · exact (h : False).elim
    · exact IR_ok h (q3 hj (by decide))
    · exact IR_ok h (q3 hj (by decide))
    · exact IR_ok h (q3 hj (by decide))
theorem R_H {j p a k : Nat} (hk : k = 3 ∨ k = 4) (hj : j ≤ 10) (h : okR j p a) : IH j (k, j, p, a) := by
  have hr : ∀ p a, IR j p a (k, j, p, a) := fun p a => by
    rcases hk with rfl | rfl
    · exact Or.inl rfl
    · exact Or.inr rfl
  rcases h with ⟨_, ⟨rfl, ha⟩ | ⟨rfl | rfl, ha⟩ | ⟨rfl, ha⟩⟩ | ⟨rfl, _⟩
  · match a, ha with
    | 0, _ => exact Or.inl (Or.inl (Or.inl (Or.inl (Or.inl (Or.inl (Or.inl (Or.inr (hr 0 0))))))))
    | 1, _ => exact Or.inl (Or.inl (Or.inl (Or.inl (Or.inl (Or.inl (Or.inr (hr 0 1)))))))
    | 2, _ => exact Or.inl (Or.inl (Or.inl (Or.inl (Or.inl (Or.inr (hr 0 2))))))
    | 3, _ => exact Or.inl (Or.inl (Or.inl (Or.inl (Or.inr (hr 0 3)))))
    | 4, _ => exact Or.inl (Or.inl (Or.inl (Or.inr (hr 0 4))))
  · match a, ha with
    | 0, _ => exact Or.inl (Or.inl (Or.inr (Or.inr (Or.inl (Or.inr (hr 1 0))))))
    | 1, _ => exact Or.inl (Or.inl (Or.inr (Or.inr (Or.inr (hr 1 1)))))
  · match a, ha with
    | 0, _ => exact Or.inl (Or.inr (Or.inr (Or.inl (Or.inr (hr 2 0)))))
    | 1, _ => exact Or.inl (Or.inr (Or.inr (Or.inr (hr 2 1))))
  · match a, ha with
    | 0, _ => exact Or.inr (Or.inr (Or.inl (Or.inl (Or.inr (hr 3 0)))))
    | 1, _ => exact Or.inr (Or.inr (Or.inl (Or.inr (hr 3 1))))
    | 2, _ => exact Or.inr (Or.inr (Or.inr (hr 3 2)))
  · omega
theorem ok_H {j : Nat} {z : ID} (h : z = (0, j, 0, 0) ∨ IH j z) (hj : j ≤ 10) : IA z := by
  by_cases h0 : j = 0
  · subst h0; exact Or.inl (Or.inl (Or.inl (Or.inl (Or.inl (Or.inl (Or.inr h))))))
  by_cases h1 : j = 1
  · subst h1; exact Or.inl (Or.inl (Or.inl (Or.inl (Or.inl (Or.inr h)))))
  by_cases h2 : j = 2
  · subst h2; exact Or.inl (Or.inl (Or.inl (Or.inl (Or.inr h))))
  refine Or.inl (Or.inl (Or.inl (Or.inr (Or.inr (Or.inr ⟨j - 3, by omega, ?_⟩)))))
  rw [show 3 + (j - 3) = j by omega]
  exact h
theorem okC_A {z : ID} (h : okC z) : z = (7, 11, 6, 0) ∨ IA z := by
  obtain ⟨k, j, p, a⟩ := z
  match k, h with
  | 0, h =>
    obtain ⟨h1, h2, h3⟩ := h
    have h2 : p = 0 := h2
    have h3 : a = 0 := h3
    subst h2 h3
    exact Or.inr (ok_H (Or.inl rfl) h1)
  | 1, h =>
    obtain ⟨h1, h2, h3⟩ := h
    have h3 : a = 0 := h3
    subst h3
    have h2 : p = 1 ∨ p = 2 := h2
    rcases h2 with rfl | rfl
    · exact Or.inr (ok_H (j := j) (Or.inr (Or.inl (Or.inl (Or.inr (Or.inl rfl))))) h1)
    · exact Or.inr (ok_H (j := j) (Or.inr (Or.inl (Or.inr (Or.inl rfl)))) h1)
  | 2, h =>
    obtain ⟨h1, h2, h3⟩ := h
    have h2 : p = 3 := h2
    have h3 : a = 0 := h3
    subst h2 h3
    exact Or.inr (ok_H (j := j) (Or.inr (Or.inr (Or.inl rfl))) h1)
  | 3, h =>
    have h : okR j p a := h
    by_cases hj : j ≤ 10
    · exact Or.inr (ok_H (j := j) (Or.inr (R_H (Or.inl rfl) hj h)) hj)
    · rcases h with ⟨h, _⟩ | ⟨rfl, ⟨rfl, rfl⟩ | ⟨rfl, h1, h3⟩ | ⟨rfl, rfl⟩⟩
      · omega
      · exact Or.inr (Or.inl (Or.inl (Or.inr (Or.inr (Or.inr (Or.inl rfl))))))
      · match a, h1, h3 with
        | 1, _, _ => exact Or.inr (Or.inl (Or.inr (Or.inr (Or.inl (Or.inl (Or.inr (Or.inl rfl)))))))
        | 2, _, _ => exact Or.inr (Or.inl (Or.inr (Or.inr (Or.inl (Or.inr (Or.inl rfl))))))
        | 3, _, _ => exact Or.inr (Or.inl (Or.inr (Or.inr (Or.inr (Or.inl rfl)))))
      · exact Or.inr (Or.inr (Or.inl rfl))
  | 4, h =>
    have h : okR j p a := h
    by_cases hj : j ≤ 10
    · exact Or.inr (ok_H (j := j) (Or.inr (R_H (Or.inr rfl) hj h)) hj)
    · rcases h with ⟨h, _⟩ | ⟨rfl, ⟨rfl, rfl⟩ | ⟨rfl, h1, h3⟩ | ⟨rfl, rfl⟩⟩
      · omega
      · exact Or.inr (Or.inl (Or.inl (Or.inr (Or.inr (Or.inr (Or.inr rfl))))))
      · match a, h1, h3 with
        | 1, _, _ => exact Or.inr (Or.inl (Or.inr (Or.inr (Or.inl (Or.inl (Or.inr (Or.inr rfl)))))))
        | 2, _, _ => exact Or.inr (Or.inl (Or.inr (Or.inr (Or.inl (Or.inr (Or.inr rfl))))))
        | 3, _, _ => exact Or.inr (Or.inl (Or.inr (Or.inr (Or.inr (Or.inr rfl)))))
      · exact Or.inr (Or.inr (Or.inr rfl))
  | 5, h =>
    obtain ⟨h1, h2, h3⟩ := h
    have h1 : j = 11 := h1
    have h2 : p = 4 := h2
    have h3 : a = 0 := h3
    subst h1 h2 h3
    exact Or.inr (Or.inl (Or.inl (Or.inr (Or.inl rfl))))
  | 6, h =>
    obtain ⟨h1, h2, h3⟩ := h
    have h1 : j = 11 := h1
    have h2 : p = 5 := h2
    have h3 : a = 0 := h3
    subst h1 h2 h3
    exact Or.inr (Or.inl (Or.inr (Or.inl rfl)))
  | 7, h =>
    obtain ⟨h1, h2, h3⟩ := h
    have h1 : j = 11 := h1
    have h2 : p = 6 := h2
    have h3 : a = 0 := h3
    subst h1 h2 h3
    exact Or.inl rfl
  | 8, h =>
    obtain ⟨h1, h2, h3⟩ := h
    have h1 : j = 11 := h1
    have h2 : p = 7 := h2
    have h3 : a = 0 := h3
    subst h1 h2 h3
    exact Or.inr (Or.inl (Or.inl (Or.inl (Or.inr (Or.inl rfl)))))
  | 9, h =>
    obtain ⟨h1, h2, h3⟩ := h
    have h1 : j = 11 := h1
    have h2 : p = 7 := h2
    have h3 : a = 0 := h3
    subst h1 h2 h3
    exact Or.inr (Or.inl (Or.inl (Or.inl (Or.inr (Or.inr (Or.inl rfl))))))
  | 10, h =>
    obtain ⟨h1, h2, h3⟩ := h
    have h1 : j = 11 := h1
    have h2 : p = 5 := h2
    have h3 : a = 0 := h3
    subst h1 h2 h3
    exact Or.inr (Or.inl (Or.inr (Or.inr (Or.inl (Or.inl (Or.inl (Or.inr rfl)))))))
theorem A_okC {z : ID} (h : IA z) : okC z := by
  rcases h with ((((((h | h) | h) | h) | h) | h) | h) | h
  · exact (h : False).elim
  · exact H_ok (by decide) h
  · exact H_ok (by decide) h
  · exact H_ok (by decide) h
  · rcases h with rfl | h | ⟨q, hq, h⟩
    · exact k8
    · cases h; exact k9
    · exact H_ok (j := 3 + q) (by omega) h
  · rcases h with rfl | (h | h)
    · exact k5
    · exact (h : False).elim
    · exact IR_ok h q4
  · rcases h with rfl | ((((h | h) | h) | h) | h)
    · exact k6
    · exact (h : False).elim
    · cases h; exact k10
    · exact IR_ok h (q5 (by decide) (by decide))
    · exact IR_ok h (q5 (by decide) (by decide))
    · exact IR_ok h (q5 (by decide) (by decide))
  · exact IR_ok h q6
/-- the first hedge, step by step -/
def hI0 : Nat → HV := F_X5_layOut 16 4 2 5 3 4 (Om0.1 0)
def hI1 : Nat → HV := F_X5_placeTwig 2 113 0 3 hI0
def hI2 : Nat → HV := F_X5_placeTwig 9 114 1 6 hI1
def hI3 : Nat → HV := F_X5_placeNest 10 5 hI2
def hI4 : Nat → HV := F_X5_receive 0 (ltr 0 5) 5 0 5 hI3
def hI5 : Nat → HV := F_X5_receive 1 (ltr 1 3) 3 0 3 hI4
def hI6 : Nat → HV := F_X5_receive 0 (ltr 2 2) 2 0 2 hI5
def OmI : OM := OmT (OmT (OmT (sH Om0 0 hI3) 9 0 hI4) 10 1 hI5) 11 2 hI6
def IB : ID → Prop := fun z => ((IA z ∨ IR 20 9 0 z) ∨ IR 20 10 0 z) ∨ IR 20 11 0 z
set_option maxRecDepth 20000 in
set_option maxHeartbeats 4000000 in
theorem c_X10_init {w : WP} (hD : gD w) (hY : gY w) (hS : gS w) (honly : ∀ z, wOk w z ↔ z = (7, 11, 6, 0)) (h0 : wFr w (7, 11, 6, 0)) {b : Nat} (hb : wAd w (7, 11, 6, 0) = b) {ct : CT} (hct : ct (7, 11, 6, 0) = .inr (7, fsA)) : gMn w 5 yX10_init cX10_init 1 [.ref b] ct IB (fun ad => cA (wM w IB ad) OmI) 329 6756 := by
  have hn : ∀ z, IA z → ¬ wOk w z := fun z hz h => by
    have h1 := (honly z).mp h
    subst h1
    rcases hz with ((((((h | h) | h) | h) | h) | h) | h) | h
    · exact (h : False).elim
    · have := tg_H h; omega
    · have := tg_H h; omega
    · have := tg_H h; omega
    · have := tg_Y h; omega
    · have := tg_X h; omega
    · have := tg_C h; omega
    · have := tg_R h; omega
  refine gMn_of "HedgeMessages" rfl rfl (by decide) (kR rfl) fun X C hT => ?_
  have hq : ∀ c n, c ≤ 329 → n ≤ 6756 → qOk X ((qN1 w X IB (fun ad => cA (wM w IB ad) OmI) 329 6756), c, n) := by
    intro c n hc hn
    obtain ⟨p, e, R, s, m, args, below, meth, c9, nn, A⟩ := X
    exact ⟨Nat.le_trans hc hT.1, Nat.le_trans hn hT.2.1⟩
  show gU w X _ _ 0 [(0, .ref b)] []
  refine r_aload_n C (k := 0) rfl rfl dX10_init_0 ?_
  refine r_objInit C wm1_32 (kR rfl) (kR rfl) dX10_init_1 ?_
  refine s_start hct ?_
  have G0 := gH_0 C hT hY
  refine s_part (fs := fun ad => [.null, .null, .null, .int 0, .null, .null, .null, .null, .int 0]) (fs' := fun ad => [.ref (ad (0, 0, 0, 0)), .null, .null, .int 0, .null, .null, .null, .null, .int 0]) G0 F10 0 (7, 11, 6, 0) (0, 0, 0, 0) (IH 0) h0 (fun z hz h => h.elim (hn z (Or.inl (Or.inl (Or.inl (Or.inl (Or.inl (Or.inl (Or.inr hz)))))))) (fun h => by
          exact (h : False).elim)) (fun h => by have := IH_1 h; omega) (Or.inr fun q h => by have h1 : 3 + q = 0 := (tg_H h).2; omega) hb (fun _ _ _ => rfl) (fun _ => rfl) F5 (fs2 := fsH) dfH (c_X5_init) myX5_init (kR rfl) (kR rfl) closed_H (by decide) wm2_159 rfl rfl rfl (kR rfl) wm1_35 rfl wm1_36 wm1_13 wm1_37 rfl dX10_init_4 dX10_init_5 dX10_init_8 dX10_init_9 dX10_init_12 (hq _ _ (kR rfl) (kR rfl)) fun ad1 G1 => ?_
  refine s_part (fs := fun ad => [.ref (ad (0, 0, 0, 0)), .null, .null, .int 0, .null, .null, .null, .null, .int 0]) (fs' := fun ad => [.ref (ad (0, 0, 0, 0)), .ref (ad (0, 1, 0, 0)), .null, .int 0, .null, .null, .null, .null, .int 0]) G1 F10 1 (7, 11, 6, 0) (0, 1, 0, 0) (IH 1) h0 (fun z hz h => h.elim (hn z (Or.inl (Or.inl (Or.inl (Or.inl (Or.inl (Or.inr hz))))))) (fun h => by
          rcases h with h | h
          · exact (h : False).elim
          · have h1 := tg_H h; have h2 := tg_H hz; omega)) (fun h => by have := IH_1 h; omega) (Or.inr fun q h => by have h1 : 3 + q = 1 := (tg_H h).2; omega) hb (fun ad1 ad2 h => by simp only [h (0, 0, 0, 0) (Or.inr (Or.inl rfl))]) (fun _ => rfl) F5 (fs2 := fsH) dfH (c_X5_init) myX5_init (kR rfl) (kR rfl) closed_H (by decide) wm2_160 rfl rfl rfl (kR rfl) wm1_35 rfl wm1_36 wm1_13 wm1_37 rfl dX10_init_15 dX10_init_16 dX10_init_19 dX10_init_20 dX10_init_23 (hq _ _ (kR rfl) (kR rfl)) fun ad2 G2 => ?_
  refine s_part (fs := fun ad => [.ref (ad (0, 0, 0, 0)), .ref (ad (0, 1, 0, 0)), .null, .int 0, .null, .null, .null, .null, .int 0]) (fs' := fun ad => [.ref (ad (0, 0, 0, 0)), .ref (ad (0, 1, 0, 0)), .ref (ad (0, 2, 0, 0)), .int 0, .null, .null, .null, .null, .int 0]) G2 F10 2 (7, 11, 6, 0) (0, 2, 0, 0) (IH 2) h0 (fun z hz h => h.elim (hn z (Or.inl (Or.inl (Or.inl (Or.inl (Or.inr hz)))))) (fun h => by
          rcases h with (h | h) | h
          · exact (h : False).elim
          · have h1 := tg_H h; have h2 := tg_H hz; omega
          · have h1 := tg_H h; have h2 := tg_H hz; omega)) (fun h => by have := IH_1 h; omega) (Or.inr fun q h => by have h1 : 3 + q = 2 := (tg_H h).2; omega) hb (fun ad1 ad2 h => by simp only [h (0, 0, 0, 0) (Or.inl (Or.inr (Or.inl rfl))), h (0, 1, 0, 0) (Or.inr (Or.inl rfl))]) (fun _ => rfl) F5 (fs2 := fsH) dfH (c_X5_init) myX5_init (kR rfl) (kR rfl) closed_H (by decide) wm2_161 rfl rfl rfl (kR rfl) wm1_35 rfl wm1_36 wm1_13 wm1_37 rfl dX10_init_26 dX10_init_27 dX10_init_30 dX10_init_31 dX10_init_34 (hq _ _ (kR rfl) (kR rfl)) fun ad3 G3 => ?_
  refine s_part (fs := fun ad => [.ref (ad (0, 0, 0, 0)), .ref (ad (0, 1, 0, 0)), .ref (ad (0, 2, 0, 0)), .int 0, .null, .null, .null, .null, .int 0]) (fs' := fun ad => [.ref (ad (0, 0, 0, 0)), .ref (ad (0, 1, 0, 0)), .ref (ad (0, 2, 0, 0)), .int 0, .ref (ad (8, 11, 7, 0)), .null, .null, .null, .int 0]) G3 F10 4 (7, 11, 6, 0) (8, 11, 7, 0) (IY) h0 (fun z hz h => h.elim (hn z (Or.inl (Or.inl (Or.inl (Or.inr hz))))) (fun h => by
          rcases h with ((h | h) | h) | h
          · exact (h : False).elim
          · have h1 := tg_H h; have h2 := tg_Y hz; omega
          · have h1 := tg_H h; have h2 := tg_Y hz; omega
          · have h1 := tg_H h; have h2 := tg_Y hz; omega)) (fun h => by rcases h with h | h; (· cases h); (· have := tg_J h; omega)) (Or.inl fun z h => by rcases h with ((h | h) | h) | h; (· exact (h : False).elim); (· have := tg_H h; omega); (· have := tg_H h; omega); (· have := tg_H h; omega)) hb (fun ad1 ad2 h => by simp only [h (0, 0, 0, 0) (Or.inl (Or.inl (Or.inr (Or.inl rfl)))), h (0, 1, 0, 0) (Or.inl (Or.inr (Or.inl rfl))), h (0, 2, 0, 0) (Or.inr (Or.inl rfl))]) (fun _ => rfl) F6 (fs2 := fsY) (fun q hq => by match q, hq with | 0, _ => rfl | 1, _ => rfl | 2, _ => rfl) c_X6_init myX6_init (kR rfl) (kR rfl) closed_Y (by decide) wm2_163 rfl rfl rfl (kR rfl) wm1_207 rfl wm1_208 wm1_17 wm1_209 rfl dX10_init_37 dX10_init_38 dX10_init_41 dX10_init_42 dX10_init_45 (hq _ _ (kR rfl) (kR rfl)) fun ad4 G4 => ?_
  refine s_part (fs := fun ad => [.ref (ad (0, 0, 0, 0)), .ref (ad (0, 1, 0, 0)), .ref (ad (0, 2, 0, 0)), .int 0, .ref (ad (8, 11, 7, 0)), .null, .null, .null, .int 0]) (fs' := fun ad => [.ref (ad (0, 0, 0, 0)), .ref (ad (0, 1, 0, 0)), .ref (ad (0, 2, 0, 0)), .int 0, .ref (ad (8, 11, 7, 0)), .ref (ad (5, 11, 4, 0)), .null, .null, .int 0]) G4 F10 5 (7, 11, 6, 0) (5, 11, 4, 0) (IX) h0 (fun z hz h => h.elim (hn z (Or.inl (Or.inl (Or.inr hz)))) (fun h => by
          rcases h with (((h | h) | h) | h) | h
          · exact (h : False).elim
          · have h1 := tg_H h; have h2 := tg_X hz; omega
          · have h1 := tg_H h; have h2 := tg_X hz; omega
          · have h1 := tg_H h; have h2 := tg_X hz; omega
          · have h1 := tg_Y h; have h2 := tg_X hz; omega)) (fun h => by rcases h with h | h; (· exact h); (· have := tg_R h; omega)) (Or.inr fun q h => by have := tg_X h; omega) hb (fun ad1 ad2 h => by simp only [h (0, 0, 0, 0) (Or.inl (Or.inl (Or.inl (Or.inr (Or.inl rfl))))), h (0, 1, 0, 0) (Or.inl (Or.inl (Or.inr (Or.inl rfl)))), h (0, 2, 0, 0) (Or.inl (Or.inr (Or.inl rfl))), h (8, 11, 7, 0) (Or.inr (Or.inl rfl))]) (fun _ => rfl) F9 (fs2 := fsX) (fun q hq => by match q, hq with | 0, _ => rfl | 1, _ => rfl | 2, _ => rfl | 3, _ => rfl | 4, _ => rfl | 5, _ => rfl | 6, _ => rfl | 7, _ => rfl | 8, _ => rfl) c_X9_init myX9_init (kR rfl) (kR rfl) closed_X (by decide) wm2_164 rfl rfl rfl (kR rfl) wm1_227 rfl wm1_228 wm1_18 wm1_229 rfl dX10_init_48 dX10_init_49 dX10_init_52 dX10_init_53 dX10_init_56 (hq _ _ (kR rfl) (kR rfl)) fun ad5 G5 => ?_
  refine s_part (fs := fun ad => [.ref (ad (0, 0, 0, 0)), .ref (ad (0, 1, 0, 0)), .ref (ad (0, 2, 0, 0)), .int 0, .ref (ad (8, 11, 7, 0)), .ref (ad (5, 11, 4, 0)), .null, .null, .int 0]) (fs' := fun ad => [.ref (ad (0, 0, 0, 0)), .ref (ad (0, 1, 0, 0)), .ref (ad (0, 2, 0, 0)), .int 0, .ref (ad (8, 11, 7, 0)), .ref (ad (5, 11, 4, 0)), .ref (ad (6, 11, 5, 0)), .null, .int 0]) G5 F10 6 (7, 11, 6, 0) (6, 11, 5, 0) (IC) h0 (fun z hz h => h.elim (hn z (Or.inl (Or.inr hz))) (fun h => by
          rcases h with ((((h | h) | h) | h) | h) | h
          · exact (h : False).elim
          · have h1 := tg_H h; have h2 := tg_C hz; omega
          · have h1 := tg_H h; have h2 := tg_C hz; omega
          · have h1 := tg_H h; have h2 := tg_C hz; omega
          · have h1 := tg_Y h; have h2 := tg_C hz; omega
          · have h1 := tg_X h; have h2 := tg_C hz; omega)) (fun h => by have := tg_C (Or.inr h); have h2 := IC_1 h; omega) (Or.inr fun q h => by have := tg_C h; omega) hb (fun ad1 ad2 h => by simp only [h (0, 0, 0, 0) (Or.inl (Or.inl (Or.inl (Or.inl (Or.inr (Or.inl rfl)))))), h (0, 1, 0, 0) (Or.inl (Or.inl (Or.inl (Or.inr (Or.inl rfl))))), h (0, 2, 0, 0) (Or.inl (Or.inl (Or.inr (Or.inl rfl)))), h (8, 11, 7, 0) (Or.inl (Or.inr (Or.inl rfl))), h (5, 11, 4, 0) (Or.inr (Or.inl rfl))]) (fun _ => rfl) F2 (fs2 := fsC) (fun q hq => by match q, hq with | 0, _ => rfl | 1, _ => rfl | 2, _ => rfl | 3, _ => rfl | 4, _ => rfl) c_X2_init myX2_init (kR rfl) (kR rfl) closed_C (by decide) wm2_165 rfl rfl rfl (kR rfl) wm2_29 rfl wm2_30 wm1_19 wm2_31 rfl dX10_init_59 dX10_init_60 dX10_init_63 dX10_init_64 dX10_init_67 (hq _ _ (kR rfl) (kR rfl)) fun ad6 G6 => ?_
  refine s_row (l := 2) (fs := fun ad => [.ref (ad (0, 0, 0, 0)), .ref (ad (0, 1, 0, 0)), .ref (ad (0, 2, 0, 0)), .int 0, .ref (ad (8, 11, 7, 0)), .ref (ad (5, 11, 4, 0)), .ref (ad (6, 11, 5, 0)), .null, .int 0]) (fs' := fun ad => [.ref (ad (0, 0, 0, 0)), .ref (ad (0, 1, 0, 0)), .ref (ad (0, 2, 0, 0)), .int 0, .ref (ad (8, 11, 7, 0)), .ref (ad (5, 11, 4, 0)), .ref (ad (6, 11, 5, 0)), .ref (ad (3, 11, 6, 0)), .int 0]) G6 (kR rfl) F10 7 (7, 11, 6, 0) 11 6 0 h0 (fun z hz h => h.elim (hn z (Or.inr hz)) (fun h => by
          rcases h with (((((h | h) | h) | h) | h) | h) | h
          · exact (h : False).elim
          · have h1 := tg_H h; have h2 := tg_R hz; omega
          · have h1 := tg_H h; have h2 := tg_R hz; omega
          · have h1 := tg_H h; have h2 := tg_R hz; omega
          · have h1 := tg_Y h; have h2 := tg_R hz; omega
          · have h1 := tg_X h; have h2 := tg_R hz; omega
          · have h1 := tg_C h; have h2 := tg_R hz; omega)) hb (fun ad1 ad2 h => by simp only [h (0, 0, 0, 0) (Or.inl (Or.inl (Or.inl (Or.inl (Or.inl (Or.inr (Or.inl rfl))))))), h (0, 1, 0, 0) (Or.inl (Or.inl (Or.inl (Or.inl (Or.inr (Or.inl rfl)))))), h (0, 2, 0, 0) (Or.inl (Or.inl (Or.inl (Or.inr (Or.inl rfl))))), h (8, 11, 7, 0) (Or.inl (Or.inl (Or.inr (Or.inl rfl)))), h (5, 11, 4, 0) (Or.inl (Or.inr (Or.inl rfl))), h (6, 11, 5, 0) (Or.inr (Or.inl rfl))]) (fun _ => rfl) (by decide) wm2_166 rfl rfl rfl (kR rfl) wm2_54 rfl wm2_55 (by decide) (by decide) rfl rfl dX10_init_70 dX10_init_71 dX10_init_74 (fun C9 k9 => r_bipush C9 (v := nI 40) rfl dX10_init_75 k9) dX10_init_77 dX10_init_80 (hq _ _ (kR rfl) (kR rfl)) fun ad7 G7 => ?_
  have G : gH w IA ad7 X cX10_init "HedgeMessages" 5 1 329 6756 := G7
  change gU (wM w IA ad7) X _ _ _ _ _
  have C7 := G.2.1
  have hD7 := gD_C C7
  have hag7 := G.2.2.2.2.1
  have hbh7 := G.2.2.2.2.2.1
  have hW7 : gW (wM w IA ad7) := ⟨fun z hz => Or.inl (hz.elim (fun h => by rw [(honly z).mp h]; exact k7) A_okC), fun z hz => (okC_A hz).elim (fun h => Or.inl (by rw [h]; exact h0)) Or.inr, hD7⟩
  have tA : ∀ z, IA z → z.1 < 13 ∨ z.1 = 14 := fun z hz => by
    have h9 := A_okC hz
    obtain ⟨k, j, p, a⟩ := z
    by_cases hk : k < 13
    · exact Or.inl hk
    · exfalso
      match k, hk, h9 with
      | k + 13, _, h9 => exact h9
  have hS7 : gS (wM w IA ad7) := gS_M hS hag7 tA
  have hY7 : gY (wM w IA ad7) := hY
  have hb7 : b = wAd (wM w IA ad7) (7, 11, 6, 0) := ((hag7.1 _ (hD.2.1 _ h0)).trans hb).symm
  refine gU_P (ct' := cA (wM w IA ad7) Om0) (fun z hz => ?_) ?_
  · unfold cO
    by_cases h7 : z = (7, 11, 6, 0)
    · subst h7
      rw [upE_s]
      rfl
    · rw [upE_n h7]
      rcases hz with hz | hz
      · exact absurd ((honly z).mp hz) h7
      · exact cN_in hz
  rw [hb7]
  refine r_aload_n C7 (k := 0) rfl rfl dX10_init_83 ?_
  refine og_7_0 C7 (hW7.ok k7) wm2_159 dX10_init_84 ?_
  refine r_bipush C7 (v := 16) rfl dX10_init_87 ?_
  refine r_iconst C7 (v := 4) rfl dX10_init_89 ?_
  refine r_iconst C7 (v := 2) rfl dX10_init_90 ?_
  refine r_iconst C7 (v := 5) rfl dX10_init_91 ?_
  refine r_iconst C7 (v := 3) rfl dX10_init_92 ?_
  refine r_iconst C7 (v := 4) rfl dX10_init_93 ?_
  refine r_callV C7 (d' := 2) [.int 16, .int 4, .int 2, .int 5, .int 3, .int 4] (c_X5_layOut hW7 (by decide) (Ω := Om0) rfl 16 4 2 5 3 4 (h' := hI0) rfl (Ω' := sH Om0 0 hI0) rfl) myX5_layOut wm2_56 ⟨_, _, _, _, hW7.ok (k0 (by decide)), rfl, rfl, rfl, rfl⟩ rfl (kR rfl) (by decide) (kR rfl) rfl dX10_init_94 ?_ (hq 323 6743 (kR rfl) (kR rfl))
  refine r_aload_n C7 (k := 0) rfl rfl dX10_init_97 ?_
  refine og_7_0 C7 (hW7.ok k7) wm2_159 dX10_init_98 ?_
  refine r_iconst C7 (v := 2) rfl dX10_init_101 ?_
  refine r_bipush C7 (v := 113) rfl dX10_init_102 ?_
  refine r_iconst C7 (v := 0) rfl dX10_init_104 ?_
  refine r_iconst C7 (v := 3) rfl dX10_init_105 ?_
  refine r_callV C7 (d' := 1) [.int 2, .int 113, .int 0, .int 3] (c_X5_placeTwig hW7 (by decide) (Ω := (sH Om0 0 hI0)) sH_g 2 113 0 3 (h' := hI1) rfl (Ω' := sH Om0 0 hI1) sH_H) myX5_placeTwig wm2_72 ⟨_, _, _, _, hW7.ok (k0 (by decide)), rfl, rfl, rfl, rfl⟩ rfl (kR rfl) (by decide) (kR rfl) rfl dX10_init_106 ?_ (hq 323 6743 (kR rfl) (kR rfl))
  refine r_aload_n C7 (k := 0) rfl rfl dX10_init_109 ?_
  refine og_7_0 C7 (hW7.ok k7) wm2_159 dX10_init_110 ?_
  refine r_bipush C7 (v := 9) rfl dX10_init_113 ?_
  refine r_bipush C7 (v := 114) rfl dX10_init_115 ?_
  refine r_iconst C7 (v := 1) rfl dX10_init_117 ?_
  refine r_bipush C7 (v := 6) rfl dX10_init_118 ?_
  refine r_callV C7 (d' := 1) [.int 9, .int 114, .int 1, .int 6] (c_X5_placeTwig hW7 (by decide) (Ω := (sH Om0 0 hI1)) sH_g 9 114 1 6 (h' := hI2) rfl (Ω' := sH Om0 0 hI2) sH_H) myX5_placeTwig wm2_72 ⟨_, _, _, _, hW7.ok (k0 (by decide)), rfl, rfl, rfl, rfl⟩ rfl (kR rfl) (by decide) (kR rfl) rfl dX10_init_120 ?_ (hq 323 6743 (kR rfl) (kR rfl))
  refine r_aload_n C7 (k := 0) rfl rfl dX10_init_123 ?_
  refine og_7_0 C7 (hW7.ok k7) wm2_159 dX10_init_124 ?_
  refine r_bipush C7 (v := 10) rfl dX10_init_127 ?_
  refine r_iconst C7 (v := 5) rfl dX10_init_129 ?_
  refine r_callV C7 (d' := 1) [.int 10, .int 5] (c_X5_placeNest hW7 (by decide) (Ω := (sH Om0 0 hI2)) sH_g 10 5 (h' := hI3) rfl (Ω' := sH Om0 0 hI3) sH_H) myX5_placeNest wm2_80 ⟨_, _, _, _, hW7.ok (k0 (by decide)), rfl, rfl, rfl, rfl⟩ rfl (kR rfl) (by decide) (kR rfl) rfl dX10_init_130 ?_ (hq 323 6743 (kR rfl) (kR rfl))
  refine r_aload_n C7 (k := 0) rfl rfl dX10_init_133 ?_
  refine og_7_0 C7 (hW7.ok k7) wm2_159 dX10_init_134 ?_
  refine r_iconst C7 (v := 0) rfl dX10_init_137 ?_
  refine r_ldcS C7 ((hS7.s C7).imp fun _ _ _ h => h.2.2.1 0 (by decide)) dX10_init_138 ?_
  have hfr8 : ∀ q, q = 3 ∨ q = 4 → ¬ wOk (wM w IA ad7) (q, 20, 9, 0) := by
    intro q hq9 h
    rcases h with h | h
    · have h1 := (honly _).mp h; simp at h1
    · have h1 := A_okC h; rcases hq9 with rfl | rfl <;> (rcases h1 with ⟨h1, _⟩ | ⟨h1, _⟩ <;> simp at h1)
  refine r_callA C7 (d' := 4) [.int 0, .ref (sAd (wM w IA ad7) 0)] (c_X5_receiveText hW7 hS7 hY7 (p := 9) (sx := 0) (by decide) (hfr8 3 (Or.inl rfl)) (hfr8 4 (Or.inr rfl)) (by decide) (by decide) (by decide) (by decide) (Ω := (sH Om0 0 hI3)) sH_g 0 (h' := hI4) rfl) myX5_receiveText wm2_85 ⟨_, _, _, _, hW7.ok (k0 (by decide)), rfl, rfl, rfl, rfl⟩ rfl (kR rfl) (by decide) (kR rfl) rfl dX10_init_140 (hq 325 6749 (kR rfl) (kR rfl)) fun ad8 hag8 hbh8 C8 => ?_
  have hW8 : gW (wM (wM w IA ad7) (IR 20 9 0) ad8) := gW_M hW7 (fun z hz => by rcases hz with rfl | rfl; exact okT3 (by decide); exact okT4 (by decide)) (gD_C C8)
  have hS8 : gS (wM (wM w IA ad7) (IR 20 9 0) ad8) := gS_M hS7 hag8 (fun z hz => by have := tg_R hz; omega)
  rw [show wAd (wM w IA ad7) (7, 11, 6, 0) = wAd (wM (wM w IA ad7) (IR 20 9 0) ad8) (7, 11, 6, 0) from (hag8.1 _ (hW7.ok k7)).symm]
  refine r_aload_n C8 (k := 0) rfl rfl dX10_init_143 ?_
  refine og_7_0 C8 (hW8.ok k7) wm2_159 dX10_init_144 ?_
  refine r_iconst C8 (v := 1) rfl dX10_init_147 ?_
  refine r_ldcS C8 ((hS8.s C8).imp fun _ _ _ h => h.2.2.1 1 (by decide)) dX10_init_148 ?_
  have hfr9 : ∀ q, q = 3 ∨ q = 4 → ¬ wOk (wM (wM w IA ad7) (IR 20 9 0) ad8) (q, 20, 10, 0) := by
    intro q hq9 h
    rcases h with (h | h) | h
    · have h1 := (honly _).mp h; simp at h1
    · have h1 := A_okC h; rcases hq9 with rfl | rfl <;> (rcases h1 with ⟨h1, _⟩ | ⟨h1, _⟩ <;> simp at h1)
    · have h1 := tg_R h; simp at h1
  refine r_callA C8 (d' := 4) [.int 1, .ref (sAd (wM (wM w IA ad7) (IR 20 9 0) ad8) 1)] (c_X5_receiveText hW8 hS8 hY7 (p := 10) (sx := 1) (by decide) (hfr9 3 (Or.inl rfl)) (hfr9 4 (Or.inr rfl)) (by decide) (by decide) (by decide) (by decide) (Ω := (OmT (sH Om0 0 hI3) 9 0 hI4)) sH_g 1 (h' := hI5) rfl) myX5_receiveText wm2_85 ⟨_, _, _, _, hW8.ok (k0 (by decide)), rfl, rfl, rfl, rfl⟩ rfl (kR rfl) (by decide) (kR rfl) rfl dX10_init_150 (hq 327 6753 (kR rfl) (kR rfl)) fun ad9 hag9 hbh9 C9 => ?_
  have hW9 : gW (wM (wM (wM w IA ad7) (IR 20 9 0) ad8) (IR 20 10 0) ad9) := gW_M hW8 (fun z hz => by rcases hz with rfl | rfl; exact okT3 (by decide); exact okT4 (by decide)) (gD_C C9)
  have hS9 : gS (wM (wM (wM w IA ad7) (IR 20 9 0) ad8) (IR 20 10 0) ad9) := gS_M hS8 hag9 (fun z hz => by have := tg_R hz; omega)
  rw [show wAd (wM (wM w IA ad7) (IR 20 9 0) ad8) (7, 11, 6, 0) = wAd (wM (wM (wM w IA ad7) (IR 20 9 0) ad8) (IR 20 10 0) ad9) (7, 11, 6, 0) from (hag9.1 _ (hW8.ok k7)).symm]
  refine r_aload_n C9 (k := 0) rfl rfl dX10_init_153 ?_
  refine og_7_0 C9 (hW9.ok k7) wm2_159 dX10_init_154 ?_
  refine r_iconst C9 (v := 0) rfl dX10_init_157 ?_
  refine r_ldcS C9 ((hS9.s C9).imp fun _ _ _ h => h.2.2.1 2 (by decide)) dX10_init_158 ?_
  have hfr10 : ∀ q, q = 3 ∨ q = 4 → ¬ wOk (wM (wM (wM w IA ad7) (IR 20 9 0) ad8) (IR 20 10 0) ad9) (q, 20, 11, 0) := by
    intro q hq9 h
    rcases h with ((h | h) | h) | h
    · have h1 := (honly _).mp h; simp at h1
    · have h1 := A_okC h; rcases hq9 with rfl | rfl <;> (rcases h1 with ⟨h1, _⟩ | ⟨h1, _⟩ <;> simp at h1)
    · have h1 := tg_R h; simp at h1
    · have h1 := tg_R h; simp at h1
  refine r_callA C9 (d' := 4) [.int 0, .ref (sAd (wM (wM (wM w IA ad7) (IR 20 9 0) ad8) (IR 20 10 0) ad9) 2)] (c_X5_receiveText hW9 hS9 hY7 (p := 11) (sx := 2) (by decide) (hfr10 3 (Or.inl rfl)) (hfr10 4 (Or.inr rfl)) (by decide) (by decide) (by decide) (by decide) (Ω := (OmT (OmT (sH Om0 0 hI3) 9 0 hI4) 10 1 hI5)) sH_g 0 (h' := hI6) rfl) myX5_receiveText wm2_85 ⟨_, _, _, _, hW9.ok (k0 (by decide)), rfl, rfl, rfl, rfl⟩ rfl (kR rfl) (by decide) (kR rfl) rfl dX10_init_160 (hq 329 6756 (kR rfl) (kR rfl)) fun ad10 hag10 hbh10 C10 => ?_
  have hW10 : gW (wM (wM (wM (wM w IA ad7) (IR 20 9 0) ad8) (IR 20 10 0) ad9) (IR 20 11 0) ad10) := gW_M hW9 (fun z hz => by rcases hz with rfl | rfl; exact okT3 (by decide); exact okT4 (by decide)) (gD_C C10)
  have hS10 : gS (wM (wM (wM (wM w IA ad7) (IR 20 9 0) ad8) (IR 20 10 0) ad9) (IR 20 11 0) ad10) := gS_M hS9 hag10 (fun z hz => by have := tg_R hz; omega)
  rw [show wAd (wM (wM (wM w IA ad7) (IR 20 9 0) ad8) (IR 20 10 0) ad9) (7, 11, 6, 0) = wAd (wM (wM (wM (wM w IA ad7) (IR 20 9 0) ad8) (IR 20 10 0) ad9) (IR 20 11 0) ad10) (7, 11, 6, 0) from (hag10.1 _ (hW9.ok k7)).symm]
  have e8 : wM (wM w IA ad7) (IR 20 9 0) ad8 = wM w (fun k => IA k ∨ IR 20 9 0 k) ad8 := wM_M
  have e9 : wM (wM (wM w IA ad7) (IR 20 9 0) ad8) (IR 20 10 0) ad9 = wM w (fun k => (IA k ∨ IR 20 9 0 k) ∨ IR 20 10 0 k) ad9 := by rw [e8]; exact wM_M
  have eW : (wM (wM (wM (wM w IA ad7) (IR 20 9 0) ad8) (IR 20 10 0) ad9) (IR 20 11 0) ad10) = wM w IB ad10 := by rw [e9]; exact wM_M
  have hag8F := gAg_M hag7 hag8
  have hbh8F := gBh_M hbh7 hag8 hbh8
  rw [e8] at hag9
  have hag9F := gAg_M hag8F hag9
  have hbh9F := gBh_M hbh8F hag9 hbh9
  rw [e9] at hag10
  have hagB : gAg w IB ad10 := gAg_M hag9F hag10
  have hbhB : gBh X IB ad10 := gBh_M hbh9F hag10 hbh10
  rw [eW] at C10 ⊢
  exact r_nend (w := w) (w2 := wM w IB ad10) (I := IB) rfl rfl C10 hD (fun _ h => h) hagB hbhB (fun _ _ => rfl) dX10_init_163
