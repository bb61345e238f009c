/-! ===== a text of a hedge: nests, messages, all of a statement ===== -/
theorem sT_e (Q : SS) (g : HV) : sT Q g = up Q 11 (up (Q 11) 4 g) := rfl
theorem n0 : (nI 0 : Int32) = 0 := rfl
theorem n1 : (nI 1 : Int32) = 1 := rfl
/-- before a token, both sides: what reading it leaves -/
theorem PJ_tok {B : Nat → Nat} {n p T : Nat} {A : AS} {S0 S : SS} {t0 t : HV} {g' : HV} (h : PJ B n p A T S0 t0 S t) (k : CK B n p (S 11 4) g') (hk1 : tK B n p = 1) : PJ B n (tE B n p) A T S0 t0 (sT S g') (sS (nxT B n p t) 12 (((nxT B n p t).1 13) + ((nxT B n p t).1 14))) := by
  obtain ⟨⟨h1, h2, h3, h4, h5, h6, h7⟩, ⟨m1, m2, m3, m4, m5, m6⟩, i1⟩ := h
  have he := tE_le (B := B) h1
  refine ⟨⟨he.2, by rw [sT_4]; exact CK_B h2 k, by rw [sT_4]; exact k.2.2.1, by rw [sT_4, k.2.2.2.2.2.2 7 (by decide)]; exact h4, by rw [sT_4, k.2.2.2.2.2.2 8 (by decide)]; exact h5, by rw [sT_o (by decide)]; exact h6, fS_T h7⟩, ⟨MB_f (MB_f m1 nx_f) (fr_s fr_r (by decide) (by decide)), ?_, ?_, ?_, m5, fm_S (fm_t m6 (fr_fm nx_f)) (by omega)⟩, i1⟩
  · rw [sS_1, nx_13, nx_14, wlN_1 hk1, Z_add]
    congr 1
    omega
  · rw [sS_1n (by decide), nx_o (by omega)]; exact m3
  · rw [sS_1n (by decide), nx_o (by omega)]; exact m4
theorem JX_lt {B : Nat → Nat} {n p p2 T : Nat} {S0 : SS} {t0 : HV} {F : Option (Bool × SS)} {G : Option HV} (h : JX B n p2 T S0 t0 F G) (hp : p ≤ p2) : JX B n p T S0 t0 F G := by
  obtain ⟨b, S', t', e1, e2, q⟩ := h
  refine ⟨b, S', t', e1, e2, ?_⟩
  rcases q with ⟨rfl, p', A', hp', y⟩ | ⟨rfl, y⟩
  · exact Or.inl ⟨rfl, p', A', by omega, y⟩
  · exact Or.inr ⟨rfl, y⟩
