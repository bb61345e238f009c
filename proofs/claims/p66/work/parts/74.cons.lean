/-! ===== cons 5: constructors of the list of commands and of the history ===== -/
theorem tg_A {z : ID} (h : one (10, 11, 5, 0) z) : z.1 = 10 ∧ z.2.1 = 11 ∧ z.2.2.1 = 5 := by
  cases h
  exact ⟨rfl, rfl, rfl⟩
theorem closed_A : closed (one (10, 11, 5, 0)) := by
  refine ⟨fun i h => ?_, fun i h k hk => ?_⟩
  · cases h; exact kR rfl
  · cases h
    simp [kids] at hk
section STEP2
variable {w : WP} {I : ID → Prop} {ad : ID → Nat} {X : CX} {cc : ByteArray} {own : String} {ret : Option FieldType} {d nL mc ms : Nat} {Q : QT} {ct : CT} {pc : Nat} {lo : List (Nat × Value)} {st : List Value}
/-- this.f = new CommandForm[30] -/
theorem s_arr (G : gH w I ad X cc own d nL mc ms) {ci N idxF idxC : Nat} {cl : String} {T : u_T} {ty : Nat → FieldType} (F : gF ci cl T N ty) (k : Nat) (i0 : ID) (h0 : wFr w i0) (hN : ¬ (wOk w (10, 11, 5, 0) ∨ I (10, 11, 5, 0))) {b : Nat} (hb : wAd w i0 = b) {fs fs' : (ID → Nat) → List Value} (hfs : ∀ ad1 ad2 : ID → Nat, (∀ z, I z → ad1 z = ad2 z) → fs ad1 = fs ad2) (hfs' : ∀ ad, fs' ad = (fs ad).set k (.ref (ad (10, 11, 5, 0)))) (hk : k < N) (hlink : Cond.fieldLink own idxF (T k).1 (T k).2.1 (T k).2.2.1 ∈ lw_tbl) (hfin : (T k).2.2.2 = true) (hdecl : (T k).1 = own) (hty : ty k = .array (.object "HedgeMessages$CommandForm")) (hlen : k < (fs ad).length) (hcl : Cond.classLink own idxC "HedgeMessages$CommandForm" ∈ lw_tbl) (hck : tkw (Cond.classLink own idxC "HedgeMessages$CommandForm") = true) (hlo : lo[0]? = some (0, .ref b))
    (d0 : decode cc pc = .ok (.aload_n 0, 1)) (d1 : decode cc (pc + 1) = .ok (.bipush 30, 2)) (d2 : decode cc (pc + 1 + 2) = .ok (.anewarray idxC, 3)) (d3 : decode cc (pc + 1 + 2 + 3) = .ok (.putfield idxF, 3))
    (hq : qOk X (Q.1, Q.2.1 + 1, Q.2.2 + 30))
    (kk : ∀ ad', gH w (fun z => I z ∨ one (10, 11, 5, 0) z) ad' X cc own d nL mc ms → gU (wM w (fun z => I z ∨ one (10, 11, 5, 0) z) ad') X (Q.1, Q.2.1 + 1, Q.2.2 + 30) (cO (wM w (fun z => I z ∨ one (10, 11, 5, 0) z) ad') (fun z => I z ∨ one (10, 11, 5, 0) z) ct i0 (.inr (ci, fs' ad'))) (pc + 1 + 2 + 3 + 3) lo []) : gU (wM w I ad) X Q (cO (wM w I ad) I ct i0 (.inr (ci, fs ad))) pc lo [] := by
  obtain ⟨hD, C, hT, hY, hag, hbh, hclo, hIf⟩ := G
  have h0o : wOk w i0 := hD.2.1 i0 h0
  have h0I : ¬ I i0 := fun h => hIf i0 h h0o
  have h0N : i0 ≠ (10, 11, 5, 0) := fun h => hN (Or.inl (h ▸ h0o))
  refine r_aload_n C (k := 0) hlo rfl d0 ?_
  refine r_bipush C (v := nI 30) rfl d1 ?_
  refine r_newQ C 2 rfl hcl hck (fun A U H h => (hY A U H h).2.2.2) (10, 11, 5, 0) hN (x := nI 30) (N := 30) (by decide) rfl (by decide) d2 hq fun q hag1 hbh1 C1 => ?_
  have hagF := gAg_M hag hag1
  have hbhF := gBh_M hbh hag1 hbh1
  have hq9 : adU (wM w I ad) (10, 11, 5, 0) q (10, 11, 5, 0) = q := if_pos rfl
  rw [wM_M] at C1
  rw [wM_M]
  refine r_putR C1 hT F k i0 (Or.inl h0) ((hagF.1 i0 h0o).trans hb) (fs := fs ad) ?_ hk hlink hfin hdecl (by rw [hty]; rfl) (by rw [hty]; rfl) hlen d3 (ct' := cO (wM w (fun z => I z ∨ one (10, 11, 5, 0) z) (adU (wM w I ad) (10, 11, 5, 0) q)) (fun z => I z ∨ one (10, 11, 5, 0) z) ct i0 (.inr (ci, fs' (adU (wM w I ad) (10, 11, 5, 0) q)))) (fun z _ => ?_) (kk _ ⟨hD, C1, hT, hY, hagF, hbhF, closed_or hclo closed_A, fun z hz => hz.elim (hIf z) (fun h h9 => by cases h; exact hN (Or.inl h9))⟩)
  · rw [upE_n h0N]
    unfold cO
    rw [upE_s]
  · unfold cO
    by_cases h1 : z = i0
    · subst h1
      rw [upE_s, upE_s, hfs', hfs (adU (wM w I ad) (10, 11, 5, 0) q) ad (fun z hz => hag1.1 z (Or.inr hz)), hq9]
    · rw [upE_n h1, upE_n h1]
      by_cases hz : z = (10, 11, 5, 0)
      · subst hz
        rw [upE_s, cN_in (Or.inr rfl)]
        show _ = (Sum.inl (wFs w, 30, .inr (.inr (.inr (.inr (fun _ => dForm (wM w (fun z => I z ∨ one (10, 11, 5, 0) z) (adU (wM w I ad) (10, 11, 5, 0) q)) 0))))) : va_E)
        rw [dF_z]
        rfl
      · rw [upE_n hz, upE_n h1]
        refine cN_grow (N := one (10, 11, 5, 0)) hclo (fun z h => by cases h; exact hN) hag1 (Or.inr (fun q h => by cases h)) z hz
/-- an object of the world laid into a row of references -/
theorem r_aastW (C : gC w X cc own ret d nL) (i i2 : ID) (hi : wFr w i) (hi2 : wOk w i2) (t0 : Nat) {cA9 : ClassId} {n : Nat} {f : Nat → Option Nat} (hct : ct i = .inl (cA9, n, .inr (.inr (.inr (.inr f))))) {ci2 : Nat} {fs2 : List Value} (hct2 : ct i2 = .inr (ci2, fs2)) {r : vw_C} (hr : vwCl[ci2]? = some r) (ht : (wTy w)[t0]? = some (cA9, .object r.1)) {j : Int32} (hin : vp_in j n) (hd : decode cc pc = .ok (.aastore, 1)) {ct' : CT} (hct' : ∀ q, wOk w q → upE ct i (.inl (cA9, n, .inr (.inr (.inr (.inr (va_up f j.toNatClampNeg (some (wAd w i2)))))))) q = ct' q) (kk : gU w X Q ct' (pc + 1) lo st) : gU w X Q ct pc lo (.ref (wAd w i2) :: .int j :: .ref (wAd w i) :: st) := by
  obtain ⟨p, e, R, s, m, args, below, meth, c, n9, A⟩ := X
  intro H locs ls hP hS hl
  have hA : A = gA w s.heap.size := C.2.2.2.2.2.2.2.2.2.1
  subst hA
  have hlt : j.toNatClampNeg < n := Nat.not_le.mp fun q => hin (Or.inr q)
  have h0 : ¬ j < 0 := fun q => hin (Or.inl q)
  have hoi := C.2.2.2.2.2.1.2.1 i hi
  have h1 := hP i hoi
  rw [hct] at h1
  have h2 := hP i2 hi2
  rw [hct2] at h2
  obtain ⟨r', hr', cellV, g1, g2, g3, -⟩ := h2
  have hcls := (C.2.2.2.2.1.2.1 ci2 r hr).2
  obtain ⟨kA, comp, k1, k2, k3, -⟩ := (C.2.2.2.2.1.2.2 t0 _ ht).2
  have hcomp : comp = (wD w).1 ci2 := Option.some.inj (k3.symm.trans hcls.1)
  subst hcomp
  obtain ⟨kC, hkC, -⟩ := hcls.2
  refine W.aast C.1 C.2.1 h1 (fun q h => by cases h) (fun h => by cases h) k1 k2 rfl hkC ⟨h0, by show _ < (arrV _ _ _).slots.size; rw [arrV_size]; exact hlt⟩ g1 (fun q h => by rw [g3] at h; cases h) (by rw [g2]; exact hkC) (by rw [g2]; exact va_assign hcls) rfl rfl hd fun H1 e z oq => ?_
  refine kk H1 _ ls (gP_cong hct' <| gP_put C.2.2.2.2.2.1 hoi hP ?_ oq) (hS.put z oq (Or.inl ⟨i, hi, rfl⟩)) hl
  show H1[wAd w i]? = some (vp_cell _ _)
  rw [e]
  rw [vp_cell_q, vp_cell_q, arrV_store]
  congr 2
  funext q
  by_cases hq : q = j.toNatClampNeg
  · subst hq
    simp [updV, va_up, va_rf]
  · simp [updV, va_up, hq]
/-- a row of references, told by another function that agrees on its cells -/
theorem r_arrc {i : ID} {cA9 : ClassId} {n : Nat} {f f' : Nat → Option Nat} (hct : ct i = .inl (cA9, n, .inr (.inr (.inr (.inr f))))) (hf : ∀ q, q < n → f q = f' q) (kk : gU w X Q (upE ct i (.inl (cA9, n, .inr (.inr (.inr (.inr f')))))) pc lo st) : gU w X Q ct pc lo st := by
  obtain ⟨p, e, R, s, m, args, below, meth, c, n9, A⟩ := X
  intro H locs ls hP hS hl
  refine kk H locs ls (fun k hk => ?_) hS hl
  by_cases h : k = i
  · subst h
    have h1 := hP k hk
    rw [hct] at h1
    rw [upE_s]
    have e2 : vp_cell cA9 (n, .inr (.inr (.inr (.inr f')))) = vp_cell cA9 (n, .inr (.inr (.inr (.inr f)))) := by
      rw [vp_cell_q, vp_cell_q]
      unfold arrV
      congr 2
      funext q
      show va_rf (f' q.val) = va_rf (f q.val)
      rw [hf q.val q.isLt]
    show H[wAd w k]? = some (vp_cell _ _)
    rw [e2]
    exact h1
  · rw [upE_n h]
    exact hP k hk
end STEP2
theorem dX2_init_0 : decode cX2_init 0 = .ok (.aload_n 0, 1) := by decide +kernel
theorem dX2_init_1 : decode cX2_init 1 = .ok (.invokespecial 3, 3) := by decide +kernel
theorem dX2_init_4 : decode cX2_init 4 = .ok (.aload_n 0, 1) := by decide +kernel
theorem dX2_init_5 : decode cX2_init 5 = .ok (.bipush 30, 2) := by decide +kernel
theorem dX2_init_7 : decode cX2_init 7 = .ok (.anewarray 9, 3) := by decide +kernel
theorem dX2_init_10 : decode cX2_init 10 = .ok (.putfield 11, 3) := by decide +kernel
theorem dX2_init_13 : decode cX2_init 13 = .ok (.aload_n 0, 1) := by decide +kernel
theorem dX2_init_14 : decode cX2_init 14 = .ok (.new 17, 3) := by decide +kernel
theorem dX2_init_17 : decode cX2_init 17 = .ok (.dup, 1) := by decide +kernel
theorem dX2_init_18 : decode cX2_init 18 = .ok (.bipush 30, 2) := by decide +kernel
theorem dX2_init_20 : decode cX2_init 20 = .ok (.invokespecial 19, 3) := by decide +kernel
theorem dX2_init_23 : decode cX2_init 23 = .ok (.putfield 22, 3) := by decide +kernel
theorem dX2_init_26 : decode cX2_init 26 = .ok (.aload_n 0, 1) := by decide +kernel
theorem dX2_init_27 : decode cX2_init 27 = .ok (.new 17, 3) := by decide +kernel
theorem dX2_init_30 : decode cX2_init 30 = .ok (.dup, 1) := by decide +kernel
theorem dX2_init_31 : decode cX2_init 31 = .ok (.bipush 30, 2) := by decide +kernel
theorem dX2_init_33 : decode cX2_init 33 = .ok (.invokespecial 19, 3) := by decide +kernel
theorem dX2_init_36 : decode cX2_init 36 = .ok (.putfield 26, 3) := by decide +kernel
theorem dX2_init_39 : decode cX2_init 39 = .ok (.aload_n 0, 1) := by decide +kernel
theorem dX2_init_40 : decode cX2_init 40 = .ok (.new 17, 3) := by decide +kernel
theorem dX2_init_43 : decode cX2_init 43 = .ok (.dup, 1) := by decide +kernel
theorem dX2_init_44 : decode cX2_init 44 = .ok (.bipush 30, 2) := by decide +kernel
theorem dX2_init_46 : decode cX2_init 46 = .ok (.invokespecial 19, 3) := by decide +kernel
theorem dX2_init_49 : decode cX2_init 49 = .ok (.putfield 29, 3) := by decide +kernel
theorem dX2_init_52 : decode cX2_init 52 = .ok (.return_, 1) := by decide +kernel
theorem myX2_init : gYI yX2_init cX2_init 1 0 := ⟨wm2_33, wm1_19, ⟨by decide, by decide, by decide +kernel⟩, wm2_32, rfl⟩
def IC : ID → Prop := fun z => ((((IZ z ∨ one (10, 11, 5, 0) z) ∨ IR 11 5 1 z) ∨ IR 11 5 2 z) ∨ IR 11 5 3 z)
def fsC : List Value := [.null, .null, .null, .null, .int 0]
set_option maxRecDepth 20000 in
theorem c_X2_init : gCon yX2_init cX2_init 1 0 fsC (6, 11, 5, 0) (IC) 2 7 123 := by
  intro w hD hY h0 hn b hb ct hct
  refine gMn_of "HedgeMessages$CommandList" rfl rfl (by decide) (kR rfl) fun X C hT => ?_
  have hq : ∀ c n, c ≤ 7 → n ≤ 123 → qOk X ((qN1 w X (IC) (fun ad => cN (wM w (IC) ad) (fun z => z = (6, 11, 5, 0) ∨ IC z) ct) 7 123), c, n) := by
    intro c n hc hn
    obtain ⟨p, e, R, s, m, args, below, meth, c9, nn, A⟩ := X
    exact ⟨Nat.le_trans hc hT.1, Nat.le_trans hn hT.2.1⟩
  show gU w X _ _ 0 [(0, .ref b)] []
  refine r_aload_n C (k := 0) rfl rfl dX2_init_0 ?_
  refine r_objInit C wm2_34 (kR rfl) (kR rfl) dX2_init_1 ?_
  refine s_start hct ?_
  have G0 := gH_0 C hT hY
  refine s_arr (fs := fun ad => [.null, .null, .null, .null, .int 0]) (fs' := fun ad => [.ref (ad (10, 11, 5, 0)), .null, .null, .null, .int 0]) G0 F2 0 (6, 11, 5, 0) h0 (fun h => h.elim (hn _ (Or.inl (Or.inl (Or.inl (Or.inr rfl))))) (fun h => by
          exact (h : False).elim)) hb (fun _ _ _ => rfl) (fun _ => rfl) (by decide) wm2_39 rfl rfl rfl (kR rfl) wm2_35 rfl rfl dX2_init_4 dX2_init_5 dX2_init_7 dX2_init_10 (hq _ _ (kR rfl) (kR rfl)) fun ad1 G1 => ?_
  refine s_row (l := 2) (fs := fun ad => [.ref (ad (10, 11, 5, 0)), .null, .null, .null, .int 0]) (fs' := fun ad => [.ref (ad (10, 11, 5, 0)), .ref (ad (3, 11, 5, 1)), .null, .null, .int 0]) G1 (kR rfl) F2 1 (6, 11, 5, 0) 11 5 1 h0 (fun z hz h => h.elim (hn z (Or.inl (Or.inl (Or.inr hz)))) (fun h => by
          rcases h with h | h
          · exact (h : False).elim
          · have h1 := tg_A h; have h2 := tg_R hz; omega)) hb (fun ad1 ad2 h => by simp only [h (10, 11, 5, 0) (Or.inr rfl)]) (fun _ => rfl) (by decide) wm2_40 rfl rfl rfl (kR rfl) wm2_37 rfl wm2_38 (by decide) (by decide) rfl rfl dX2_init_13 dX2_init_14 dX2_init_17 (fun C9 k9 => r_bipush C9 (v := nI 30) rfl dX2_init_18 k9) dX2_init_20 dX2_init_23 (hq _ _ (kR rfl) (kR rfl)) fun ad2 G2 => ?_
  refine s_row (l := 2) (fs := fun ad => [.ref (ad (10, 11, 5, 0)), .ref (ad (3, 11, 5, 1)), .null, .null, .int 0]) (fs' := fun ad => [.ref (ad (10, 11, 5, 0)), .ref (ad (3, 11, 5, 1)), .ref (ad (3, 11, 5, 2)), .null, .int 0]) G2 (kR rfl) F2 2 (6, 11, 5, 0) 11 5 2 h0 (fun z hz h => h.elim (hn z (Or.inl (Or.inr hz))) (fun h => by
          rcases h with (h | h) | h
          · exact (h : False).elim
          · have h1 := tg_A h; have h2 := tg_R hz; omega
          · have h1 := tg_R h; have h2 := tg_R hz; omega)) hb (fun ad1 ad2 h => by simp only [h (10, 11, 5, 0) (Or.inl (Or.inr rfl)), h (3, 11, 5, 1) (Or.inr (Or.inl rfl))]) (fun _ => rfl) (by decide) wm2_41 rfl rfl rfl (kR rfl) wm2_37 rfl wm2_38 (by decide) (by decide) rfl rfl dX2_init_26 dX2_init_27 dX2_init_30 (fun C9 k9 => r_bipush C9 (v := nI 30) rfl dX2_init_31 k9) dX2_init_33 dX2_init_36 (hq _ _ (kR rfl) (kR rfl)) fun ad3 G3 => ?_
  refine s_row (l := 2) (fs := fun ad => [.ref (ad (10, 11, 5, 0)), .ref (ad (3, 11, 5, 1)), .ref (ad (3, 11, 5, 2)), .null, .int 0]) (fs' := fun ad => [.ref (ad (10, 11, 5, 0)), .ref (ad (3, 11, 5, 1)), .ref (ad (3, 11, 5, 2)), .ref (ad (3, 11, 5, 3)), .int 0]) G3 (kR rfl) F2 3 (6, 11, 5, 0) 11 5 3 h0 (fun z hz h => h.elim (hn z (Or.inr hz)) (fun h => by
          rcases h with ((h | h) | h) | h
          · exact (h : False).elim
          · have h1 := tg_A h; have h2 := tg_R hz; omega
          · have h1 := tg_R h; have h2 := tg_R hz; omega
          · have h1 := tg_R h; have h2 := tg_R hz; omega)) hb (fun ad1 ad2 h => by simp only [h (10, 11, 5, 0) (Or.inl (Or.inl (Or.inr rfl))), h (3, 11, 5, 1) (Or.inl (Or.inr (Or.inl rfl))), h (3, 11, 5, 2) (Or.inr (Or.inl rfl))]) (fun _ => rfl) (by decide) wm2_42 rfl rfl rfl (kR rfl) wm2_37 rfl wm2_38 (by decide) (by decide) rfl rfl dX2_init_39 dX2_init_40 dX2_init_43 (fun C9 k9 => r_bipush C9 (v := nI 30) rfl dX2_init_44 k9) dX2_init_46 dX2_init_49 (hq _ _ (kR rfl) (kR rfl)) fun ad4 G4 => ?_
  exact s_end (fs := fun ad => [.ref (ad (10, 11, 5, 0)), .ref (ad (3, 11, 5, 1)), .ref (ad (3, 11, 5, 2)), .ref (ad (3, 11, 5, 3)), .int 0]) G4 rfl dX2_init_52
theorem closed_C : closed (fun z => z = (6, 11, 5, 0) ∨ IC z) := by
  refine closed_at (kR rfl) (fun k hk => ?_) (closed_or (closed_or (closed_or (closed_or closed_Z closed_A) closed_R) closed_R) closed_R)
  simp only [kids, List.mem_cons, List.not_mem_nil, or_false] at hk
  rcases hk with rfl | rfl | rfl | rfl
  · exact Or.inl (Or.inl (Or.inl (Or.inr rfl)))
  · exact Or.inl (Or.inl (Or.inr (Or.inl rfl)))
  · exact Or.inl (Or.inr (Or.inl rfl))
  · exact Or.inr (Or.inl rfl)
theorem tg_C {z : ID} (h : z = (6, 11, 5, 0) ∨ IC z) : (z.1 = 6 ∨ z.1 = 10 ∨ z.1 = 3 ∨ z.1 = 4) ∧ z.2.1 = 11 ∧ z.2.2.1 = 5 := by
  rcases h with rfl | ((((h | h) | h) | h) | h)
  · exact ⟨Or.inl rfl, rfl, rfl⟩
  · exact (h : False).elim
  · have h1 := tg_A h; omega
  · have h1 := tg_R h; omega
  · have h1 := tg_R h; omega
  · have h1 := tg_R h; omega
theorem IH_1 {j : Nat} {z : ID} (h : IH j z) : (1 ≤ z.1 ∧ z.1 ≤ 4) ∧ z.2.1 = j := by
  rcases h with ((((((((h | h) | h) | h) | h) | h) | h) | h) | h)
  · exact (h : False).elim
  · have h1 := tg_R h; omega
  · have h1 := tg_R h; omega
  · have h1 := tg_R h; omega
  · have h1 := tg_R h; omega
  · have h1 := tg_R h; omega
  · have h1 := tg_G h; omega
  · have h1 := tg_G h; omega
  · have h1 := tg_Q h; omega
theorem dX6_init_0 : decode cX6_init 0 = .ok (.aload_n 0, 1) := by decide +kernel
theorem dX6_init_1 : decode cX6_init 1 = .ok (.invokespecial 3, 3) := by decide +kernel
theorem dX6_init_4 : decode cX6_init 4 = .ok (.aload_n 0, 1) := by decide +kernel
theorem dX6_init_5 : decode cX6_init 5 = .ok (.bipush 8, 2) := by decide +kernel
theorem dX6_init_7 : decode cX6_init 7 = .ok (.anewarray 9, 3) := by decide +kernel
theorem dX6_init_10 : decode cX6_init 10 = .ok (.putfield 11, 3) := by decide +kernel
theorem dX6_init_13 : decode cX6_init 13 = .ok (.iconst 0, 1) := by decide +kernel
theorem dX6_init_14 : decode cX6_init 14 = .ok (.istore_n 1, 1) := by decide +kernel
theorem dX6_init_15 : decode cX6_init 15 = .ok (.iload_n 1, 1) := by decide +kernel
theorem dX6_init_16 : decode cX6_init 16 = .ok (.aload_n 0, 1) := by decide +kernel
theorem dX6_init_17 : decode cX6_init 17 = .ok (.getfield 11, 3) := by decide +kernel
theorem dX6_init_20 : decode cX6_init 20 = .ok (.arraylength, 1) := by decide +kernel
theorem dX6_init_21 : decode cX6_init 21 = .ok (.if_icmp .ge 22, 3) := by decide +kernel
theorem dX6_init_24 : decode cX6_init 24 = .ok (.aload_n 0, 1) := by decide +kernel
theorem dX6_init_25 : decode cX6_init 25 = .ok (.getfield 11, 3) := by decide +kernel
theorem dX6_init_28 : decode cX6_init 28 = .ok (.iload_n 1, 1) := by decide +kernel
theorem dX6_init_29 : decode cX6_init 29 = .ok (.new 9, 3) := by decide +kernel
theorem dX6_init_32 : decode cX6_init 32 = .ok (.dup, 1) := by decide +kernel
theorem dX6_init_33 : decode cX6_init 33 = .ok (.invokespecial 17, 3) := by decide +kernel
theorem dX6_init_36 : decode cX6_init 36 = .ok (.aastore, 1) := by decide +kernel
theorem dX6_init_37 : decode cX6_init 37 = .ok (.iinc 1 1, 3) := by decide +kernel
theorem dX6_init_40 : decode cX6_init 40 = .ok (.goto (-25), 3) := by decide +kernel
theorem dX6_init_43 : decode cX6_init 43 = .ok (.return_, 1) := by decide +kernel
theorem myX6_init : gYI yX6_init cX6_init 2 0 := ⟨wm1_211, wm1_17, ⟨by decide, by decide, by decide +kernel⟩, wm1_210, rfl⟩
/-- the hedges of the history, those before the n-th -/
def IJ (n : Nat) : ID → Prop := fun z => ∃ q, q < n ∧ (z = (0, 3 + q, 0, 0) ∨ IH (3 + q) z)
def IY : ID → Prop := fun z => one (9, 11, 7, 0) z ∨ IJ 8 z
def fsY : List Value := [.null, .int 0, .int 0]
theorem closed_J {n : Nat} : closed (IJ n) := by
  refine ⟨fun i h => ?_, fun i h k hk => ?_⟩
  · obtain ⟨q, hq, h⟩ := h
    exact closed_H.1 i h
  · obtain ⟨q, hq, h⟩ := h
    exact ⟨q, hq, closed_H.2 i h k hk⟩
theorem IJ_s {n : Nat} {z : ID} : IJ (n + 1) z ↔ IJ n z ∨ (z = (0, 3 + n, 0, 0) ∨ IH (3 + n) z) := by
  constructor
  · rintro ⟨q, hq, h⟩
    by_cases e : q = n
    · subst e; exact Or.inr h
    · exact Or.inl ⟨q, by omega, h⟩
  · rintro (⟨q, hq, h⟩ | h)
    · exact ⟨q, by omega, h⟩
    · exact ⟨n, by omega, h⟩
theorem tg_J {n : Nat} {z : ID} (h : IJ n z) : z.1 ≤ 4 ∧ 3 ≤ z.2.1 ∧ z.2.1 < 3 + n := by
  obtain ⟨q, hq, h⟩ := h
  have h1 := tg_H h
  omega
theorem dfH : ∀ q, q < 19 → defaultValue (tyX5 q) = vp_V fsH q
  | 0, _ => rfl
  | 1, _ => rfl
  | 2, _ => rfl
  | 3, _ => rfl
  | 4, _ => rfl
  | 5, _ => rfl
  | 6, _ => rfl
  | 7, _ => rfl
  | 8, _ => rfl
  | 9, _ => rfl
  | 10, _ => rfl
  | 11, _ => rfl
  | 12, _ => rfl
  | 13, _ => rfl
  | 14, _ => rfl
  | 15, _ => rfl
  | 16, _ => rfl
  | 17, _ => rfl
  | 18, _ => rfl
  | q + 19, h => absurd h (by omega)
noncomputable def cX6 (w : WP) (n : Nat) (ad : ID → Nat) (f : Nat → Option Nat) (ct : CT) : CT := upE (upE (cN (wM w (fun z => one (9, 11, 7, 0) z ∨ IJ n z) ad) (IJ n) ct) (9, 11, 7, 0) (.inl (wHs w, 8, .inr (.inr (.inr (.inr f)))))) (8, 11, 7, 0) (.inr (3, [.ref (ad (9, 11, 7, 0)), .int 0, .int 0]))
theorem wM_e {w : WP} {I I2 : ID → Prop} {ad : ID → Nat} (h : ∀ z, I z ↔ I2 z) : wM w I ad = wM w I2 ad := by
  rw [show I = I2 from funext fun z => propext (h z)]
set_option maxRecDepth 20000 in
theorem lp_X6 {w : WP} {X : CX} {mc ms b : Nat} {Q : State → Prop} {ct : CT} (hD : gD w) (hY : gY w) (hT : gTn X mc ms) (h0 : wFr w (8, 11, 7, 0)) (hn : ∀ z, IY z → ¬ wOk w z) (hb : wAd w (8, 11, 7, 0) = b) (hq : ∀ c n, c ≤ 225 → n ≤ 4192 → qOk X (Q, c, n))
    (kk : ∀ ad f, gC (wM w IY ad) X cX6_init "HedgeMessages$History" none 4 2 → gAg w IY ad → gBh X IY ad → (∀ q, q < 8 → f q = some (ad (0, 3 + q, 0, 0))) → gU (wM w IY ad) X (Q, 225, 4192) (cX6 w 8 ad f ct) 43 [(1, .int (nI 8)), (0, .ref b)] []) :
    ∀ n i, n + i = 8 → ∀ ad f, gC (wM w (fun z => one (9, 11, 7, 0) z ∨ IJ i z) ad) X cX6_init "HedgeMessages$History" none 4 2 → gAg w (fun z => one (9, 11, 7, 0) z ∨ IJ i z) ad → gBh X (fun z => one (9, 11, 7, 0) z ∨ IJ i z) ad → (∀ q, q < i → f q = some (ad (0, 3 + q, 0, 0))) → gU (wM w (fun z => one (9, 11, 7, 0) z ∨ IJ i z) ad) X (Q, 1 + i * 28, 8 + i * 523) (cX6 w i ad f ct) 15 [(1, .int (nI i)), (0, .ref b)] [] := by
  intro n
  induction n with
  | zero =>
    intro i hi ad f C hag hbh hf
    have hi : i = 8 := by omega
    subst hi
    have h9 : wAd (wM w IY ad) (8, 11, 7, 0) = b := (hag.1 _ (hD.2.1 _ h0)).trans hb
    refine r_iload_n C (k := 0) rfl rfl dX6_init_15 ?_
    refine r_aload_n C (k := 1) rfl rfl dX6_init_16 ?_
    rw [← h9]
    refine r_get C F6 0 (8, 11, 7, 0) (Or.inl (hD.2.1 _ h0)) (fs := [.ref (ad (9, 11, 7, 0)), .int 0, .int 0]) upE_s (by decide) wm1_216 rfl dX6_init_17 ?_
    refine r_alenq C (9, 11, 7, 0) (Or.inr (Or.inl rfl)) 1 (cA9 := wHs w) (x := (8, .inr (.inr (.inr (.inr f))))) ((upE_n (by decide)).trans upE_s) rfl rfl dX6_init_20 ?_
    refine r_icmp_ge C (tgt := 43) rfl dX6_init_21 (fun _ => ?_) (fun h => absurd (Int32.le_refl _) h)
    have h := kk ad f C hag hbh hf
    rw [← h9] at h
    exact h
  | succ n ih =>
    intro i hi ad f C hag hbh hf
    have hi8 : i < 8 := by omega
    have h9 : wAd (wM w (fun z => one (9, 11, 7, 0) z ∨ IJ i z) ad) (8, 11, 7, 0) = b := (hag.1 _ (hD.2.1 _ h0)).trans hb
    have hget : ∀ {pc9 : Nat} {st9 : List Value} (d9 : decode cX6_init pc9 = .ok (.getfield 11, 3)) (k9 : gU (wM w (fun z => one (9, 11, 7, 0) z ∨ IJ i z) ad) X (Q, 1 + i * 28, 8 + i * 523) (cX6 w i ad f ct) (pc9 + 3) [(1, .int (nI i)), (0, .ref b)] (.ref (ad (9, 11, 7, 0)) :: st9)), gU (wM w (fun z => one (9, 11, 7, 0) z ∨ IJ i z) ad) X (Q, 1 + i * 28, 8 + i * 523) (cX6 w i ad f ct) pc9 [(1, .int (nI i)), (0, .ref b)] (.ref b :: st9) := by
      intro pc9 st9 d9 k9
      rw [← h9] at k9 ⊢
      exact r_get C F6 0 (8, 11, 7, 0) (Or.inl (hD.2.1 _ h0)) (fs := [.ref (ad (9, 11, 7, 0)), .int 0, .int 0]) upE_s (by decide) wm1_216 rfl d9 k9
    refine r_iload_n C (k := 0) rfl rfl dX6_init_15 ?_
    refine r_aload_n C (k := 1) rfl rfl dX6_init_16 ?_
    refine hget dX6_init_17 ?_
    refine r_alenq C (9, 11, 7, 0) (Or.inr (Or.inl rfl)) 1 (cA9 := wHs w) (x := (8, .inr (.inr (.inr (.inr f))))) ((upE_n (by decide)).trans upE_s) rfl rfl dX6_init_20 ?_
    refine r_icmp_ge C (tgt := 43) rfl dX6_init_21 (fun h => absurd h (nI_ge hi8 (show (8 : Nat) < 2 ^ 31 by decide))) (fun _ => ?_)
    refine r_aload_n C (k := 1) rfl rfl dX6_init_24 ?_
    refine hget dX6_init_25 ?_
    refine r_iload_n C (k := 0) rfl rfl dX6_init_28 ?_
    have hnew : ∀ z, (z = (0, 3 + i, 0, 0) ∨ IH (3 + i) z) → ¬ (wOk w z ∨ (one (9, 11, 7, 0) z ∨ IJ i z)) := by
      intro z hz h
      have h1 := tg_H hz
      rcases h with h | h | h
      · exact hn z (Or.inr ⟨i, hi8, hz⟩) h
      · cases h; omega
      · have h2 := tg_J h; omega
    have hid : ¬ IH (3 + i) (0, 3 + i, 0, 0) := fun h => by have := IH_1 h; omega
    have hqq : ∀ c n, c ≤ 1 + i * 28 + 28 → n ≤ 8 + i * 523 + 523 → qOk X (Q, c, n) := fun c n h1 h2 => hq c n (by omega) (by omega)
    refine r_new C F5 wm1_213 rfl wm1_36 wm1_13 (0, 3 + i, 0, 0) (hnew _ (Or.inl rfl)) (fs := fsH) dfH dX6_init_29 (hqq (1 + i * 28 + 1) (8 + i * 523 + 19) (by omega) (by omega)) fun a hag1 hbh1 C1 => ?_
    have hD1 : gD (wM (wM w (fun z => one (9, 11, 7, 0) z ∨ IJ i z) ad) (one (0, 3 + i, 0, 0)) (adU (wM w (fun z => one (9, 11, 7, 0) z ∨ IJ i z) ad) (0, 3 + i, 0, 0) a)) := by
      obtain ⟨p, e, R, s, m, args, below, meth, c, nn, A⟩ := X
      exact C1.2.2.2.2.2.1
    have ha9 : adU (wM w (fun z => one (9, 11, 7, 0) z ∨ IJ i z) ad) (0, 3 + i, 0, 0) a (0, 3 + i, 0, 0) = a := if_pos rfl
    refine r_dup C1 rfl dX6_init_32 ?_
    refine r_ctor C1 (d' := 3) (mc := 27) (ms := 504) [] (c_X5_init (j := 3 + i) _ hD1 hY (Or.inr rfl) (fun z hz h => h.elim (hnew z (Or.inr hz)) (fun h => hid (by rw [← (h : z = (0, 3 + i, 0, 0))]; exact hz))) a ha9 _ upE_s) myX5_init wm1_215 rfl (by decide) (by decide) (kR rfl) rfl dX6_init_33 (hqq (1 + i * 28 + 1 + 27) (8 + i * 523 + 19 + 504) (by omega) (by omega)) fun ad' hag2 hbh2 C2 => ?_
    have hag' : gAg (wM w (fun z => one (9, 11, 7, 0) z ∨ IJ i z) ad) (fun z => z = (0, 3 + i, 0, 0) ∨ IH (3 + i) z) ad' := gAg_M hag1 hag2
    have hbh' : gBh X (fun z => z = (0, 3 + i, 0, 0) ∨ IH (3 + i) z) ad' := gBh_M hbh1 hag2 hbh2
    have hset : ∀ z, ((one (9, 11, 7, 0) z ∨ IJ i z) ∨ (z = (0, 3 + i, 0, 0) ∨ IH (3 + i) z)) ↔ (one (9, 11, 7, 0) z ∨ IJ (i + 1) z) := fun z => by rw [IJ_s, or_assoc]
    have hagF : gAg w (fun z => one (9, 11, 7, 0) z ∨ IJ (i + 1) z) ad' := by
      have h := gAg_M hag hag'
      rw [show (fun k => (one (9, 11, 7, 0) k ∨ IJ i k) ∨ (k = (0, 3 + i, 0, 0) ∨ IH (3 + i) k)) = fun z => one (9, 11, 7, 0) z ∨ IJ (i + 1) z from funext fun z => propext (hset z)] at h
      exact h
    have hbhF : gBh X (fun z => one (9, 11, 7, 0) z ∨ IJ (i + 1) z) ad' := by
      have h := gBh_M hbh hag' hbh'
      rw [show (fun k => (one (9, 11, 7, 0) k ∨ IJ i k) ∨ (k = (0, 3 + i, 0, 0) ∨ IH (3 + i) k)) = fun z => one (9, 11, 7, 0) z ∨ IJ (i + 1) z from funext fun z => propext (hset z)] at h
      exact h
    have eW : wM (wM (wM w (fun z => one (9, 11, 7, 0) z ∨ IJ i z) ad) (one (0, 3 + i, 0, 0)) (adU (wM w (fun z => one (9, 11, 7, 0) z ∨ IJ i z) ad) (0, 3 + i, 0, 0) a)) (IH (3 + i)) ad' = wM w (fun z => one (9, 11, 7, 0) z ∨ IJ (i + 1) z) ad' := by
      rw [wM_M, wM_M]
      exact wM_e hset
    have had : ad' (0, 3 + i, 0, 0) = a := (hag2.1 _ (Or.inr rfl)).trans ha9
    have had9 : ad' (9, 11, 7, 0) = ad (9, 11, 7, 0) := hag'.1 _ (Or.inr (Or.inl rfl))
    rw [eW] at C2
    rw [eW]
    have n9 : ¬ ((9, 11, 7, 0) = ((0, 3 + i, 0, 0) : ID) ∨ IH (3 + i) (9, 11, 7, 0)) := fun h => by have := tg_H h; omega
    have n8 : ¬ ((8, 11, 7, 0) = ((0, 3 + i, 0, 0) : ID) ∨ IH (3 + i) (8, 11, 7, 0)) := fun h => by have := tg_H h; omega
    have e1 : Value.ref a = .ref (wAd (wM w (fun z => one (9, 11, 7, 0) z ∨ IJ (i + 1) z) ad') (0, 3 + i, 0, 0)) := congrArg Value.ref had.symm
    have e2 : Value.ref (ad (9, 11, 7, 0)) = .ref (wAd (wM w (fun z => one (9, 11, 7, 0) z ∨ IJ (i + 1) z) ad') (9, 11, 7, 0)) := congrArg Value.ref had9.symm
    rw [e1, e2]
    refine r_aastW C2 (9, 11, 7, 0) (0, 3 + i, 0, 0) (Or.inr (Or.inl rfl)) (Or.inr (Or.inr (IJ_s.mpr (Or.inr (Or.inl rfl))))) 1 (cA9 := wHs w) (n := 8) (f := f) ?_ (ci2 := 2) (cN_in (Or.inl rfl)) rfl rfl (vp_in_nI hi8 (by decide)) dX6_init_36 (ct' := cX6 w (i + 1) ad' (va_up f (nI i).toNatClampNeg (some (ad' (0, 3 + i, 0, 0)))) ct) (fun z hz => ?_) ?_
    · rw [cN_out n9, upE_n (fun h => n9 (Or.inl h))]
      unfold cX6
      rw [upE_n (by decide), upE_s]
    · unfold cX6
      by_cases h1 : z = (9, 11, 7, 0)
      · subst h1
        rw [upE_s, upE_n (by decide), upE_s]
        rfl
      · rw [upE_n h1]
        by_cases h2 : z = (8, 11, 7, 0)
        · subst h2
          rw [upE_s, cN_out n8, upE_n (fun h => n8 (Or.inl h)), upE_s, had9]
        · rw [upE_n h2, upE_n h1]
          by_cases h3 : z = (0, 3 + i, 0, 0) ∨ IH (3 + i) z
          · rw [cN_in h3, cN_in (IJ_s.mpr (Or.inr h3))]
          · rw [cN_out h3, upE_n (fun h => h3 (Or.inl h)), upE_n h2, upE_n h1]
            by_cases h4 : IJ i z
            · rw [cN_in h4, cN_in (IJ_s.mpr (Or.inl h4))]
              exact cA_ad z (closed_J.1 z h4) (fun k hk => (hag'.1 k (Or.inr (Or.inr (closed_J.2 z h4 k hk)))).symm) (fun e q => by have := tg_J h4; omega)
            · rw [cN_out h4, cN_out (fun h => (IJ_s.mp h).elim h4 h3)]
    · refine r_iinc C2 (k := 0) (v := nI (i + 1)) (lo' := [(1, .int (nI (i + 1))), (0, .ref b)]) rfl (show nI i + Int32.ofInt 1 = nI (i + 1) from nI_1 i) (by decide) rfl dX6_init_37 ?_
      refine r_goto C2 (tgt := 15) rfl dX6_init_40 ?_
      have h := ih (i + 1) (by omega) ad' (va_up f (nI i).toNatClampNeg (some (ad' (0, 3 + i, 0, 0)))) C2 hagF hbhF (fun q hq => by
        unfold va_up
        rw [nI_clamp (by omega)]
        by_cases e : q = i
        · subst e; rw [if_pos rfl]
        · rw [if_neg e, hf q (by omega), hag'.1 _ (Or.inr (Or.inr ⟨q, by omega, Or.inl rfl⟩))]
          rfl)
      rw [show 1 + (i + 1) * 28 = 1 + i * 28 + 1 + 27 by omega, show 8 + (i + 1) * 523 = 8 + i * 523 + 19 + 504 by omega] at h
      exact h
set_option maxRecDepth 20000 in
theorem c_X6_init : gCon yX6_init cX6_init 2 3 fsY (8, 11, 7, 0) IY 4 225 4192 := by
  intro w hD hY h0 hn b hb ct hct
  refine gMn_of "HedgeMessages$History" rfl rfl (by decide) (kR rfl) fun X C hT => ?_
  have hq : ∀ c n, c ≤ 225 → n ≤ 4192 → qOk X ((qN1 w X IY (fun ad => cN (wM w IY ad) (fun z => z = (8, 11, 7, 0) ∨ IY z) ct) 225 4192), c, n) := by
    intro c n hc hn
    obtain ⟨p, e, R, s, m, args, below, meth, c9, nn, A⟩ := X
    exact ⟨Nat.le_trans hc hT.1, Nat.le_trans hn hT.2.1⟩
  have h0o := hD.2.1 _ h0
  have h9n : ¬ wOk w (9, 11, 7, 0) := hn _ (Or.inl rfl)
  show gU w X _ _ 0 [(0, .ref b)] []
  refine r_aload_n C (k := 0) rfl rfl dX6_init_0 ?_
  refine r_objInit C wm1_212 (kR rfl) (kR rfl) dX6_init_1 ?_
  refine r_aload_n C (k := 0) rfl rfl dX6_init_4 ?_
  refine r_bipush C (v := nI 8) rfl dX6_init_5 ?_
  refine r_newQ C 1 rfl wm1_213 rfl (fun A U H h => (hY A U H h).2.2.1) (9, 11, 7, 0) h9n (x := nI 8) (N := 8) (by decide) rfl (by decide) dX6_init_7 (hq _ _ (kR rfl) (kR rfl)) fun q hag hbh C1 => ?_
  have hset : ∀ z, one (9, 11, 7, 0) z ↔ (one (9, 11, 7, 0) z ∨ IJ 0 z) := fun z => ⟨Or.inl, fun h => h.elim id (fun ⟨q, hq, _⟩ => absurd hq (Nat.not_lt_zero q))⟩
  have hse : one (9, 11, 7, 0) = fun z => one (9, 11, 7, 0) z ∨ IJ 0 z := funext fun z => propext (hset z)
  have hq9 : adU w (9, 11, 7, 0) q (9, 11, 7, 0) = q := if_pos rfl
  rw [hse] at C1 hag hbh
  rw [hse]
  refine r_putR C1 hT F6 0 (8, 11, 7, 0) (Or.inl h0) ((hag.1 _ h0o).trans hb) (fs := fsY) ((upE_n (by decide)).trans hct) (by decide) wm1_216 rfl rfl rfl rfl (kR rfl) dX6_init_10 (ct' := cX6 w 0 (adU w (9, 11, 7, 0) q) (fun _ => none) ct) (fun z _ => ?_) ?_
  · unfold cX6
    by_cases h1 : z = (8, 11, 7, 0)
    · subst h1
      rw [upE_s, upE_s, hq9]
      rfl
    · rw [upE_n h1, upE_n h1]
      by_cases h2 : z = (9, 11, 7, 0)
      · subst h2
        rw [upE_s, upE_s]
      · rw [upE_n h2, upE_n h2, cN_out (fun ⟨q, hq, _⟩ => absurd hq (Nat.not_lt_zero q))]
  refine r_iconst C1 (v := 0) rfl dX6_init_13 ?_
  refine r_istore_n C1 (lo' := [(1, .int (nI 0)), (0, .ref b)]) rfl (by decide) rfl dX6_init_14 ?_
  refine lp_X6 hD hY hT h0 hn hb hq (fun ad f C2 hag2 hbh2 hf => ?_) 8 0 rfl _ _ C1 hag hbh (fun q hq => absurd hq (Nat.not_lt_zero q))
  refine r_arrc (i := (9, 11, 7, 0)) (cA9 := wHs w) (n := 8) (f := f) (f' := fun q => some (ad (0, 3 + q, 0, 0))) ?_ hf ?_
  · unfold cX6
    rw [upE_n (by decide), upE_s]
  refine r_nend (w := w) (w2 := wM w IY ad) (I := IY) rfl rfl C2 hD (fun _ h => h) hag2 hbh2 (fun z _ => ?_) dX6_init_43
  show _ = cN (wM w IY ad) (fun z => z = (8, 11, 7, 0) ∨ IY z) ct z
  unfold cX6
  by_cases h1 : z = (9, 11, 7, 0)
  · subst h1
    rw [upE_s, cN_in (Or.inr (Or.inl rfl))]
    rfl
  · rw [upE_n h1]
    by_cases h2 : z = (8, 11, 7, 0)
    · subst h2
      rw [upE_s, cN_in (Or.inl rfl)]
      rfl
    · rw [upE_n h2, upE_n h1]
      by_cases h3 : IJ 8 z
      · rw [cN_in h3, cN_in (Or.inr (Or.inr h3))]
        rfl
      · rw [cN_out h3, cN_out (fun h => h.elim h2 (fun h => h.elim h1 h3))]
theorem closed_Y : closed (fun z => z = (8, 11, 7, 0) ∨ IY z) := by
  refine ⟨fun i h => ?_, fun i h k hk => ?_⟩
  · rcases h with rfl | h | h
    · exact kR rfl
    · cases h; exact kR rfl
    · have := tg_J h; omega
  · rcases h with rfl | h | h
    · simp only [kids, List.mem_singleton] at hk
      subst hk
      exact Or.inr (Or.inl rfl)
    · cases h
      simp only [kids, List.mem_cons, List.not_mem_nil, or_false] at hk
      rcases hk with rfl | rfl | rfl | rfl | rfl | rfl | rfl | rfl
      all_goals first | exact Or.inr (Or.inr ⟨0, by decide, Or.inl rfl⟩) | exact Or.inr (Or.inr ⟨1, by decide, Or.inl rfl⟩) | exact Or.inr (Or.inr ⟨2, by decide, Or.inl rfl⟩) | exact Or.inr (Or.inr ⟨3, by decide, Or.inl rfl⟩) | exact Or.inr (Or.inr ⟨4, by decide, Or.inl rfl⟩) | exact Or.inr (Or.inr ⟨5, by decide, Or.inl rfl⟩) | exact Or.inr (Or.inr ⟨6, by decide, Or.inl rfl⟩) | exact Or.inr (Or.inr ⟨7, by decide, Or.inl rfl⟩)
    · exact Or.inr (Or.inr (closed_J.2 i h k hk))
theorem tg_Y {z : ID} (h : z = (8, 11, 7, 0) ∨ IY z) : ((z.1 = 8 ∨ z.1 = 9) ∧ z.2.1 = 11 ∧ z.2.2.1 = 7) ∨ (z.1 ≤ 4 ∧ 3 ≤ z.2.1 ∧ z.2.1 ≤ 10) := by
  rcases h with rfl | h | h
  · exact Or.inl ⟨Or.inl rfl, rfl, rfl⟩
  · cases h; exact Or.inl ⟨Or.inr rfl, rfl, rfl⟩
  · have := tg_J h
    exact Or.inr ⟨this.1, this.2.1, by omega⟩
