/-! ===== writing letters: the program's side ===== -/
theorem C_dequeue {q : List (List Nat)} {u : HV} (h : RGq q u) {m : Nat} (hm : m < q.length) (h8 : q.length ≤ 8) (hw : ∀ k, k < q.length → (q.getD k []).length ≤ 12) : RGq (q.eraseIdx m) (F_X4_dequeue (nI m) u) ∧ ∀ i, i ≠ 2 → (F_X4_dequeue (nI m) u).1 i = u.1 i := by
  obtain ⟨h1, h2, h3⟩ := h
  have hlen : (q.eraseIdx m).length = q.length - 1 := by rw [List.length_eraseIdx, if_pos hm]
  have e : F_X4_dequeue (nI m) u = sS (sA (sA u 0 (va_cpy (u.2 0) (u.2 0) ((m + 1) * 12) (m * 12) ((q.length - m - 1) * 12))) 1 (va_cpy (u.2 1) (u.2 1) (m + 1) m (q.length - m - 1))) 2 (nI (q.length - 1)) := by
    unfold F_X4_dequeue
    simp only [lt_d]
    have e1 : ∀ r, (sA u 0 r).1 2 = nI q.length := fun r => h1
    have e2 : ∀ r r2, (sA (sA u 0 r) 1 r2).1 2 = nI q.length := fun r r2 => h1
    have e3 : ∀ r, (sA u 0 r).2 1 = u.2 1 := fun r => sA_2n (by decide)
    simp (disch := omega) only [e2, e1, h1, e3, L1, L12, Z_add, Z_sub, Z_mul, Z_rcpy]
  rw [e]
  refine ⟨⟨?_, fun k hk => ?_, fun k x hk hx => ?_⟩, fun i hi => sS_1n hi⟩
  · rw [hlen]; exact sS_1
  · rw [hlen] at hk
    rw [gD_del]
    rw [sS_2, sA2s]
    by_cases c : k < m
    · rw [if_pos c, pk_cpy_out (by omega)]; exact h2 k (by omega)
    · rw [if_neg c, pk_cpy_in (by omega) (by omega), show m + 1 + (k - m) = k + 1 by omega]; exact h2 (k + 1) (by omega)
  · rw [hlen] at hk
    rw [gD_del] at hx ⊢
    rw [sS_2, sA_2n (by decide), sA2s]
    by_cases c : k < m
    · rw [if_pos c] at hx ⊢
      have := hw k (by omega)
      rw [pk_cpy_out (by omega)]
      exact h3 k x (by omega) hx
    · rw [if_neg c] at hx ⊢
      have := hw (k + 1) (by omega)
      rw [pk_cpy_in (by omega) (by omega), show (m + 1) * 12 + (12 * k + x - m * 12) = 12 * (k + 1) + x by omega]
      exact h3 (k + 1) x (by omega) hx
theorem C_enqueue {q : List (List Nat)} {u : HV} (h : RGq q u) (h8 : q.length < 8) (hw : ∀ k, k < q.length → (q.getD k []).length ≤ 12) {src : Nat → Int32} {n2 a : Nat} {w : List Nat} (hn2 : n2 < 2 ^ 20) (ha : a + w.length ≤ n2) (hl : w.length ≤ 12) (hs : ∀ x, x < w.length → src (a + x) = nI (w.getD x 0)) : RGq (q ++ [w]) (F_X4_enqueue src n2 (nI a) (nI w.length) u) ∧ ∀ i, i ≠ 2 → (F_X4_enqueue src n2 (nI a) (nI w.length) u).1 i = u.1 i := by
  obtain ⟨h1, h2, h3⟩ := h
  have hlen : (q ++ [w]).length = q.length + 1 := by rw [List.length_append]; rfl
  have e : F_X4_enqueue src n2 (nI a) (nI w.length) u = sS (sA (sA u 0 (va_cpy src (u.2 0) a (q.length * 12) w.length)) 1 (upd (u.2 1) q.length (nI w.length))) 2 (nI (q.length + 1)) := by
    unfold F_X4_enqueue
    simp only [lt_d]
    have e1 : ∀ r, (sA u 0 r).1 2 = nI q.length := fun r => h1
    have e2 : ∀ r r2, (sA (sA u 0 r) 1 r2).1 2 = nI q.length := fun r r2 => h1
    have e3 : ∀ r, (sA u 0 r).2 1 = u.2 1 := fun r => sA_2n (by decide)
    simp (disch := omega) only [e2, e1, h1, e3, L1, L12, Z_add, Z_mul, Z_rcpy, Z_rset, if_pos]
  rw [e]
  refine ⟨⟨?_, fun k hk => ?_, fun k x hk hx => ?_⟩, fun i hi => sS_1n hi⟩
  · rw [hlen]; exact sS_1
  · rw [hlen] at hk
    rw [gD_app]
    rw [sS_2, sA2s]
    by_cases c : k < q.length
    · rw [if_pos c, pk_un (by omega)]; exact h2 k c
    · have e : k = q.length := by omega
      rw [if_neg c, e, pk_us, Nat.sub_self]; rfl
  · rw [hlen] at hk
    rw [gD_app] at hx ⊢
    rw [sS_2, sA_2n (by decide), sA2s]
    by_cases c : k < q.length
    · rw [if_pos c] at hx ⊢
      have := hw k c
      rw [pk_cpy_out (by omega)]
      exact h3 k x c hx
    · have e : k = q.length := by omega
      rw [if_neg c] at hx ⊢
      subst e
      rw [Nat.sub_self] at hx ⊢
      have hx' : x < w.length := hx
      rw [pk_cpy_in (by omega) (by omega), show a + (12 * q.length + x - q.length * 12) = a + x by omega]
      exact hs x hx'
theorem C_placeTwig {A : AS} {h : Nat → HV} (hH : RC0 A h) {k c o l : Nat} (hk : k < 40) : RC0 (opTw A k c o l) (F_X5_placeTwig (nI k) (nI c) (nI o) (nI l) h) ∧ ∀ j, j ≠ 0 → F_X5_placeTwig (nI k) (nI c) (nI o) (nI l) h j = h j := by
  obtain ⟨⟨h1, h2, h3⟩, h4⟩ := hH
  have e : F_X5_placeTwig (nI k) (nI c) (nI o) (nI l) h = up h 0 (sS (sA (sA (sA (h 0) 0 (rset 40 ((h 0).2 0) (nI k) (nI c))) 1 (rset 40 ((sA (h 0) 0 (rset 40 ((h 0).2 0) (nI k) (nI c))).2 1) (nI k) (nI o))) 2 (rset 40 ((sA (sA (h 0) 0 (rset 40 ((h 0).2 0) (nI k) (nI c))) 1 (rset 40 ((sA (h 0) 0 (rset 40 ((h 0).2 0) (nI k) (nI c))).2 1) (nI k) (nI o))).2 2) (nI k) (nI l))) 16 ((h 0).1 16 + 1)) := by
    unfold F_X5_placeTwig
    simp only [lt_d, up_s, up_up]
    rfl
  rw [e]
  have hf : ∀ (u : HV) j, j ≠ 0 → up h 0 u j = h j := fun u j hj => up_n hj
  refine ⟨⟨?_, fun g hg => ?_⟩, hf _⟩
  · rw [up_s]
    have h16 : (h 0).1 16 = Hc A 0 := h2 0 (by decide)
    rw [h16]
    refine ⟨RHn_oth (RHn_1 h1 rfl) _ (by decide), ?_, RHr_2 (RHr_set (RHr_set (RHr_set h3 c hk) o hk) l hk) rfl⟩
    exact RHc_set (i := 0) (RHc_1 h2 rfl) _
  · rw [hf _ _ (by omega)]
    obtain ⟨q1, q2, q3⟩ := h4 g hg
    exact ⟨RGc_up q1 _ (fun q hq => by omega), q2, q3⟩
theorem C_isWriting {A : AS} {u : HV} {g : Nat} (h : RG A g u) (hl : (Hp A g).2.2.length ≤ 12) : (F_X4_isWriting u = true) = ((Hp A g).2.2 ≠ []) := by
  unfold F_X4_isWriting
  rw [h.2.1.2.1]
  simp (disch := omega) only [L0, Z_le]
  by_cases c : (Hp A g).2.2 = []
  · rw [if_pos (by rw [c]; decide)]
    simp [c]
  · have := List.length_pos_iff.mpr c
    rw [if_neg (by omega)]
    simp [c]
theorem C_lengthOf {A : AS} {u : HV} {g k : Nat} (h : RG A g u) (h8 : (Hq A g).length ≤ 8) (hk : k < 2 ^ 31) : F_X4_lengthOf (nI k) u = nI ((Hq A g).getD k []).length := by
  unfold F_X4_lengthOf F_X4_hasPending
  rw [h.2.2.1]
  by_cases c : k < (Hq A g).length
  · simp (disch := omega) only [L0, Z_lt, Z_le, Z_rget, if_neg, if_pos, h.2.2.2.1 k c, ↓reduceIte, c]
  · simp (disch := omega) only [L0, Z_lt, Z_le, if_neg, if_pos]
    rw [gD_no (by omega)]
    rfl
def cwTail (l1 : Int32) (q2 : Nat) (h : Nat → HV) : Option (((Nat → HV)) ⊕ (Nat → HV)) := (lt (F_X5_placeTwig (((h q2).1 3) + ((h q2).1 5)) (rget 40 ((h 0).2 4) (((h q2).1 3) + ((h q2).1 5))) l1 1 h) fun h2 => (lt (up h2 q2 (sS (h2 q2) 5 (((h2 q2).1 5) + 1))) fun h3 => (if ((h3 q2).1 5) < ((h3 q2).1 4) then (lt (up h3 0 (sS (h3 0) 7 (((h3 0).1 7) - 1))) fun h4 => some (.inl h4)) else (lt (F_X7_post l1 ((h3 q2).1 3) ((h3 q2).1 4) (h3 3)) fun g6 => (lt (up h3 3 g6) fun h7 => (lt (F_X4_stopWriting (h7 q2)) fun g9 => (lt (up h7 q2 g9) fun h10 => (lt (up h10 0 (sS (h10 0) 7 (((h10 0).1 7) - 1))) fun h11 => some (.inl h11)))))))))
theorem cw_eq {N : Nat} {l1 : Int32} {q2 : Nat} {h : Nat → HV} : st_X5_writeLetters_6 N l1 q2 h = (if ((h 0).1 7) ≤ 0 then some (.inr h) else (if (F_X4_isWriting (h q2)) = true then cwTail l1 q2 h else (ob (F_X5_startNext N q2 h) fun v12 h13 => (if v12 = true then cwTail l1 q2 h13 else some (.inr h13))))) := rfl
theorem RG_stop {A B : AS} {g : Nat} {u : HV} (h : RG A g u) (e1 : Hc B = Hc A) (e2 : Hp B g = bare) (e3 : Hq B g = Hq A g) : RG B g (F_X4_stopWriting u) := by
  have e : F_X4_stopWriting u = sS (sS (sS u 3 0) 4 0) 5 0 := rfl
  rw [e]
  obtain ⟨q1, q2, q3⟩ := h
  refine ⟨?_, ?_, ?_⟩
  · rw [e1]; exact RGc_1 q1 (fun i i1 i2 => by rw [sS_1n (by omega), sS_1n (by omega), sS_1n (by omega)])
  · rw [e2]
    refine ⟨?_, ?_, sS_1⟩
    · rw [sS_1n (by decide), sS_1n (by decide), sS_1]; rfl
    · rw [sS_1n (by decide), sS_1]; rfl
  · rw [e3]; exact RGq_1 q3 (by rw [sS_1n (by decide), sS_1n (by decide), sS_1n (by decide)]) rfl
theorem C_wrTail {A : AS} {T : Nat} {h : Nat → HV} (hH : RC A h) (hI : Inv A T) {g : Nat} (hg : g < 2) (hw : (Hp A g).2.2 ≠ []) (h7 : 0 < Hn A 7) : ∃ h', cwTail (nI g) (1 + g) h = some (.inl h') ∧ RC (act (opWr A g)) h' := by
  have bI := hI
  obtain ⟨hT, ⟨⟨b0, b0'⟩, ⟨b1, b1'⟩, b2, ⟨b3, b3'⟩, ⟨b4, b4'⟩, ⟨b5, b5'⟩, b6, b7⟩, hRw, hNs, hQu, hPr, hVm⟩ := id hI
  obtain ⟨m1, m2, m3, m4⟩ := Inv_m bI (msgs_p hg hw)
  have hp1 := ((hPr g hg).2 hw).1
  have hL := Inv_l bI
  have hpl := Inv_pl bI hg
  dsimp only at m1 m2 m3 m4
  obtain ⟨hC, hP⟩ := hH
  obtain ⟨p1, p2, p3⟩ := (hC.2 g hg).2.1
  have hlt := m2.2.2 _ hp1
  have e40 : rget 40 ((h 0).2 4) (nI ((Hp A g).2.1 + (Hp A g).1)) = nI ((Hp A g).2.2.getD (Hp A g).1 0) := by
    rw [RHr_get hC.1.2.2 (by decide) (by omega), m4 _ hp1]
  obtain ⟨hT2, hf2⟩ := C_placeTwig hC (k := (Hp A g).2.1 + (Hp A g).1) (c := (Hp A g).2.2.getD (Hp A g).1 0) (o := g) (l := 1) (by omega)
  generalize hh2 : F_X5_placeTwig (nI ((Hp A g).2.1 + (Hp A g).1)) (nI ((Hp A g).2.2.getD (Hp A g).1 0)) (nI g) (nI 1) h = h2 at hT2 hf2
  have hq2 := hf2 (1 + g) (by omega)
  have h20 : (h2 0).1 7 = nI (Hn A 7) := hT2.1.1 7 (by decide)
  have hsS : ∀ u : HV, RH A u → True := fun _ _ => trivial
  by_cases c : (Hp A g).1 + 1 < (Hp A g).2.2.length
  · refine ⟨up (up h2 (1 + g) (sS (h (1 + g)) 5 (nI ((Hp A g).1 + 1)))) 0 (sS (h2 0) 7 (nI (Hn A 7) - nI 1)), ?_, ?_⟩
    · unfold cwTail
      simp only [lt_d]
      rw [p1, p3, Z_add, e40, L1, hh2]
      simp (disch := omega) only [up_s, up_n, hq2, p3, Z_add, sS_1, sS_1n, p2, Z_lt, if_pos, h20]
    · have ew : opWr A g = Sp (opTw A ((Hp A g).2.1 + (Hp A g).1) ((Hp A g).2.2.getD (Hp A g).1 0) g 1) (up (Hp A) g ((Hp A g).1 + 1, (Hp A g).2.1, (Hp A g).2.2)) := if_pos c
      rw [ew]
      refine ⟨⟨?_, fun g' hg' => ?_⟩, ?_⟩
      · rw [up_s, Z_sub (by omega)]
        obtain ⟨z1, z2, z3⟩ := hT2.1
        exact ⟨RHn_set z1 _, RHc_oth z2 _ (by decide), RHr_2 z3 rfl⟩
      · rw [up_n (by omega)]
        by_cases e : g' = g
        · subst e
          rw [up_s]
          obtain ⟨z1, z2, z3⟩ := hT2.2 g' hg'
          rw [hq2] at z1 z3
          refine ⟨RGc_1 z1 (fun i i1 i2 => sS_1n (by omega)), ?_, RGq_1 z3 (sS_1n (by decide)) rfl⟩
          show RGp (up (Hp A) g' _ g') _
          rw [up_s]
          exact ⟨(sS_1n (by decide)).trans p1, (sS_1n (by decide)).trans p2, sS_1⟩
        · rw [up_n (by omega)]
          obtain ⟨z1, z2, z3⟩ := hT2.2 g' hg'
          refine ⟨z1, ?_, z3⟩
          show RGp (up (Hp A) g _ g') _
          rw [up_n e]
          exact z2
      · rw [up_n (by omega), up_n (by omega), hf2 3 (by decide)]
        exact hP
  · have c' : ¬ ((Hp A g).1 + 1 < (Hp A g).2.2.length) := c
    have hI2 := Inv_wr bI hg hw
    have hL2 := Inv_l hI2
    have ew : opWr A g = Sl (Sp (opTw A ((Hp A g).2.1 + (Hp A g).1) ((Hp A g).2.2.getD (Hp A g).1 0) g 1) (up (Hp A) g bare)) (Hl A ++ [(g, (Hp A g).2.1, (Hp A g).2.2)]) := if_neg c
    have hL3 : (Hl A).length < 20 := by
      rw [ew] at hL2
      have : (Hl A ++ [(g, (Hp A g).2.1, (Hp A g).2.2)]).length ≤ 20 := hL2
      rw [List.length_append] at this
      have h1 : [(g, (Hp A g).2.1, (Hp A g).2.2)].length = 1 := rfl
      omega
    obtain ⟨o1, o2, o3, o4⟩ := C_post (u := h 3) (x := nI g) (y := nI (Hp A g).2.1) (z := nI (Hp A g).2.2.length) hP.1 hL3
    refine ⟨up (up (up (up h2 (1 + g) (sS (h (1 + g)) 5 (nI ((Hp A g).1 + 1)))) 3 (F_X7_post (nI g) (nI (Hp A g).2.1) (nI (Hp A g).2.2.length) (h 3))) (1 + g) (F_X4_stopWriting (sS (h (1 + g)) 5 (nI ((Hp A g).1 + 1))))) 0 (sS (h2 0) 7 (nI (Hn A 7) - nI 1)), ?_, ?_⟩
    · unfold cwTail
      simp only [lt_d]
      rw [p1, p3, Z_add, e40, L1, hh2]
      simp (disch := omega) only [up_s, up_n, hq2, hf2 3 (by decide), p3, p1, Z_add, sS_1, sS_1n, p2, Z_lt, if_neg, h20]
    · rw [ew]
      refine ⟨⟨?_, fun g' hg' => ?_⟩, ?_⟩
      · rw [up_s, Z_sub (by omega)]
        obtain ⟨z1, z2, z3⟩ := hT2.1
        exact ⟨RHn_set z1 _, RHc_oth z2 _ (by decide), RHr_2 z3 rfl⟩
      · rw [up_n (by omega)]
        by_cases e : g' = g
        · subst e
          rw [up_s]
          obtain ⟨z1, z2, z3⟩ := hT2.2 g' hg'
          rw [hq2] at z1 z2 z3
          refine RG_stop (A := Sp (opTw A ((Hp A g').2.1 + (Hp A g').1) ((Hp A g').2.2.getD (Hp A g').1 0) g' 1) (up (Hp A) g' ((Hp A g').1 + 1, (Hp A g').2.1, (Hp A g').2.2))) ⟨RGc_1 z1 (fun i i1 i2 => sS_1n (by omega)), ?_, RGq_1 z3 (sS_1n (by decide)) rfl⟩ rfl up_s rfl
          show RGp (up (Hp A) g' _ g') _
          rw [up_s]
          exact ⟨(sS_1n (by decide)).trans p1, (sS_1n (by decide)).trans p2, sS_1⟩
        · rw [up_n (by omega), up_n (by omega), up_n (by omega)]
          obtain ⟨z1, z2, z3⟩ := hT2.2 g' hg'
          refine ⟨z1, ?_, z3⟩
          show RGp (up (Hp A) g bare g') _
          rw [up_n e]
          exact z2
      · rw [up_n (by omega), up_n (by omega), up_s]
        refine ⟨?_, fun k hk => ?_⟩
        · rw [o1]
          show _ = nI (Hl A ++ [_]).length
          rw [List.length_append]
          rfl
        · have hk' : k < (Hl A ++ [(g, (Hp A g).2.1, (Hp A g).2.2)]).length := hk
          rw [List.length_append] at hk'
          have hk2 : k < (Hl A).length + 1 := hk'
          show _ = nI ((Hl A ++ [_]).getD k bare).1 ∧ _ = nI ((Hl A ++ [_]).getD k bare).2.1 ∧ _ = nI ((Hl A ++ [_]).getD k bare).2.2.length
          rw [o2, o3, o4, gD_app]
          by_cases e : k < (Hl A).length
          · rw [if_pos e, pk_un (by omega), pk_un (by omega), pk_un (by omega)]
            exact hP.2 k e
          · have e2 : k = (Hl A).length := by omega
            rw [if_neg e, e2, pk_us, pk_us, pk_us, Nat.sub_self]
            exact ⟨rfl, rfl, rfl⟩
theorem C_startNext {A : AS} {T : Nat} {h : Nat → HV} (hH : RC A h) (hI : Inv A T) {N g : Nat} (hg : g < 2) (hw : (Hp A g).2.2 = []) (hN : 40 < N) : (fStart (Hr A) (Hn A 0) ((Hq A g).getD 0 []).length = none ∧ F_X5_startNext N (1 + g) h = some (false, h)) ∨ ∃ k h', fStart (Hr A) (Hn A 0) ((Hq A g).getD 0 []).length = some k ∧ F_X5_startNext N (1 + g) h = some (true, h') ∧ RC (opBeg A g k ((Hq A g).getD 0 [])) h' := by
  have bI := hI
  obtain ⟨hT, ⟨⟨b0, b0'⟩, ⟨b1, b1'⟩, b2, ⟨b3, b3'⟩, ⟨b4, b4'⟩, ⟨b5, b5'⟩, b6, b7⟩, hRw, hNs, hQu, hPr, hVm⟩ := id hI
  have hG := hH.1.2 g hg
  have hlen := C_lengthOf hG (hQu g hg).1 (k := 0) (by decide)
  have hlen12 : ((Hq A g).getD 0 []).length ≤ 12 := by
    by_cases c : 0 < (Hq A g).length
    · exact (Inv_qw bI hg c).2.1
    · rw [gD_no (by omega)]; decide
  have hfs := C_findStart hH.1.1 bI (N := N) (L := ((Hq A g).getD 0 []).length) hN (by omega)
  cases hf : fStart (Hr A) (Hn A 0) ((Hq A g).getD 0 []).length with
  | none =>
    refine Or.inl ⟨rfl, ?_⟩
    unfold F_X5_startNext
    rw [L0, hlen, hfs, hf, ob1_s]
    exact if_pos rfl
  | some k =>
    refine Or.inr ⟨k, ?_⟩
    obtain ⟨hI2, _, hq0⟩ := Inv_beg bI hg hw hf
    obtain ⟨hL0, f1, f2, f3, f4⟩ := fStart_fit hf
    generalize hW : (Hq A g).getD 0 [] = w at *
    have hq8 := (hQu g hg).1
    have h3q := hG.2.2.2.2
    have e1 : (oI (some k) = -1) = False := Z_m1 (by omega)
    refine ⟨up (up h 0 (sA (h 0) 4 (va_cpy ((h (1 + g)).2 0) ((h 0).2 4) 0 k w.length))) (1 + g) (F_X4_dequeue (nI 0) (sS (sS (h (1 + g)) 3 (nI k)) 4 (nI w.length))), rfl, ?_, ?_⟩
    · unfold F_X5_startNext
      have hl2 : ∀ x, F_X4_lengthOf (nI 0) (sS (h (1 + g)) 3 x) = nI w.length := fun x => by
        rw [← hlen]
        unfold F_X4_lengthOf F_X4_hasPending
        rw [sS_1n (by decide), sS_2]
      simp only [L0, hlen, hfs, hf, ob1_s, e1, if_false, lt_d]
      show some (true, _) = some (true, _)
      unfold oI
      simp (disch := omega) only [up_s, up_n, up_up, hl2, hlen, Z_rcpy]
    · obtain ⟨d1, d2⟩ := C_dequeue (u := sS (sS (h (1 + g)) 3 (nI k)) 4 (nI w.length)) (RGq_1 hG.2.2 (by rw [sS_1n (by decide), sS_1n (by decide)]) rfl) hq0 hq8 (fun k hk => (Inv_qw bI hg hk).2.1)
      refine ⟨⟨?_, fun g' hg' => ?_⟩, ?_⟩
      · rw [up_n (by omega), up_s]
        obtain ⟨z1, z2, z3⟩ := hH.1.1
        refine ⟨RHn_1 z1 rfl, RHc_1 z2 rfl, fun a j ha hj => ?_⟩
        show _ = nI (bookR (Hr A) k w a j)
        by_cases c : a = 4
        · subst c
          rw [sA2s]
          by_cases c2 : k ≤ j ∧ j < k + w.length
          · have h4 := h3q 0 (j - k) hq0 (by rw [hW]; omega)
            rw [hW] at h4
            have h5 := bookR_in (R := Hr A) (s := k) (w := w) (x := j - k) (by omega)
            rw [show k + (j - k) = j by omega] at h5
            rw [pk_cpy_in c2.1 c2.2, h5, ← h4]
          · rw [pk_cpy_out (by omega), bookR_out 4 c2]
            exact z3 4 j (by decide) hj
        · rw [sA_2n c, bookR_n c]
          exact z3 a j ha hj
      · by_cases e : g' = g
        · subst e
          rw [up_s]
          refine ⟨RGc_1 hG.1 (fun i i1 i2 => by rw [d2 _ (by omega), sS_1n (by omega), sS_1n (by omega)]), ?_, ?_⟩
          · show RGp (up (Hp A) g' _ g') _
            rw [up_s]
            refine ⟨?_, ?_, ?_⟩
            · rw [d2 _ (by decide), sS_1n (by decide), sS_1]
            · rw [d2 _ (by decide), sS_1]
            · rw [d2 _ (by decide), sS_1n (by decide), sS_1n (by decide), hG.2.1.2.2, (hPr g' hg').1 hw]
              rfl
          · show RGq (up (Hq A) g' _ g') _
            rw [up_s]
            exact d1
        · rw [up_n (by omega), up_n (by omega)]
          obtain ⟨z1, z2, z3⟩ := hH.1.2 g' hg'
          refine ⟨z1, ?_, ?_⟩
          · show RGp (up (Hp A) g _ g') _
            rw [up_n e]; exact z2
          · show RGq (up (Hq A) g _ g') _
            rw [up_n e]; exact z3
      · rw [up_n (by omega), up_n (by omega)]
        exact hH.2
theorem opBeg_7 {A : AS} {g k : Nat} {w : List Nat} : Hn (opBeg A g k w) 7 = Hn A 7 := rfl
theorem opWr_7 {A : AS} {g : Nat} : Hn (act (opWr A g)) 7 = Hn A 7 - 1 := by
  show up (Hn (opWr A g)) 7 _ 7 = _
  rw [up_s]
  unfold opWr
  split <;> rfl
theorem C_write {T N g : Nat} (hg : g < 2) (hN : 40 < N) : ∀ (n M : Nat) (A : AS) (h : Nat → HV), n < M → RC A h → Inv A T → Hn A 7 = n → ∃ h', lpN M (fun z => st_X5_writeLetters_6 N (nI g) (1 + g) z) h = some h' ∧ RC (wrAll g n A) h' ∧ Inv (wrAll g n A) T := by
  intro n
  induction n with
  | zero =>
    intro M A h hM hH hI h7
    obtain ⟨M', rfl⟩ : ∃ k, M = k + 1 := ⟨M - 1, by omega⟩
    refine ⟨h, lpN_r ?_, hH, hI⟩
    rw [cw_eq, hH.1.1.1 7 (by decide), h7]
    exact if_pos (by decide)
  | succ n ih =>
    intro M A h hM hH hI h7
    have hb := hI.2.1.2.2.2.2.2.2.2
    obtain ⟨M', rfl⟩ : ∃ k, M = k + 1 := ⟨M - 1, by omega⟩
    have e0 : ¬ (nI (n + 1) ≤ 0) := by
      rw [L0, Z_le (by omega) (by decide)]
      omega
    have hwr := C_isWriting (hH.1.2 g hg) (Inv_pl hI hg).1
    unfold wrAll
    by_cases c : (Hp A g).2.2 ≠ []
    · rw [if_pos c]
      obtain ⟨h1, e1, r1⟩ := C_wrTail hH hI hg c (by omega)
      obtain ⟨h2, e2, r2⟩ := ih M' _ h1 (by omega) r1 (Inv_act (Inv_wr hI hg c)) (by rw [opWr_7, h7]; rfl)
      refine ⟨h2, ?_, r2⟩
      rw [lpN_l (y := h1)]
      · exact e2
      · rw [cw_eq, hH.1.1.1 7 (by decide), h7, if_neg e0, if_pos (by rw [hwr]; exact c)]
        exact e1
    · rw [if_neg c]
      have c' : (Hp A g).2.2 = [] := Classical.byContradiction c
      have hst : st_X5_writeLetters_6 N (nI g) (1 + g) h = (ob (F_X5_startNext N (1 + g) h) fun v12 h13 => (if v12 = true then cwTail (nI g) (1 + g) h13 else some (.inr h13))) := by
        rw [cw_eq, hH.1.1.1 7 (by decide), h7, if_neg e0, if_neg (by rw [hwr]; exact c)]
      rcases C_startNext hH hI hg c' hN with ⟨hf, e1⟩ | ⟨k, h1, hf, e1, r1⟩
      · rw [hf]
        refine ⟨h, lpN_r ?_, hH, hI⟩
        rw [hst, e1]
        rfl
      · rw [hf]
        obtain ⟨i1, i2, _⟩ := Inv_beg hI hg c' hf
        obtain ⟨h2, e2, r2⟩ := C_wrTail r1 i1 hg i2 (by rw [opBeg_7]; omega)
        obtain ⟨h3, e3, r3⟩ := ih M' _ h2 (by omega) r2 (Inv_act (Inv_wr i1 hg i2)) (by rw [opWr_7, opBeg_7, h7]; rfl)
        refine ⟨h3, ?_, r3⟩
        rw [lpN_l (y := h2)]
        · exact e3
        · rw [hst, e1, ob_s, if_pos rfl]
          exact e2
