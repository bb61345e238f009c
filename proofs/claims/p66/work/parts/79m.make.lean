/-! ===== make: the class's object beside the text; the text is loaded ===== -/

theorem okB {z : ID} (h : IB z) : okX z := by
  rcases h with ((h | h) | h) | h
  · exact Or.inl (A_okC h)
  · rcases h with rfl | rfl
    · exact okT3 (by decide)
    · exact okT4 (by decide)
  · rcases h with rfl | rfl
    · exact okT3 (by decide)
    · exact okT4 (by decide)
  · rcases h with rfl | rfl
    · exact okT3 (by decide)
    · exact okT4 (by decide)
theorem tgB {z : ID} (h : IB z) : z.1 ≤ 10 := by
  rcases h with ((h | h) | h) | h
  · have h9 := A_okC h
    obtain ⟨k, j, p, a⟩ := z
    by_cases hk : k ≤ 10
    · exact hk
    · exfalso
      obtain ⟨k', rfl⟩ : ∃ q, k = q + 11 := ⟨k - 11, by omega⟩
      exact h9
  · have := tg_R h; omega
  · have := tg_R h; omega
  · have := tg_R h; omega
theorem IB_ne {z : ID} (h : IB z) : z ≠ (7, 11, 6, 0) := by
  rintro rfl
  rcases h with ((h | h) | h) | h
  · rcases h with ((((((h | h) | h) | h) | h) | h) | h) | h
    · exact (h : False).elim
    · have := tg_H h; omega
    · have := tg_H h; omega
    · have := tg_H h; omega
    · have := tg_Y h; omega
    · have := tg_X h; omega
    · have := tg_C h; omega
    · have := tg_R h; omega
  · have := tg_R h; omega
  · have := tg_R h; omega
  · have := tg_R h; omega
/-- the world with the ids P alone -/
def wR (w : WP) (P : ID → Prop) : WP := (wL w, wD w, (fun k => wOk w k ∧ P k), (fun k => wFr w k ∧ P k), wAd w, w.2.2.2.2.2.1, wE w)
theorem gD_R {w : WP} {P : ID → Prop} (h : gD w) : gD (wR w P) := ⟨fun i k hi hk e => h.1 i k hi.1 hk.1 e, fun i hi => ⟨h.2.1 i hi.1, hi.2⟩, h.2.2⟩
theorem gA_R {w : WP} {P : ID → Prop} {sz q : Nat} (h : gA (wR w P) sz q) : gA w sz q := h.elim (fun ⟨i, h1, h2⟩ => Or.inl ⟨i, h1.1, h2⟩) Or.inr
theorem gPcR {w : WP} {P : ID → Prop} {av : List Value} {ct0 : CT} {H : Heap} {s : State} {locs : List Loc} (hK : gK w s) (hD : gD w) (hP : gP w ct0 H) (hE : wE w (gA w s.heap.size) s s.heap) (hS : va_S (gA w s.heap.size) s.heap H locs) : FrameBlind (va_Pc av (fun U => U.heap.size = H.size ∧ gK (wR w P) U ∧ gP (wR w P) ct0 U.heap ∧ gD (wR w P) ∧ wE (wR w P) (gA (wR w P) H.size) U U.heap)) ∧ ∀ U : State, U.heap = H → s.WarmedH U.vm → va_Pc av (fun U => U.heap.size = H.size ∧ gK (wR w P) U ∧ gP (wR w P) ct0 U.heap ∧ gD (wR w P) ∧ wE (wR w P) (gA (wR w P) H.size) U U.heap) av.toArray U :=
  ⟨fun a U g mk q => by obtain ⟨q0, q1, q2, q3, q4, q5⟩ := q; exact ⟨q0, q1, q2.same (u := U) (U := U.calling g mk a) rfl, q3, q4, hD.2.2.2.1 _ U (U.calling g mk a) _ q5 rfl⟩, fun U hU hW => ⟨rfl, by rw [hU], hK.warm hW, (by rw [hU]; exact fun i hi => hP i hi.1), gD_R hD, by
    rw [hU]
    exact hD.2.2.2.2.2 _ _ _ _ (hD.2.2.2.2.1 _ _ _ _ (hD.2.2.1 _ _ _ _ hE hW) (fun a h1 h2 => hS.2.1 a h1 h2)) (fun q h => (gA_R h).elim Or.inl (fun h => Or.inr (Nat.le_trans hS.1 h)))⟩⟩
section FRAME
variable {w : WP} {X : CX} {cc : ByteArray} {own : String} {ret : Option FieldType} {d nL : Nat} {Q : QT} {ct : CT} {pc : Nat} {lo : List (Nat × Value)} {st : List Value}
/-- a constructor that knows of the ids P alone; all else stays -/
theorem r_ctorF (C : gC w X cc own ret d nL) (P : ID → Prop) {y : MethodName} {ccy : ByteArray} {nLy ny idx d' mc ms b : Nat} {I : ID → Prop} {ct' : (ID → Nat) → CT} (As : List Value) (hM : gMn (wR w P) d' y ccy nLy (.ref b :: As) ct I ct' mc ms) (hdis : ∀ z, I z → ¬ wOk w z) (Y : gYI y ccy nLy ny) (hli : Cond.methodLink own idx y ∈ lw_tbl) (hn : As.length = ny) (hdd : d' + 1 ≤ d) (hnl : nLy ≤ 21) (hst : (st.map fun v => v.category).sum ≤ 8) {stk : List Value} (hstk : stk = As.reverse ++ .ref b :: st) (hd : decode cc pc = .ok (.invokespecial idx, 3)) (hq : qOk X (Q.1, Q.2.1 + mc, Q.2.2 + ms)) {ct9 : (ID → Nat) → CT} (h9 : ∀ ad, gAg w I ad → (∀ z, (wOk w z ∧ P z) ∨ I z → ct9 ad z = ct' ad z) ∧ ∀ z, wOk w z → ¬ P z → ct9 ad z = ct z)
    (k : ∀ ad, gAg w I ad → gBh X I ad → gC (wM w I ad) X cc own ret d nL → gU (wM w I ad) X (Q.1, Q.2.1 + mc, Q.2.2 + ms) (ct9 ad) (pc + 3) lo st) : gU w X Q ct pc lo stk := by
  obtain ⟨p, e, R, s, m, args, below, meth, c, n, A⟩ := X
  intro H locs ls hP hS hl T hT X9
  have hA : A = gA w s.heap.size := C.2.2.2.2.2.2.2.2.2.1
  subst hA
  have hR := C.2.2.2.2.2.2.2.2.2.2.1
  have hDw := C.2.2.2.2.2.1
  have hB : CallB R s args own idx y ccy nLy none [.code y ccy nLy none] { frames := d', cells := mc, slots := ms, locals := 40 * d' } mc ms ny := by
    refine ⟨rfl, rfl, Nat.le_trans hdd hR.1, ?_, ?_, List.mem_cons_self, C.2.2.2.2.1.1.use Y.1 rfl, C.2.2.2.2.1.1.use Y.2.1 rfl, ⟨Y.2.2.1.1, Y.2.2.1.2.1⟩, fun sig h => ?_, C.2.2.2.2.1.1.use hli rfl⟩
    · show 8 + (nLy + 11) + 40 * d' ≤ R.locals
      have := hR.2
      omega
    · intro c hc a' U hW
      rw [List.mem_singleton.mp hc]
      exact (C.2.2.2.2.1.1.warm hW).use Y.1 rfl
    · have h2 := Y.2.2.1.2.2
      rw [h] at h2
      exact (Option.some.inj h2).symm
  have hpc := gPcR (P := P) (av := .ref b :: As) C.2.2.2.2.1 C.2.2.2.2.2.1 hP C.2.2.2.2.2.2.2.2.2.2.2 hS
  have hr := va_runI (As := As) (rest := st) (Ts := []) (own := own) (locs := locs) (cells := Q.2.1) (slots := Q.2.2) (p := p) (e := e) (R := R) (args := args) (below := below) (meth := meth) (c := c) (g := F0 m pc ls stk) (cc := cc) (nL := nL) (H := H) ⟨C.1, C.2.1, C.2.2.1, C.2.2.2.1, fun _ h => by cases h⟩ (hM H.size) ⟨hB, Y.2.2.2.2, C.2.2.2.2.1.1.use Y.2.2.2.1 rfl⟩ ⟨hpc.1, hpc.2⟩ rfl hn (by show ls.size = nL; rw [hl.1]; exact C.2.2.2.2.2.2.2.2.1) hstk (lv_room hst) hd hq
  have hA9 : ∀ q, q < H.size → gA (wR w P) H.size q → gA w s.heap.size q := fun q h1 h2 => (gA_R h2).elim Or.inl (fun h => absurd h (Nat.not_le.mpr h1))
  have hf : ∀ q, gA (wR w P) H.size q → gA w s.heap.size q := fun q h2 => (gA_R h2).elim Or.inl (fun h => Or.inr (Nat.le_trans hS.1 h))
  obtain ⟨v9, st₀, t, T', L, h0, X', hL, e1, e2, ⟨ad, hag, ⟨hv, hp, hD', hI⟩, hz, hk⟩, st9⟩ := hr T hT X9
  cases hv
  rw [h0] at hz hk
  have hI' : ∀ i, I i → s.heap.size ≤ ad i := fun i hi => Nat.le_trans hS.1 (hI i hi)
  have hag' : gAg w I ad := ⟨fun i hi => hag.2 i (fun z => hdis i z hi), hag.2⟩
  have hDn : gD (wM w I ad) := by
    refine ⟨fun a b ha hb hab => ?_, fun a ha => ha.elim (fun h => Or.inl (hDw.2.1 a h)) Or.inr, hDw.2.2⟩
    change ad a = ad b at hab
    rcases ha with ha | ha <;> rcases hb with hb | hb
    · rw [hag'.1 a ha, hag'.1 b hb] at hab
      exact hDw.1 a b ha hb hab
    · have h1 := (hP a ha).lt
      have h2 := hI b hb
      rw [← hab, hag'.1 a ha] at h2
      exact absurd h1 (Nat.not_lt.mpr h2)
    · have h1 := (hP b hb).lt
      have h2 := hI a ha
      rw [hab, hag'.1 b hb] at h2
      exact absurd h1 (Nat.not_lt.mpr h2)
    · exact hD'.1 a b (Or.inr ha) (Or.inr hb) hab
  obtain ⟨g1, g2⟩ := h9 ad hag'
  have hpn : gP (wM w I ad) (ct9 ad) t.heap := by
    intro z hz'
    rcases Classical.em ((wOk w z ∧ P z) ∨ I z) with h | h
    · have h3 := hp z h
      rw [g1 z h]
      exact h3
    · have hz1 : wOk w z := hz'.elim id (fun y => absurd (Or.inr y) h)
      have hz2 : ¬ P z := fun y => h (Or.inl ⟨hz1, y⟩)
      have h3 := hP z hz1
      have h4 : wAd w z < H.size := h3.lt
      have h5 : ¬ gA (wR w P) H.size (wAd w z) := by
        rintro (⟨i, hi, e⟩ | h6)
        · have e6 := hDw.1 i z (hDw.2.1 i hi.1) hz1 e
          rw [e6] at hi
          exact hz2 hi.2
        · exact absurd h4 (Nat.not_lt.mpr h6)
      rw [g2 z hz1 hz2]
      show va_at (wD w) vwCl (ad z, ct z) t.heap
      rw [hag'.1 z hz1]
      exact h3.kept (hk _ h4 h5)
  obtain ⟨t2, a1, b1⟩ := k ad hag' hI' (gC_M C hag' hI' hDn) T'.heap (locs ++ L) ls (by rw [e1]; exact hpn) ⟨Nat.le_trans hS.1 (by rw [e1]; exact hz), fun q h1 h2 => by rw [e1, hk q (Nat.lt_of_lt_of_le h1 hS.1) (fun z => h2 (hA9 q (Nat.lt_of_lt_of_le h1 hS.1) z))]; exact hS.2.1 q h1 h2, fun q hq => by
      rcases List.mem_append.mp hq with h | h
      · exact hS.2.2 q h
      · exact hf _ (hL q h)⟩ hl T' rfl X'
  exact ⟨t2, st9 t2 a1, b1⟩
/-- only the ids P are spoken of from here on; the others were made in this method -/
theorem r_only {P : ID → Prop} (k : gU (wR w P) X Q ct pc lo st) : gU w X Q ct pc lo st := by
  obtain ⟨p, e, R, s, m, args, below, meth, c, n, A⟩ := X
  exact fun H locs ls hP hS hl => k H locs ls (fun i hi => hP i hi.1) hS hl
theorem gC_R {P : ID → Prop} (C : gC w X cc own ret d nL) (h : gBh X (fun i => wFr w i ∧ ¬ P i) (wAd w)) : gC (wR w P) X cc own ret d nL := by
  obtain ⟨p, e, R, s, m, args, below, meth, c, n, A⟩ := X
  have hA : gA (wR w P) s.heap.size = gA w s.heap.size := by
    funext q
    apply propext
    refine ⟨gA_R, ?_⟩
    rintro (⟨i, h1, h2⟩ | h1)
    · rcases Classical.em (P i) with h3 | h3
      · exact Or.inl ⟨i, ⟨h1, h3⟩, h2⟩
      · refine Or.inr ?_
        rw [← h2]
        exact h i ⟨h1, h3⟩
    · exact Or.inr h1
  refine ⟨C.1, C.2.1, C.2.2.1, C.2.2.2.1, C.2.2.2.2.1, gD_R C.2.2.2.2.2.1, C.2.2.2.2.2.2.1, C.2.2.2.2.2.2.2.1, C.2.2.2.2.2.2.2.2.1, ?_, C.2.2.2.2.2.2.2.2.2.2.1, ?_⟩
  · rw [hA]; exact C.2.2.2.2.2.2.2.2.2.1
  · rw [hA]; exact C.2.2.2.2.2.2.2.2.2.2.2
end FRAME
theorem gBh_imp {X : CX} {I J : ID → Prop} {ad : ID → Nat} (h : ∀ z, J z → I z) (hI : gBh X I ad) : gBh X J ad := by
  obtain ⟨p, e, R, s, m, args, below, meth, c, n, A⟩ := X
  exact fun i hi => hI i (h i hi)
theorem gC_dep {w : WP} {X : CX} {cc : ByteArray} {own : String} {ret : Option FieldType} {d nL : Nat} (C : gC w X cc own ret d nL) (hok : ∀ z, ¬ wFr w z) {I : ID → Prop} {ad : ID → Nat} (hI : gBh X I ad) {P : ID → Prop} : gBh X (fun i => wFr (wM w I ad) i ∧ ¬ P i) (wAd (wM w I ad)) := by
  obtain ⟨p, e, R, s, m, args, below, meth, c, n, A⟩ := X
  exact fun i hi => hi.1.elim (fun h => absurd h (hok i)) (hI i)
theorem cA_lt {w : WP} {S : SS} {τ τ' : HV} {c c' : CT} {I : ID → Prop} {P : ID → Prop} {ad : ID → Nat} {z : ID} (h : z.1 ≤ 10) : cA (wM w I ad) (S, τ, c) z = cA (wM (wR w P) I ad) (S, τ', c') z := by
  obtain ⟨k, j, p, a⟩ := z
  match k, h with
  | 0, _ => rfl
  | 1, _ => rfl
  | 2, _ => rfl
  | 3, _ => rfl
  | 4, _ => rfl
  | 5, _ => rfl
  | 6, _ => rfl
  | 7, _ => rfl
  | 8, _ => rfl
  | 9, _ => rfl
  | 10, _ => rfl
  | n + 11, h => exact absurd h (by show ¬ n + 11 ≤ 10; omega)
set_option maxRecDepth 20000 in
set_option maxHeartbeats 4000000 in
theorem lm_p {w0 : WP} (hS : gS w0) (hY : gY w0) {bS L : Nat} {xs : Nat → Int32} (hX : gSc w0 bS L xs) {X : CX} {F0 : State → Prop} (hZ : gZ w0) (hfr : ∀ z, ¬ wFr w0 z) (Cw : gC w0 X cL_law "HedgeMessagesLaw" (some .boolean) 15 15) {b n : Nat} {I : ID → Prop} {ad : ID → Nat} {ct : CT} (hTH : TH w0 X 32 b (lwText L xs) n I ad ct) (hasc : ∀ c ∈ lwText L xs, c < 128) {c9 s9 : Nat} (room : ∀ c n, c ≤ c9 + 344 → n ≤ s9 + 7829 → qOk X (F0, c, n)) (N : Nat) {S1 S2 : SS} (hF1 : F_comes (lwText L xs) 12 0 OmI.1 = some S1) (hF2 : F_X10_load N S1 = some (.inl (nI (lwS L xs), S2))) (hF3 : F_L_stands N S2 = some true)
    (kk : ∀ (w : WP) (o : HV × CT) c s, gW w → gS w → gZ w → gY w → (∀ z : ID, 30 ≤ z.1 → ¬ wOk w z) → gSc w bS L xs → gC w X cL_law "HedgeMessagesLaw" (some .boolean) 15 15 → wL w = wL w0 → c ≤ c9 + 344 → s ≤ s9 + 7829 → gU w X (F0, c, s) (cA w (S2, o)) 472 [(0, .ref bS), (5, .ref (wAd w (7, 11, 6, 0)))] []) : gU (wM w0 I ad) X (F0, c9, s9) ct 440 [(0, .ref bS), (1, .int (nI (lwS L xs))), (2, .ref b)] [] := by
  obtain ⟨⟨hag0, hbh0, C0, hI0, hfr0, hb0, -, iC, L9, hiC, hIn⟩, hkd⟩ := id hTH
  have hS0 := gS_N hS hag0 hI0
  have hn0 : ∀ z : ID, z.1 < 30 → ¬ wOk (wM w0 I ad) z := fun z h1 h2 => by have := (hkd z h2).1; omega
  refine r_new C0 F10 wm1_27 rfl wm1_28 wm1_12 (7, 11, 6, 0) (hn0 _ (by decide)) (fs := fsA) (fun j hj => by match j, hj with | 0, _ | 1, _ | 2, _ | 3, _ | 4, _ | 5, _ | 6, _ | 7, _ | 8, _ => rfl | j + 9, h => exact absurd h (by omega)) dL_law_440 (room _ _ (Nat.add_le_add_left (by decide) c9) (Nat.add_le_add_left (by decide) s9)) fun q1 hag1 hbh1 C1 => ?_
  have hI1 : ∀ z, one (7, 11, 6, 0) z → z.1 < 13 ∨ z.1 = 14 := fun z hz => by rw [show z = (7, 11, 6, 0) from hz]; exact Or.inl (by decide)
  have hS1 := gS_M hS0 hag1 hI1
  have e1 : adU (wM w0 I ad) (7, 11, 6, 0) q1 (7, 11, 6, 0) = q1 := if_pos rfl
  have hIn1 := hIn.m (ct' := upE ct (7, 11, 6, 0) (.inr (7, fsA))) (gD_C C0) hag1 (upE_n (by decide)) (upE_n (fun e => by rw [e] at hiC; exact absurd hiC (by decide)))
  have hb1 : adU (wM w0 I ad) (7, 11, 6, 0) q1 (31, 0, 0, 0) = b := (if_neg (by decide)).trans hb0
  generalize adU (wM w0 I ad) (7, 11, 6, 0) q1 = ad1 at hag1 hbh1 C1 hS1 e1 hIn1 hb1 ⊢
  have hx1 : ∀ z, wOk (wR (wM (wM w0 I ad) (one (7, 11, 6, 0)) ad1) (fun z => z = (7, 11, 6, 0))) z ↔ z = (7, 11, 6, 0) := fun z => ⟨fun h => h.2, fun h => ⟨Or.inr h, h⟩⟩
  have hk1 : ∀ z : ID, wOk (wM (wM w0 I ad) (one (7, 11, 6, 0)) ad1) z → z = (7, 11, 6, 0) ∨ (30 ≤ z.1 ∧ z.1 ≤ 32) := fun z hz => hz.elim (fun h => Or.inr (hkd z h)) Or.inl
  refine r_dup C1 rfl dL_law_443 ?_
  refine r_ctorF C1 (fun z => z = (7, 11, 6, 0)) (d' := 5) [] (c_X10_init (w := wR (wM (wM w0 I ad) (one (7, 11, 6, 0)) ad1) (fun z => z = (7, 11, 6, 0))) (gD_R (gD_C C1)) hY hS1 hx1 ⟨Or.inr rfl, rfl⟩ e1 (ct := upE ct (7, 11, 6, 0) (.inr (7, fsA))) upE_s) (fun z hz h => (hk1 z h).elim (IB_ne hz) (fun h => by have := tgB hz; omega)) myX10_init wm1_29 rfl (kR rfl) (by decide) (kR rfl) rfl dL_law_444 (room _ _ (Nat.le_trans (Nat.le_of_eq (Nat.add_assoc c9 1 329)) (Nat.add_le_add_left (by decide) c9)) (Nat.le_trans (Nat.le_of_eq (Nat.add_assoc s9 9 6756)) (Nat.add_le_add_left (by decide) s9))) (ct9 := fun ad2 => cA (wM (wM (wM w0 I ad) (one (7, 11, 6, 0)) ad1) IB ad2) (OmI.1, OmI.2.1, upE ct (7, 11, 6, 0) (.inr (7, fsA)))) (fun ad2 _ => ⟨fun z hz => ?_, fun z h1 h2 => ?_⟩) fun ad2 hag2 hbh2 C2 => ?_
  · have hz9 : z.1 ≤ 10 := hz.elim (fun h => by rw [h.2]; decide) tgB
    exact cA_lt hz9
  · exact cA_m (by rcases hk1 z h1 with h | h; exact absurd h h2; omega)
  have hI2 : ∀ z, IB z → z.1 < 13 ∨ z.1 = 14 := fun z hz => Or.inl (by have := tgB hz; omega)
  have hS2 := gS_M hS1 hag2 hI2
  have hD2 := gD_C C2
  have hIn2 := hIn1.m (ct' := cA (wM (wM (wM w0 I ad) (one (7, 11, 6, 0)) ad1) IB ad2) (OmI.1, OmI.2.1, upE ct (7, 11, 6, 0) (.inr (7, fsA)))) (gD_C C1) hag2 (cA_m (by decide)) (cA_m (by rw [hiC]; decide))
  have hb2 : ad2 (31, 0, 0, 0) = b := (hag2.1 _ ((gD_C C1).2.1 _ hIn1.1)).trans hb1
  have e2 : ad2 (7, 11, 6, 0) = q1 := (hag2.1 _ (Or.inr rfl)).trans e1
  have hk2 : ∀ z : ID, wOk (wM (wM (wM w0 I ad) (one (7, 11, 6, 0)) ad1) IB ad2) z → (okX z ∧ z.1 ≤ 10) ∨ (30 ≤ z.1 ∧ z.1 ≤ 32) := fun z hz => hz.elim (fun h => (hk1 z h).elim (fun h => by rw [h]; exact Or.inl ⟨Or.inl k7, by decide⟩) Or.inr) (fun h => Or.inl ⟨okB h, tgB h⟩)
  have hW2 : gW (wM (wM (wM w0 I ad) (one (7, 11, 6, 0)) ad1) IB ad2) := ⟨fun z hz => (hk2 z hz).elim (fun h => h.1) (fun h => Or.inr (Or.inl h.1)), fun z hz => (okC_A hz).elim (fun h => Or.inl (Or.inr h)) (fun h => Or.inr (Or.inl (Or.inl (Or.inl h)))), hD2⟩
  have hbh02 : gBh X (fun z => ((I z ∨ one (7, 11, 6, 0) z) ∨ IB z)) ad2 := gBh_M (gBh_M hbh0 hag1 hbh1) (by rw [← wM_M]; exact hag2) hbh2
  refine r_wid (c' := c9 + 330) (s' := s9 + 6765) (Nat.le_of_eq (Nat.add_assoc c9 1 329)) (Nat.le_of_eq (Nat.add_assoc s9 9 6756)) ?_
  generalize upE ct (7, 11, 6, 0) (.inr (7, fsA)) = ct1 at hIn2 ⊢
  show gU (wM (wM (wM w0 I ad) (one (7, 11, 6, 0)) ad1) IB ad2) X (F0, c9 + 330, s9 + 6765) (cA (wM (wM (wM w0 I ad) (one (7, 11, 6, 0)) ad1) IB ad2) (OmI.1, OmI.2.1, ct1)) 447 [(0, .ref bS), (1, .int (nI (lwS L xs))), (2, .ref b)] [.ref q1]
  generalize hw2 : wM (wM (wM w0 I ad) (one (7, 11, 6, 0)) ad1) IB ad2 = w2 at C2 hS2 hD2 hIn2 hk2 hW2 ⊢
  have hY2 : gY w2 := by rw [← hw2]; exact hY
  have hA2 : wAd w2 = ad2 := by rw [← hw2]; rfl
  have hX2 : gSc w2 bS L xs := by rw [← hw2]; exact hX
  have hZ2 : gZ w2 := by rw [← hw2]; exact hZ
  have hL2 : wL w2 = wL w0 := by rw [← hw2]; rfl
  have hF2w : w2 = wM w0 (fun z => I z ∨ one (7, 11, 6, 0) z ∨ IB z) ad2 := by rw [← hw2, wM_M, wM_M]
  rw [← hA2] at hb2 e2
  refine r_astore C2 (lo' := [(5, .ref q1), (0, .ref bS), (1, .int (nI (lwS L xs))), (2, .ref b)]) (by decide) rfl dL_law_447 ?_
  refine r_aload C2 (k := 0) rfl dL_law_449 ?_
  refine r_aload_n C2 (k := 3) rfl rfl dL_law_451 ?_
  refine r_geV C2 (d' := 5) [] (c_toS hS2 hY2 hD2 hIn2 hb2 hasc (iS := (33, 0, 0, 0)) (iX := (33, 1, 0, 0)) (fun z => (hk2 _ z).elim (fun h => absurd h.2 (by decide)) (fun h => absurd h.2 (by decide))) (fun z => (hk2 _ z).elim (fun h => absurd h.2 (by decide)) (fun h => absurd h.2 (by decide))) (by decide) (by decide)) mbJ4_toString_0e30d (sel_tbl C2 wm6_94 rfl) wm6_92 (recB (hD2.2.1 _ hIn2.1) hb2 hIn2.2.2.2.1) rfl (kR rfl) (by decide) (kR rfl) rfl dL_law_452 (room _ _ (Nat.le_trans (Nat.le_of_eq (Nat.add_assoc c9 330 2)) (Nat.add_le_add_left (by decide) c9)) (Nat.le_trans (Nat.le_of_eq (Nat.add_assoc s9 6765 1004)) (Nat.add_le_add_left (by decide) s9))) ?_
  rintro I4 ad4 v4 ct4 ⟨rfl, rfl, hst4, hf4⟩ hag4 hbh4 C4
  refine r_wid (c' := c9 + 332) (s' := s9 + 7769) (Nat.le_of_eq (Nat.add_assoc c9 330 2)) (Nat.le_of_eq (Nat.add_assoc s9 6765 1004)) ?_
  show gU (wM w2 _ ad4) X (F0, c9 + 332, s9 + 7769) ct4 455 [(5, .ref q1), (0, .ref bS), (1, .int (nI (lwS L xs))), (2, .ref b)] [.ref (ad4 (33, 0, 0, 0)), .ref q1]
  have hI4 : ∀ z, (one (33, 0, 0, 0) z ∨ one (33, 1, 0, 0) z) → 30 ≤ z.1 := by
    rintro z (hz | hz)
    · rw [show z = (33, 0, 0, 0) from hz]; decide
    · rw [show z = (33, 1, 0, 0) from hz]; decide
  have hS5 := gS_N hS2 hag4 hI4
  have hD5 := gD_C C4
  have hW5 := gW_N hW2 hI4 hD5
  have h75 : wAd (wM w2 (fun z => one (33, 0, 0, 0) z ∨ one (33, 1, 0, 0) z) ad4) (7, 11, 6, 0) = q1 := (hag4.2 _ (fun z => by have := hI4 _ z; simp at this)).trans e2
  have hct : ct4 = cA (wM w2 _ ad4) (OmI.1, OmI.2.1, ct4) := cA_fr (Ω := (OmI.1, OmI.2.1, ct1)) (fun z hz => by
    rw [cA_N hag4 hI4, hf4 z (fun e => by rw [e] at hz; exact absurd hz (by decide)) (fun e => by rw [e] at hz; exact absurd hz (by decide))])
  rw [hct] at hst4 ⊢
  have hcm := c_loads (w := wM w2 _ ad4) (iN := (34, 0, 0, 0)) (s := ad4 (33, 0, 0, 0)) hW5 hS5 hY2 rfl (by decide) (by decide) (fun h => h.elim (fun z => (hk2 _ z).elim (fun h => absurd h.2 (by decide)) (fun h => absurd h.2 (by decide))) (fun h => h.elim (fun h => by cases h) (fun h => by cases h))) (by decide) 12 N hF1 hF2 hst4
  rw [h75] at hcm
  refine r_ggS C4 (d' := 9) [.ref q1, .ref (ad4 (33, 0, 0, 0))] hcm myL_load wm3_56 rfl (kR rfl) (by decide) (kR rfl) rfl dL_law_455 (room _ _ (Nat.le_trans (Nat.le_of_eq (Nat.add_assoc c9 332 12)) (Nat.add_le_add_left (by decide) c9)) (Nat.le_trans (Nat.le_of_eq (Nat.add_assoc s9 7769 (5 * 12))) (Nat.add_le_add_left (by decide) s9))) ?_
  refine r_wid (c' := c9 + 344) (s' := s9 + 7829) (Nat.le_of_eq (Nat.add_assoc c9 332 12)) (Nat.le_of_eq (Nat.add_assoc s9 7769 60)) ?_
  show gU (wM w2 _ ad4) X (F0, c9 + 344, s9 + 7829) (cA (wM w2 _ ad4) (S2, OmI.2.1, ct4)) 458 [(5, .ref q1), (0, .ref bS), (1, .int (nI (lwS L xs))), (2, .ref b)] [.int (nI (lwS L xs))]
  refine r_iload_n C4 (k := 2) rfl rfl dL_law_458 ?_
  refine r_icmp_ne C4 (tgt := 470) rfl dL_law_459 (fun h => absurd rfl h) (fun _ => ?_)
  refine r_aload C4 (k := 0) rfl dL_law_462 ?_
  have hst9 := c_L_stands (w := wM w2 (fun z => one (33, 0, 0, 0) z ∨ one (33, 1, 0, 0) z) ad4) (Ω := (S2, OmI.2.1, ct4)) hW5 hS5 rfl N hF3
  rw [h75] at hst9
  refine r_callS C4 (d' := 11) [.ref q1] hst9 myL_stands wm5_82 rfl (kR rfl) (by decide) (kR rfl) rfl dL_law_464 ?_ (room _ _ (Nat.add_le_add_left (by decide) c9) (Nat.add_le_add_left (by decide) s9))
  refine r_if_ne C4 (tgt := 472) rfl dL_law_467 (fun _ => ?_) (fun h => absurd h (by decide))
  refine r_lo [1, 0] (lo' := [(0, .ref bS), (5, .ref q1)]) rfl ?_
  refine r_forget hag4 ?_
  rw [cA_N hag4 hI4]
  refine r_only (P := fun z => z.1 ≤ 10) ?_
  have C7 : gC (wR w2 (fun z => z.1 ≤ 10)) X cL_law "HedgeMessagesLaw" (some .boolean) 15 15 := gC_R C2 (by rw [hF2w]; exact gC_dep Cw hfr (gBh_imp (fun z h => h.elim (fun h => Or.inl (Or.inl h)) (fun h => h.elim (fun h => Or.inl (Or.inr h)) Or.inr)) hbh02))
  have h6 := kk (wR w2 (fun z => z.1 ≤ 10)) (OmI.2.1, ct4) (c9 + 344) (s9 + 7829) ⟨fun z hz => (hk2 z hz.1).elim (fun h => h.1) (fun h => Or.inr (Or.inl h.1)), fun z hz => ⟨hW2.2.1 z hz, ?_⟩, gD_R hD2⟩ hS2 hZ2 hY2 (fun z h1 h2 => by have h3 : z.1 ≤ 10 := h2.2; omega) hX2 C7 hL2 (Nat.le_refl _) (Nat.le_refl _)
  · rw [show wAd (wR w2 (fun z => z.1 ≤ 10)) (7, 11, 6, 0) = q1 from e2] at h6
    exact h6
  · exact (okC_A hz).elim (fun h => by rw [h]; decide) (fun h => tgB (Or.inl (Or.inl (Or.inl h))))
