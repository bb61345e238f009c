/-! ===== walk: the law's whole walk ===== -/
theorem digs_asc {v : Nat} (hv : v < 100) : ∀ c ∈ digs v, c < 128 := by
  intro c hc
  unfold digs at hc
  split at hc
  · rw [List.mem_singleton.mp hc]
    omega
  · rcases List.mem_cons.mp hc with h | h
    · omega
    · rw [List.mem_singleton.mp h]
      omega
theorem stN_asc {i : Nat} (hi : i < 32) : ∀ c ∈ stN i, c < 128 := by
  intro c hc
  unfold stN at hc
  obtain ⟨b, hb, rfl⟩ := List.mem_map.mp hc
  exact ((sTx_nI i hi).2 b hb).2
theorem asc_app {A B : List Nat} (ha : ∀ c ∈ A, c < 128) (hb : ∀ c ∈ B, c < 128) : ∀ c ∈ A ++ B, c < 128 := fun c hc => (List.mem_append.mp hc).elim (ha c) (hb c)
theorem asc_1 {x : Nat} (h : x < 128) : ∀ c ∈ [x], c < 128 := fun c hc => by rw [List.mem_singleton.mp hc]; exact h
theorem lwT0_asc (L : Nat) (xs : Nat → Int32) : ∀ c ∈ lwT0 L xs, c < 128 := by
  unfold lwT0
  refine asc_app (asc_app (asc_app (asc_app (asc_app (asc_app (asc_app (asc_app (asc_app (asc_app (stN_asc (by decide)) (digs_asc ?_)) (asc_1 (by decide))) (digs_asc ?_)) (asc_1 (by decide))) (digs_asc ?_)) (asc_1 (by decide))) (digs_asc ?_)) (asc_1 (by decide))) (digs_asc ?_)) (stN_asc (by decide))
  · have := lwS_lt L xs
    omega
  all_goals omega
theorem lwTws_asc (L : Nat) (xs : Nat → Int32) : ∀ k, ∀ c ∈ (lwTws L xs k).1, c < 128
  | 0 => lwT0_asc L xs
  | k + 1 => by
    have ih := lwTws_asc L xs k
    unfold lwTws lwTw
    dsimp only
    split
    · refine asc_app (asc_app (asc_app (asc_app (asc_app (asc_app (asc_app (asc_app (asc_app ih (stN_asc (by decide))) (digs_asc ?_)) (asc_1 (by decide))) (asc_1 ?_)) (asc_1 (by decide))) (digs_asc ?_)) (asc_1 (by decide))) (digs_asc ?_)) (asc_1 (by decide))
      · have h1 := lwS_lt L xs
        have h2 : cellN L xs (6 + k) % lwS L xs < lwS L xs := Nat.mod_lt _ (by have := lwS_ge L xs; omega)
        omega
      all_goals omega
    · exact ih
theorem lwNes_asc (L : Nat) (xs : Nat → Int32) : ∀ k, ∀ c ∈ (lwNes L xs k).1, c < 128
  | 0 => lwTws_asc L xs _
  | k + 1 => by
    have ih := lwNes_asc L xs k
    unfold lwNes lwNe
    dsimp only
    split
    · refine asc_app (asc_app (asc_app (asc_app (asc_app ih (stN_asc (by decide))) (digs_asc ?_)) (asc_1 (by decide))) (digs_asc ?_)) (asc_1 (by decide))
      · have h1 := lwS_lt L xs
        have h2 : cellN L xs (31 + k) % lwS L xs < lwS L xs := Nat.mod_lt _ (by have := lwS_ge L xs; omega)
        omega
      all_goals omega
    · exact ih
theorem lwMs_asc (L : Nat) (xs : Nat → Int32) : ∀ k, ∀ c ∈ lwMs L xs k, c < 128
  | 0 => lwNes_asc L xs _
  | k + 1 => by
    have ih := lwMs_asc L xs k
    unfold lwMs
    refine asc_app (asc_app (asc_app (asc_app (asc_app ih (stN_asc (by decide))) (digs_asc ?_)) (asc_1 (by decide))) wlk_lt) (asc_1 (by decide))
    omega
/-- what the law needs of the class: the text is read, the state stands, the rounds go, the end comes -/
def LawGoes (N L : Nat) (xs : Nat → Int32) : Prop := ∃ S1 S2 S3, F_comes (lwText L xs) 12 0 OmI.1 = some S1 ∧ F_X10_load N S1 = some (.inl (nI (lwS L xs), S2)) ∧ F_L_stands N S2 = some true ∧ F_rounds N L xs 12 0 S2 = some S3 ∧ F_last N S3 = some ()
set_option maxRecDepth 20000 in
theorem lw_walk {w0 : WP} (hok : ∀ z, ¬ wOk w0 z) (hfr : ∀ z, ¬ wFr w0 z) (hS : gS w0) (hZ : gZ w0) (hY : gY w0) {bS L : Nat} {xs : Nat → Int32} (hX : gSc w0 bS L xs) {X : CX} (C : gC w0 X cL_law "HedgeMessagesLaw" (some .boolean) 15 15) {F0 : State → Prop} (hroom : ∀ c n, c ≤ 2000 → n ≤ 400000 → qOk X (F0, c, n)) {N : Nat} (hL : LawGoes N L xs) (kk : ∀ (w : WP) ct c s, gC w X cL_law "HedgeMessagesLaw" (some .boolean) 15 15 → wL w = wL w0 → c ≤ 2000 → s ≤ 400000 → gU w X (F0, c, s) ct 722 [] [.int 1]) {ct : CT} : gU w0 X (F0, 0, 0) ct 0 [(0, .ref bS)] [] := by
  obtain ⟨S1, S2, S3, hF1, hF2, hF3, hF4, hF5⟩ := hL
  refine lk_head hS hY hX hok C hroom (by decide) (by decide) fun b aH aN n I ad ct c s hc hs hTL => ?_
  refine la_tw (f1 := fun _ => 0) hS hY hX hroom (cX := 51) (sX := 47184) (by decide) (by decide) ?_ (cellN L xs 5 % 5) 0 n I ad ct c s (Nat.zero_add _) hTL (by omega) (by omega)
  clear hTL
  intro n I ad ct c s hc hs hTL
  have C1 := hTL.1.C
  refine r_iconst C1 (v := nI 0) rfl dL_law_240 ?_
  refine r_istore C1 (lo' := [(5, .int (nI 0)), (0, .ref bS), (1, .int (nI (lwS L xs))), (2, .ref b), (3, .ref aH), (4, .ref aN)]) (by decide) rfl dL_law_241 ?_
  refine r_lo [1, 2, 3, 4, 5, 0] (lo' := [(0, .ref bS), (1, .int (nI (lwS L xs))), (2, .ref b), (3, .ref aH), (4, .ref aN), (5, .int (nI 0))]) rfl ?_
  refine la_ne (f2 := fun _ => 0) hS hY hX hroom (cX := 61) (sX := 57184) (by decide) (by decide) ?_ (cellN L xs 30 % 3) 0 n I ad ct c s (Nat.zero_add _) hTL (by omega) (by omega)
  clear hTL C1
  intro n I ad ct c s hc hs hTL
  have C1 := hTL.1.C
  refine r_iconst C1 (v := nI 0) rfl dL_law_329 ?_
  refine r_istore C1 (lo' := [(5, .int (nI 0)), (0, .ref bS), (1, .int (nI (lwS L xs))), (2, .ref b), (3, .ref aH), (4, .ref aN)]) (by decide) rfl dL_law_330 ?_
  refine r_lo [1, 2, 3, 0] (lo' := [(0, .ref bS), (1, .int (nI (lwS L xs))), (2, .ref b), (5, .int (nI 0))]) rfl ?_
  refine la_ms hS hY hX hroom (cX := 106) (sX := 102184) (by decide) (by decide) ?_ (cellN L xs 37 % 6) 0 n I ad ct c s (Nat.zero_add _) hTL.1 (by omega) (by omega)
  clear hTL C1
  intro n I ad ct c s hc hs hTH
  refine lm_p hS hY hX hZ hfr C hTH (lwMs_asc L xs _) (fun c9 n9 h1 h2 => hroom _ _ (by omega) (by omega)) N hF1 hF2 hF3 ?_
  intro w o c9 s9 hW hS9 hZ9 hY9 hfr9 hX9 C9 hl9 h1 h2
  refine r_iconst C9 (v := nI 0) rfl dL_law_472 ?_
  refine r_istore C9 (lo' := [(6, .int (nI 0)), (0, .ref bS), (5, .ref (wAd w (7, 11, 6, 0)))]) (by decide) rfl dL_law_473 ?_
  refine r_lo [1, 2, 0] (lo' := [(0, .ref bS), (5, .ref (wAd w (7, 11, 6, 0))), (6, .int (nI 0))]) rfl ?_
  have hw0 : LWd w X bS L xs := ⟨hW, hS9, hZ9, hY9, hfr9, hX9, C9⟩
  refine lr_loop hw0 (F0 := F0) N hroom (cX := 942) (sX := 302085) (by decide) (by decide) ?_ 12 0 S2 c9 s9 rfl hF4 (by omega) (by omega)
  intro c8 s8 h3 h4
  refine lr_last hw0 N hF5 (fun c9 n9 h1 h2 => hroom _ _ (by omega) (by omega)) ?_
  intro c7 s7 h5 h6 S9
  exact kk w _ c7 s7 C9 hl9 (by omega) (by omega)
