/-! ===== build2: the messages of the law's text ===== -/

theorem la_ml {w0 : WP} (hS : gS w0) (hY : gY w0) {bS L : Nat} {xs : Nat → Int32} (hX : gSc w0 bS L xs) {X : CX} {F0 : State → Prop} {b k : Nat} (hk5 : k < 6) {T : List Nat} (hT3 : T.length ≤ 250) {cE sE : Nat} (hroom : ∀ c n, c ≤ cE → n ≤ sE → qOk X (F0, c, n)) {cX sX : Nat} (hcX : cX ≤ cE) (hsX : sX ≤ sE) (kk : ∀ n I ad ct c s, c ≤ cX → s ≤ sX → TH w0 X 32 b (T ++ wlk (cellN L xs (38 + k)) (cellN L xs (38 + k) % 5 + 1)) n I ad ct → gU (wM w0 I ad) X (F0, c, s) ct 427 [(0, .ref bS), (1, .int (nI (lwS L xs))), (2, .ref b), (5, .int (nI k))] []) : ∀ m i n I ad ct c9 s9, i + m = cellN L xs (38 + k) % 5 + 1 → TH w0 X 32 b (T ++ wlk (cellN L xs (38 + k)) i) n I ad ct → c9 + 1 * m ≤ cX → s9 + 1000 * m ≤ sX → gU (wM w0 I ad) X (F0, c9, s9) ct 376 [(0, .ref bS), (1, .int (nI (lwS L xs))), (2, .ref b), (5, .int (nI k)), (6, .int (nI i))] [] := by
  intro m
  induction m with
  | zero =>
    intro i n I ad ct c9 s9 hi hTH hc hs
    have room : ∀ c n, c ≤ c9 + 0 → n ≤ s9 + 0 → qOk X (F0, c, n) := fun c n g1 g2 => hroom c n (by omega) (by omega)
    have C := hTH.C
    obtain rfl : i = cellN L xs (38 + k) % 5 + 1 := hi
    refine r_iload C (k := 4) rfl dL_law_376 ?_
    refine r_aload_n C (k := 0) rfl rfl dL_law_378 ?_
    refine r_bipush C (v := 38) rfl dL_law_379 ?_
    refine r_iload C (k := 3) rfl dL_law_381 ?_
    refine r_iadd C dL_law_383 ?_
    refine r_st (st' := [.int (nI (38 + k)), .ref bS, .int (nI (cellN L xs (38 + k) % 5 + 1))]) (by rw [show (38 : Int32) + nI (k) = nI (38 + k) from nI_add 38 _] <;> rfl) ?_
    refine r_callS C (d' := 1) [.ref bS, .int (nI (38 + k))] (c_cell (w := wM w0 I ad) hX (i := 38 + k) (by omega)) myL_cell wm3_49 rfl (kR rfl) (by decide) (kR rfl) rfl dL_law_384 ?_ (room _ _ (Nat.le_add_right _ _) (Nat.le_add_right _ _))
    refine r_iconst C (v := 5) rfl dL_law_387 ?_
    refine r_irem C (by decide) dL_law_388 ?_
    refine r_st (st' := [.int (nI (cellN L xs (38 + k) % 5)), .int (nI (cellN L xs (38 + k) % 5 + 1))]) (by rw [show nI (cellN L xs (38 + k)) - nI (cellN L xs (38 + k)) / 5 * 5 = nI (cellN L xs (38 + k) % 5) from pk_rem (d := 5) (a := cellN L xs (38 + k)) (by have := @cellN_lt L xs; first | exact Nat.lt_trans cellN_lt (by decide) | omega) (by decide) (by decide)] <;> rfl) ?_
    refine r_icmp_gt C (tgt := 427) rfl dL_law_389 (fun _ => ?_) (fun h => absurd (nI_lt (Nat.lt_succ_self _) (by omega)) h)
    refine r_lo [0, 1, 2, 3] (lo' := [(0, .ref bS), (1, .int (nI (lwS L xs))), (2, .ref b), (5, .int (nI k))]) rfl ?_
    exact kk n I ad ct _ _ (by omega) (by omega) hTH
  | succ m ih =>
    intro i n I ad ct c9 s9 hi hTH hc hs
    have room : ∀ c n, c ≤ c9 + 1 → n ≤ s9 + 1000 → qOk X (F0, c, n) := fun c n g1 g2 => hroom c n (by omega) (by omega)
    have C := hTH.C
    refine r_iload C (k := 4) rfl dL_law_376 ?_
    refine r_aload_n C (k := 0) rfl rfl dL_law_378 ?_
    refine r_bipush C (v := 38) rfl dL_law_379 ?_
    refine r_iload C (k := 3) rfl dL_law_381 ?_
    refine r_iadd C dL_law_383 ?_
    refine r_st (st' := [.int (nI (38 + k)), .ref bS, .int (nI i)]) (by rw [show (38 : Int32) + nI (k) = nI (38 + k) from nI_add 38 _] <;> rfl) ?_
    refine r_callS C (d' := 1) [.ref bS, .int (nI (38 + k))] (c_cell (w := wM w0 I ad) hX (i := 38 + k) (by omega)) myL_cell wm3_49 rfl (kR rfl) (by decide) (kR rfl) rfl dL_law_384 ?_ (room _ _ (Nat.le_add_right _ _) (Nat.le_add_right _ _))
    refine r_iconst C (v := 5) rfl dL_law_387 ?_
    refine r_irem C (by decide) dL_law_388 ?_
    refine r_st (st' := [.int (nI (cellN L xs (38 + k) % 5)), .int (nI i)]) (by rw [show nI (cellN L xs (38 + k)) - nI (cellN L xs (38 + k)) / 5 * 5 = nI (cellN L xs (38 + k) % 5) from pk_rem (d := 5) (a := cellN L xs (38 + k)) (by have := @cellN_lt L xs; first | exact Nat.lt_trans cellN_lt (by decide) | omega) (by decide) (by decide)] <;> rfl) ?_
    refine r_icmp_gt C (tgt := 427) rfl dL_law_389 (fun h => absurd h (nI_nlt (by omega) (by omega))) (fun _ => ?_)
    have hS1 := hTH.S hS
    have hl : (T ++ wlk (cellN L xs (38 + k)) i).length ≤ 300 := by rw [List.length_append, wlk_len]; omega
    refine r_aload_n C (k := 2) rfl rfl dL_law_392 ?_
    refine r_bipush C (v := 97) rfl dL_law_393 ?_
    refine r_aload_n C (k := 0) rfl rfl dL_law_395 ?_
    refine r_bipush C (v := 38) rfl dL_law_396 ?_
    refine r_iload C (k := 3) rfl dL_law_398 ?_
    refine r_iadd C dL_law_400 ?_
    refine r_st (st' := [.int (nI (38 + k)), .ref bS, .int 97, .ref b]) (by rw [show (38 : Int32) + nI (k) = nI (38 + k) from nI_add 38 _] <;> rfl) ?_
    refine r_callS C (d' := 1) [.ref bS, .int (nI (38 + k))] (c_cell (w := wM w0 I ad) hX (i := 38 + k) (by omega)) myL_cell wm3_49 rfl (kR rfl) (by decide) (kR rfl) rfl dL_law_401 ?_ (room _ _ (Nat.le_add_right _ _) (Nat.le_add_right _ _))
    refine r_iconst C (v := 5) rfl dL_law_404 ?_
    refine r_idiv C (by decide) dL_law_405 ?_
    refine r_st (st' := [.int (nI (cellN L xs (38 + k) / 5)), .int 97, .ref b]) (by rw [show nI (cellN L xs (38 + k)) / 5 = nI (cellN L xs (38 + k) / 5) from pk_div (d := 5) (a := cellN L xs (38 + k)) (Nat.lt_trans cellN_lt (by decide)) (by decide) (by decide)] <;> rfl) ?_
    refine r_bipush C (v := 7) rfl dL_law_406 ?_
    refine r_iload C (k := 4) rfl dL_law_408 ?_
    refine r_imul C dL_law_410 ?_
    refine r_st (st' := [.int (nI (7 * i)), .int (nI (cellN L xs (38 + k) / 5)), .int 97, .ref b]) (by rw [show (7 : Int32) * nI i = nI (7 * i) from pk_mul 7 i] <;> rfl) ?_
    refine r_iadd C dL_law_411 ?_
    refine r_st (st' := [.int (nI (cellN L xs (38 + k) / 5 + 7 * i)), .int 97, .ref b]) (by rw [nI_add] <;> rfl) ?_
    refine r_bipush C (v := 26) rfl dL_law_412 ?_
    refine r_irem C (by decide) dL_law_414 ?_
    refine r_st (st' := [.int (nI ((cellN L xs (38 + k) / 5 + 7 * i) % 26)), .int 97, .ref b]) (by rw [show nI (cellN L xs (38 + k) / 5 + 7 * i) - nI (cellN L xs (38 + k) / 5 + 7 * i) / 26 * 26 = nI ((cellN L xs (38 + k) / 5 + 7 * i) % 26) from pk_rem (d := 26) (a := cellN L xs (38 + k) / 5 + 7 * i) (by have := @cellN_lt L xs (38 + k); omega) (by decide) (by decide)] <;> rfl) ?_
    refine r_iadd C dL_law_415 ?_
    refine r_st (st' := [.int (nI (97 + (cellN L xs (38 + k) / 5 + 7 * i) % 26)), .ref b]) (by rw [show (97 : Int32) + nI ((cellN L xs (38 + k) / 5 + 7 * i) % 26) = nI (97 + (cellN L xs (38 + k) / 5 + 7 * i) % 26) from nI_add 97 _] <;> rfl) ?_
    refine r_i2c C (v := nI (97 + (cellN L xs (38 + k) / 5 + 7 * i) % 26)) (chr_2 ⟨97 + (cellN L xs (38 + k) / 5 + 7 * i) % 26, by omega⟩) dL_law_416 ?_
    refine th_app (by decide) hS hY hTH (T' := T ++ wlk (cellN L xs (38 + k)) i ++ [97 + (cellN L xs (38 + k) / 5 + 7 * i) % 26]) (d' := 5) [.int (nI (97 + (cellN L xs (38 + k) / 5 + 7 * i) % 26))] (fun iV iW L9 h1 h2 h3 h4 h5 h6 h7 => c_sbC h1 h2 h3 h4 h5 h6 h7 (c := 97 + (cellN L xs (38 + k) / 5 + 7 * i) % 26) (by omega) (by omega)) mbJ4_append_cf468 wm6_25 rfl wm6_23 rfl (by decide) (kR rfl) (kR rfl) rfl dL_law_417 (room _ _ (Nat.add_le_add_left (by decide) c9) (Nat.add_le_add_left (by decide) s9)) ?_
    intro I ad ct hTH _ _
    have C := hTH.C
    have hS1 := hTH.S hS
    show gU (wM w0 I ad) X (F0, c9 + 1, s9 + 1000) ct 420 [(0, .ref bS), (1, .int (nI (lwS L xs))), (2, .ref b), (5, .int (nI k)), (6, .int (nI i))] [.ref b]
    replace hl : (T ++ wlk (cellN L xs (38 + k)) i ++ [97 + (cellN L xs (38 + k) / 5 + 7 * i) % 26]).length ≤ 301 := by rw [List.length_append]; show _ + 1 ≤ _; omega
    refine r_pop C rfl dL_law_420 ?_
    have e9 : T ++ wlk (cellN L xs (38 + k)) i ++ [97 + (cellN L xs (38 + k) / 5 + 7 * i) % 26] = T ++ wlk (cellN L xs (38 + k)) (i + 1) := by rw [wlk_s, List.append_assoc]
    rw [e9] at hTH
    refine r_iinc C (k := 4) (v := nI (i + 1)) (lo' := [(6, .int (nI (i + 1))), (0, .ref bS), (1, .int (nI (lwS L xs))), (2, .ref b), (5, .int (nI k))]) rfl (by exact nI_add i 1) (by decide) rfl dL_law_421 ?_
    refine r_goto C (tgt := 376) rfl dL_law_424 ?_
    refine r_lo [1, 2, 3, 4, 0] (lo' := [(0, .ref bS), (1, .int (nI (lwS L xs))), (2, .ref b), (5, .int (nI k)), (6, .int (nI (i + 1)))]) rfl ?_
    clear hl
    exact ih (i + 1) _ I ad _ _ _ (by omega) hTH (by omega) (by omega)
set_option maxRecDepth 20000 in
theorem la_ms {w0 : WP} (hS : gS w0) (hY : gY w0) {bS L : Nat} {xs : Nat → Int32} (hX : gSc w0 bS L xs) {X : CX} {F0 : State → Prop} {b : Nat} {cE sE : Nat} (hroom : ∀ c n, c ≤ cE → n ≤ sE → qOk X (F0, c, n)) {cX sX : Nat} (hcX : cX ≤ cE) (hsX : sX ≤ sE) (kk : ∀ n I ad ct c s, c ≤ cX → s ≤ sX → TH w0 X 32 b (lwText L xs) n I ad ct → gU (wM w0 I ad) X (F0, c, s) ct 440 [(0, .ref bS), (1, .int (nI (lwS L xs))), (2, .ref b)] []) : ∀ m k n I ad ct c9 s9, k + m = cellN L xs 37 % 6 → TH w0 X 32 b (lwMs L xs k) n I ad ct → c9 + 9 * m ≤ cX → s9 + 9000 * m ≤ sX → gU (wM w0 I ad) X (F0, c9, s9) ct 332 [(0, .ref bS), (1, .int (nI (lwS L xs))), (2, .ref b), (5, .int (nI k))] [] := by
  intro m
  induction m with
  | zero =>
    intro k n I ad ct c9 s9 hk hTH hc hs
    have room : ∀ c n, c ≤ c9 + 0 → n ≤ s9 + 0 → qOk X (F0, c, n) := fun c n g1 g2 => hroom c n (by omega) (by omega)
    have C := hTH.C
    obtain rfl : k = cellN L xs 37 % 6 := hk
    refine r_iload C (k := 3) rfl dL_law_332 ?_
    refine r_aload_n C (k := 0) rfl rfl dL_law_334 ?_
    refine r_bipush C (v := 37) rfl dL_law_335 ?_
    refine r_st (st' := [.int (nI 37), .ref bS, .int (nI (cellN L xs 37 % 6))]) rfl ?_
    refine r_callS C (d' := 1) [.ref bS, .int (nI (37))] (c_cell (w := wM w0 I ad) hX (i := 37) (by omega)) myL_cell wm3_49 rfl (kR rfl) (by decide) (kR rfl) rfl dL_law_337 ?_ (room _ _ (Nat.le_add_right _ _) (Nat.le_add_right _ _))
    refine r_bipush C (v := 6) rfl dL_law_340 ?_
    refine r_irem C (by decide) dL_law_342 ?_
    refine r_st (st' := [.int (nI (cellN L xs (37) % 6)), .int (nI (cellN L xs 37 % 6))]) (by rw [show nI (cellN L xs (37)) - nI (cellN L xs (37)) / 6 * 6 = nI (cellN L xs (37) % 6) from pk_rem (d := 6) (a := cellN L xs (37)) (by have := @cellN_lt L xs; first | exact Nat.lt_trans cellN_lt (by decide) | omega) (by decide) (by decide)] <;> rfl) ?_
    refine r_icmp_ge C (tgt := 440) rfl dL_law_343 (fun _ => ?_) (fun h => absurd (show nI (cellN L xs (37) % 6) ≤ nI (cellN L xs 37 % 6) from Int32.le_refl _) h)
    refine r_lo [0, 1, 2] (lo' := [(0, .ref bS), (1, .int (nI (lwS L xs))), (2, .ref b)]) rfl ?_
    exact kk n I ad ct _ _ (by omega) (by omega) hTH
  | succ m ih =>
    intro k n I ad ct c9 s9 hk hTH hc hs
    have room : ∀ c n, c ≤ c9 + 3 → n ≤ s9 + 3000 → qOk X (F0, c, n) := fun c n g1 g2 => hroom c n (by omega) (by omega)
    have r1 : c9 + 8 ≤ cE := by omega
    have r2 : s9 + 8000 ≤ sE := by omega
    have r3 : c9 + 3 + 1 * (cellN L xs (38 + k) % 5 + 1) ≤ c9 + 8 := by omega
    have r4 : s9 + 3000 + 1000 * (cellN L xs (38 + k) % 5 + 1) ≤ s9 + 8000 := by omega
    have C := hTH.C
    refine r_iload C (k := 3) rfl dL_law_332 ?_
    refine r_aload_n C (k := 0) rfl rfl dL_law_334 ?_
    refine r_bipush C (v := 37) rfl dL_law_335 ?_
    refine r_st (st' := [.int (nI 37), .ref bS, .int (nI k)]) rfl ?_
    refine r_callS C (d' := 1) [.ref bS, .int (nI (37))] (c_cell (w := wM w0 I ad) hX (i := 37) (by omega)) myL_cell wm3_49 rfl (kR rfl) (by decide) (kR rfl) rfl dL_law_337 ?_ (room _ _ (Nat.le_add_right _ _) (Nat.le_add_right _ _))
    refine r_bipush C (v := 6) rfl dL_law_340 ?_
    refine r_irem C (by decide) dL_law_342 ?_
    refine r_st (st' := [.int (nI (cellN L xs (37) % 6)), .int (nI k)]) (by rw [show nI (cellN L xs (37)) - nI (cellN L xs (37)) / 6 * 6 = nI (cellN L xs (37) % 6) from pk_rem (d := 6) (a := cellN L xs (37)) (by have := @cellN_lt L xs; first | exact Nat.lt_trans cellN_lt (by decide) | omega) (by decide) (by decide)] <;> rfl) ?_
    refine r_icmp_ge C (tgt := 440) rfl dL_law_343 (fun h => absurd ((nI_leI (by omega) (by omega)).mp h) (by omega)) (fun _ => ?_)
    have hS1 := hTH.S hS
    have hl : (lwMs L xs k).length ≤ 200 := by have := lwMs_len L xs k; omega
    refine r_aload_n C (k := 2) rfl rfl dL_law_346 ?_
    refine r_ldcwS C ((hS1.s C).imp fun _ _ _ h => h.2.2.1 31 (by decide)) dL_law_347 ?_
    refine th_app (by decide) hS hY hTH (T' := lwMs L xs k ++ stN 31) (d' := 5) [.ref (sAd (wM w0 I ad) 31)] (fun iV iW L9 h1 h2 h3 h4 h5 h6 h7 => c_sbS h1 h2 h3 h4 h5 h6 h7 (i := 31) (by decide) rfl (by have h9 : (sTx 31).length = 8 := rfl; omega)) mbJ4_append_15ec4 wm6_168 rfl wm7_13 rfl (by decide) (kR rfl) (kR rfl) rfl dL_law_350 (room _ _ (Nat.add_le_add_left (by decide) c9) (Nat.add_le_add_left (by decide) s9)) ?_
    intro I ad ct hTH _ _
    have C := hTH.C
    have hS1 := hTH.S hS
    show gU (wM w0 I ad) X (F0, c9 + 1, s9 + 1000) ct 353 [(0, .ref bS), (1, .int (nI (lwS L xs))), (2, .ref b), (5, .int (nI k))] [.ref b]
    replace hl : (lwMs L xs k ++ stN 31).length ≤ 208 := by rw [List.length_append, stN_len]; have h9 : (sTx 31).length = 8 := rfl; omega
    refine r_aload_n C (k := 0) rfl rfl dL_law_353 ?_
    refine r_bipush C (v := 45) rfl dL_law_354 ?_
    refine r_iload C (k := 3) rfl dL_law_356 ?_
    refine r_iadd C dL_law_358 ?_
    refine r_st (st' := [.int (nI (45 + k)), .ref bS, .ref b]) (by rw [show (45 : Int32) + nI (k) = nI (45 + k) from nI_add 45 _] <;> rfl) ?_
    refine r_callS C (d' := 1) [.ref bS, .int (nI (45 + k))] (c_cell (w := wM w0 I ad) hX (i := 45 + k) (by omega)) myL_cell wm3_49 rfl (kR rfl) (by decide) (kR rfl) rfl dL_law_359 ?_ (room _ _ (Nat.add_le_add_left (by decide) c9) (Nat.add_le_add_left (by decide) s9))
    refine r_iconst C (v := 2) rfl dL_law_362 ?_
    refine r_irem C (by decide) dL_law_363 ?_
    refine r_st (st' := [.int (nI (cellN L xs (45 + k) % 2)), .ref b]) (by rw [show nI (cellN L xs (45 + k)) - nI (cellN L xs (45 + k)) / 2 * 2 = nI (cellN L xs (45 + k) % 2) from pk_rem (d := 2) (a := cellN L xs (45 + k)) (by have := @cellN_lt L xs; first | exact Nat.lt_trans cellN_lt (by decide) | omega) (by decide) (by decide)] <;> rfl) ?_
    refine th_app (by decide) hS hY hTH (T' := lwMs L xs k ++ stN 31 ++ digs (cellN L xs (45 + k) % 2)) (d' := 5) [.int (nI (cellN L xs (45 + k) % 2))] (fun iV iW L9 h1 h2 h3 h4 h5 h6 h7 => c_sbI h1 h2 h3 h4 h5 h6 h7 (x := cellN L xs (45 + k) % 2) (by omega) (by have := @digs_le (cellN L xs (45 + k) % 2); omega)) mbJ4_append_bf812 wm6_133 rfl wm7_14 rfl (by decide) (kR rfl) (kR rfl) rfl dL_law_364 (room _ _ (Nat.le_trans (Nat.le_of_eq (Nat.add_assoc c9 1 1)) (Nat.add_le_add_left (by decide) c9)) (Nat.le_trans (Nat.le_of_eq (Nat.add_assoc s9 1000 1000)) (Nat.add_le_add_left (by decide) s9))) ?_
    intro I ad ct hTH _ _
    have C := hTH.C
    have hS1 := hTH.S hS
    refine r_wid (c' := c9 + 2) (s' := s9 + 2000) (Nat.le_of_eq (Nat.add_assoc c9 1 1)) (Nat.le_of_eq (Nat.add_assoc s9 1000 1000)) ?_
    show gU (wM w0 I ad) X (F0, c9 + 2, s9 + 2000) ct 367 [(0, .ref bS), (1, .int (nI (lwS L xs))), (2, .ref b), (5, .int (nI k))] [.ref b]
    replace hl : (lwMs L xs k ++ stN 31 ++ digs (cellN L xs (45 + k) % 2)).length ≤ 210 := by rw [List.length_append]; have := @digs_le (cellN L xs (45 + k) % 2); omega
    refine r_bipush C (v := 32) rfl dL_law_367 ?_
    refine r_st (st' := [.int (nI (32)), .ref b]) rfl ?_
    refine th_app (by decide) hS hY hTH (T' := lwMs L xs k ++ stN 31 ++ digs (cellN L xs (45 + k) % 2) ++ [32]) (d' := 5) [.int (nI (32))] (fun iV iW L9 h1 h2 h3 h4 h5 h6 h7 => c_sbC h1 h2 h3 h4 h5 h6 h7 (c := 32) (by decide) (by omega)) mbJ4_append_cf468 wm6_25 rfl wm6_23 rfl (by decide) (kR rfl) (kR rfl) rfl dL_law_369 (room _ _ (Nat.le_trans (Nat.le_of_eq (Nat.add_assoc c9 2 1)) (Nat.add_le_add_left (by decide) c9)) (Nat.le_trans (Nat.le_of_eq (Nat.add_assoc s9 2000 1000)) (Nat.add_le_add_left (by decide) s9))) ?_
    intro I ad ct hTH _ _
    have C := hTH.C
    have hS1 := hTH.S hS
    refine r_wid (c' := c9 + 3) (s' := s9 + 3000) (Nat.le_of_eq (Nat.add_assoc c9 2 1)) (Nat.le_of_eq (Nat.add_assoc s9 2000 1000)) ?_
    show gU (wM w0 I ad) X (F0, c9 + 3, s9 + 3000) ct 372 [(0, .ref bS), (1, .int (nI (lwS L xs))), (2, .ref b), (5, .int (nI k))] [.ref b]
    replace hl : (lwMs L xs k ++ stN 31 ++ digs (cellN L xs (45 + k) % 2) ++ [32]).length ≤ 211 := by rw [List.length_append]; show _ + 1 ≤ _; omega
    refine r_pop C rfl dL_law_372 ?_
    refine r_iconst C (v := 0) rfl dL_law_373 ?_
    refine r_istore C (lo' := [(6, .int 0), (0, .ref bS), (1, .int (nI (lwS L xs))), (2, .ref b), (5, .int (nI k))]) (by decide) rfl dL_law_374 ?_
    refine r_lo [1, 2, 3, 4, 0] (lo' := [(0, .ref bS), (1, .int (nI (lwS L xs))), (2, .ref b), (5, .int (nI k)), (6, .int (nI 0))]) rfl ?_
    have hl2 : (lwMs L xs k ++ stN 31 ++ digs (cellN L xs (45 + k) % 2) ++ [32]).length ≤ 250 := by omega
    refine la_ml hS hY hX (by omega) hl2 hroom (cX := c9 + 8) (sX := s9 + 8000) r1 r2 ?_ (cellN L xs (38 + k) % 5 + 1) 0 _ I ad ct (c9 + 3) (s9 + 3000) (Nat.zero_add _) (by rw [show wlk (cellN L xs (38 + k)) 0 = [] from rfl, List.append_nil]; exact hTH) r3 r4
    clear hTH C hS1 room
    intro n9 I ad ct c8 s8 hc8 hs8 hTH
    have C := hTH.C
    have room : ∀ c n, c ≤ c8 + 1 → n ≤ s8 + 1000 → qOk X (F0, c, n) := fun c n g1 g2 => hroom c n (by omega) (by omega)
    have hS1 := hTH.S hS
    replace hl : (lwMs L xs k ++ stN 31 ++ digs (cellN L xs (45 + k) % 2) ++ [32] ++ wlk (cellN L xs (38 + k)) (cellN L xs (38 + k) % 5 + 1)).length ≤ 300 := by rw [List.length_append, wlk_len]; omega
    refine r_aload_n C (k := 2) rfl rfl dL_law_427 ?_
    refine r_bipush C (v := 59) rfl dL_law_428 ?_
    refine r_st (st' := [.int (nI (59)), .ref b]) rfl ?_
    refine th_app (by decide) hS hY hTH (T' := lwMs L xs k ++ stN 31 ++ digs (cellN L xs (45 + k) % 2) ++ [32] ++ wlk (cellN L xs (38 + k)) (cellN L xs (38 + k) % 5 + 1) ++ [59]) (d' := 5) [.int (nI (59))] (fun iV iW L9 h1 h2 h3 h4 h5 h6 h7 => c_sbC h1 h2 h3 h4 h5 h6 h7 (c := 59) (by decide) (by omega)) mbJ4_append_cf468 wm6_25 rfl wm6_23 rfl (by decide) (kR rfl) (kR rfl) rfl dL_law_430 (room _ _ (Nat.add_le_add_left (by decide) c8) (Nat.add_le_add_left (by decide) s8)) ?_
    intro I ad ct hTH _ _
    have C := hTH.C
    have hS1 := hTH.S hS
    show gU (wM w0 I ad) X (F0, c8 + 1, s8 + 1000) ct 433 [(0, .ref bS), (1, .int (nI (lwS L xs))), (2, .ref b), (5, .int (nI k))] [.ref b]
    replace hl : (lwMs L xs k ++ stN 31 ++ digs (cellN L xs (45 + k) % 2) ++ [32] ++ wlk (cellN L xs (38 + k)) (cellN L xs (38 + k) % 5 + 1) ++ [59]).length ≤ 301 := by rw [List.length_append]; show _ + 1 ≤ _; omega
    refine r_pop C rfl dL_law_433 ?_
    refine r_iinc C (k := 3) (v := nI (k + 1)) (lo' := [(5, .int (nI (k + 1))), (0, .ref bS), (1, .int (nI (lwS L xs))), (2, .ref b)]) rfl (by exact nI_add k 1) (by decide) rfl dL_law_434 ?_
    refine r_goto C (tgt := 332) rfl dL_law_437 ?_
    refine r_lo [1, 2, 3, 0] (lo' := [(0, .ref bS), (1, .int (nI (lwS L xs))), (2, .ref b), (5, .int (nI (k + 1)))]) rfl ?_
    clear hl hl2
    exact ih (k + 1) _ I ad _ _ _ (by omega) hTH (by omega) (by omega)
