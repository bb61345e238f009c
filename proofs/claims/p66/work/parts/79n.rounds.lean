/-! ===== rounds: any act; the rounds of the law, its end ===== -/

theorem lg_eq (x : Int64) : lg_cmp x x = 0 := by
  unfold lg_cmp
  simp
theorem lg_ne {x y : Int64} (h : ¬ x = y) : ¬ lg_cmp x y = 0 := by
  unfold lg_cmp
  intro e
  by_cases h1 : x > y
  · rw [if_pos h1] at e
    exact absurd e (by decide)
  · rw [if_neg h1, if_neg h] at e
    exact absurd e (by decide)
/-- an act of the law, any -/
def F_acts (N what x y z : Nat) (S : SS) : Option (Bool × SS) := match what with
  | 0 => F_acts_0 N (nI x) (nI y) (nI z) S
  | 1 => F_acts_1 N (nI x) (nI y) (nI z) S
  | 2 => F_acts_2 N (nI x) (nI y) (nI z) S
  | 3 => F_acts_3 N (nI x) (nI y) (nI z) S
  | 4 => F_acts_4 N (nI x) (nI y) (nI z) S
  | 5 => F_acts_5 N (nI x) (nI y) (nI z) S
  | 8 => F_acts_8 N (nI x) (nI y) (nI z) S
  | 9 => F_acts_9 N (nI x) (nI y) (nI z) S
  | _ => ob1 (F_acts_h N (nI x) S) fun g => ob1 (F_comes (wlk y (y % 5 + 1)) 2 0 S) fun S1 => F_acts_t N (nI y) g.1 g.2 (nI ((wlk y (y % 5 + 1)).getD (y % 5) 0)) S1
theorem c_acts {w : WP} (hW : gW w) (hS : gS w) (hZ : gZ w) (hY : gY w) (hfr : ∀ z : ID, 30 ≤ z.1 → ¬ wOk w z) {S : SS} {o : HV × CT} (N : Nat) {what x y z : Nat} (hw : what < 10) (hy : y < 100000) {v : Bool} {S' : SS} (hF : F_acts N what x y z S = some (v, S')) : gMg w 10 yL_acts cL_acts 12 (some .boolean) [.ref (wAd w (7, 11, 6, 0)), .int (nI what), .int (nI x), .int (nI y), .int (nI z)] (cA w (S, o)) (some (.int (b2i v))) (cA w (S', o)) 20 8000 := by
  match what, hw, hF with
  | 0, _, hF => exact c_acts_0 hW hS hZ N (nI x) (nI y) (nI z) hF
  | 1, _, hF => exact c_acts_1 hW hS hZ N (nI x) (nI y) (nI z) hF
  | 2, _, hF => exact c_acts_2 hW hS hZ N (nI x) (nI y) (nI z) hF
  | 3, _, hF => exact c_acts_3 hW hS hZ N (nI x) (nI y) (nI z) hF
  | 4, _, hF => exact c_acts_4 hW hS hZ N (nI x) (nI y) (nI z) hF
  | 5, _, hF => exact c_acts_5 hW hS hZ N (nI x) (nI y) (nI z) hF
  | 8, _, hF => exact c_acts_8 hW hS hZ N (nI x) (nI y) (nI z) hF
  | 9, _, hF => exact c_acts_9 hW hS hZ N (nI x) (nI y) (nI z) hF
  | 6, _, hF =>
    obtain ⟨⟨g, pd⟩, h1, hF⟩ := ob1_e (show ob1 (F_acts_h N (nI x) S) (fun g => ob1 (F_comes (wlk y (y % 5 + 1)) 2 0 S) fun S1 => F_acts_t N (nI y) g.1 g.2 (nI ((wlk y (y % 5 + 1)).getD (y % 5) 0)) S1) = some (v, S') from hF)
    obtain ⟨S1, h2, hF⟩ := ob1_e hF
    exact c_acts_6 hW hS hZ hY hfr N (nI x) (nI z) hy h1 h2 hF
  | 7, _, hF =>
    obtain ⟨⟨g, pd⟩, h1, hF⟩ := ob1_e (show ob1 (F_acts_h N (nI x) S) (fun g => ob1 (F_comes (wlk y (y % 5 + 1)) 2 0 S) fun S1 => F_acts_t N (nI y) g.1 g.2 (nI ((wlk y (y % 5 + 1)).getD (y % 5) 0)) S1) = some (v, S') from hF)
    obtain ⟨S1, h2, hF⟩ := ob1_e hF
    exact c_acts_7 hW hS hZ hY hfr N (nI x) (nI z) hy h1 h2 hF
/-- one round: an act, and, where it changed what can be asked, its undoing and the act once more -/
def F_round (N what x y z : Nat) (S : SS) : Option SS :=
  ob1 (F_L_sum N S) fun before => ob1 (F_acts N what x y z S) fun r => if r.1 = true then ob1 (F_L_stands N r.2) fun t => if t = true then ob1 (F_L_sum N r.2) fun thn => if thn = before then some r.2
    else ob1 (fdR (F_X10_undo r.2)) fun u => if u.1 < 0 then none else ob1 (F_L_sum N u.2) fun s2 => if s2 = before then ob1 (F_acts N what x y z u.2) fun r2 => if r2.1 = true then ob1 (F_L_sum N r2.2) fun s3 => if s3 = thn then some r2.2 else none else none else none else none else none
theorem ie_e {γ : Type} {c : Prop} [Decidable c] {x : Option γ} {r : γ} (h : (if c then x else none) = some r) : c ∧ x = some r := by
  by_cases hc : c
  · rw [if_pos hc] at h; exact ⟨hc, h⟩
  · rw [if_neg hc] at h; cases h
theorem ni_e {γ : Type} {c : Prop} [Decidable c] {x : Option γ} {r : γ} (h : (if c then none else x) = some r) : ¬ c ∧ x = some r := by
  by_cases hc : c
  · rw [if_pos hc] at h; cases h
  · rw [if_neg hc] at h; exact ⟨hc, h⟩
/-- the rounds from the i-th on -/
noncomputable def F_rounds (N L : Nat) (xs : Nat → Int32) : Nat → Nat → SS → Option SS
  | 0, _, S => some S
  | m + 1, i, S => ob1 (F_round N (cellN L xs (60 + 4 * i) % 10) (cellN L xs (61 + 4 * i)) (cellN L xs (62 + 4 * i)) (cellN L xs (63 + 4 * i)) S) fun S' => F_rounds N L xs m (i + 1) S'
/-- the law's end -/
def F_last (N : Nat) (S : SS) : Option Unit :=
  ob1 (F_L_sum N S) fun kept => if (F_X10_save S).1 = F_X10_day S then ob1 (fdR (F_X10_endDays N 2 (F_X10_save S).2)) fun e => if e.1 < 0 then none else ob1 (okI (F_X10_restore e.2)) fun r => if r.1 = F_X10_day S then ob1 (F_L_sum N r.2) fun s2 => if s2 = kept then ob1 (fdR (F_X10_undo r.2)) fun u => if u.1 = -3 then some () else none else none else none else none
/-- what every world of the rounds has -/
def LWd (w : WP) (X : CX) (bS L : Nat) (xs : Nat → Int32) : Prop := gW w ∧ gS w ∧ gZ w ∧ gY w ∧ (∀ z : ID, 30 ≤ z.1 → ¬ wOk w z) ∧ gSc w bS L xs ∧ gC w X cL_law "HedgeMessagesLaw" (some .boolean) 15 15
set_option maxRecDepth 20000 in
theorem lr_loop {w : WP} {X : CX} {bS L : Nat} {xs : Nat → Int32} (hw0 : LWd w X bS L xs) {o : HV × CT} {F0 : State → Prop} (N : Nat) {cE sE cX sX : Nat} (hroom : ∀ c n, c ≤ cE → n ≤ sE → qOk X (F0, c, n)) (hcX : cX ≤ cE) (hsX : sX ≤ sE) {S' : SS} (kk : ∀ c s, c ≤ cX → s ≤ sX → gU w X (F0, c, s) (cA w (S', o)) 646 [(0, .ref bS), (5, .ref (wAd w (7, 11, 6, 0)))] []) : ∀ m i (S : SS) c9 s9, i + m = 12 → F_rounds N L xs m i S = some S' → c9 + 41 * m ≤ cX → s9 + 16006 * m ≤ sX → gU w X (F0, c9, s9) (cA w (S, o)) 475 [(0, .ref bS), (5, .ref (wAd w (7, 11, 6, 0))), (6, .int (nI i))] [] := by
  obtain ⟨hW, hS, hZ, hY, hfr, hX, C⟩ := hw0
  intro m
  induction m with
  | zero =>
    intro i S c9 s9 hi hF hc hs
    obtain rfl : i = 12 := hi
    cases hF
    refine r_iload C (k := 2) rfl dL_law_475 ?_
    refine r_bipush C (v := 12) rfl dL_law_477 ?_
    refine r_icmp_ge C (tgt := 646) rfl dL_law_479 (fun _ => ?_) (fun h => absurd (show (12 : Int32) ≤ nI 12 from by decide) h)
    refine r_lo [0, 1] (lo' := [(0, .ref bS), (5, .ref (wAd w (7, 11, 6, 0)))]) rfl ?_
    exact kk _ _ (by omega) (by omega)
  | succ m ih =>
    intro i S c9 s9 hi hF hc hs
    have room : ∀ c n, c ≤ c9 + 41 → n ≤ s9 + 16006 → qOk X (F0, c, n) := fun c n g1 g2 => hroom c n (by omega) (by omega)
    unfold F_rounds at hF
    refine r_iload C (k := 2) rfl dL_law_475 ?_
    refine r_bipush C (v := 12) rfl dL_law_477 ?_
    refine r_icmp_ge C (tgt := 646) rfl dL_law_479 (fun h => absurd ((nI_leI (a := 12) (by decide) (by omega)).mp h) (by omega)) (fun _ => ?_)
    refine r_aload_n C (k := 0) rfl rfl dL_law_482 ?_
    refine r_bipush C (v := 60) rfl dL_law_483 ?_
    refine r_iconst C (v := 4) rfl dL_law_485 ?_
    refine r_iload C (k := 2) rfl dL_law_486 ?_
    refine r_imul C dL_law_488 ?_
    refine r_st (st' := [.int (nI (4 * i)), .int 60, .ref bS]) (by rw [show (4 : Int32) * nI i = nI (4 * i) from pk_mul 4 i] <;> rfl) ?_
    refine r_iadd C dL_law_489 ?_
    refine r_st (st' := [.int (nI (60 + 4 * i)), .ref bS]) (by rw [show (60 : Int32) + nI (4 * i) = nI (60 + 4 * i) from nI_add 60 _] <;> rfl) ?_
    refine r_callS C (d' := 1) [.ref bS, .int (nI (60 + 4 * i))] (c_cell hX (i := 60 + 4 * i) (by omega)) myL_cell wm3_49 rfl (kR rfl) (by decide) (kR rfl) rfl dL_law_490 ?_ (room _ _ (Nat.le_add_right _ _) (Nat.le_add_right _ _))
    refine r_bipush C (v := 10) rfl dL_law_493 ?_
    refine r_irem C (by decide) dL_law_495 ?_
    refine r_st (st' := [.int (nI (cellN L xs (60 + 4 * i) % 10))]) (by rw [show nI (cellN L xs (60 + 4 * i)) - nI (cellN L xs (60 + 4 * i)) / 10 * 10 = nI (cellN L xs (60 + 4 * i) % 10) from pk_rem (d := 10) (a := cellN L xs (60 + 4 * i)) (Nat.lt_trans cellN_lt (by decide)) (by decide) (by decide)] <;> rfl) ?_
    refine r_istore C (lo' := [(7, .int (nI (cellN L xs (60 + 4 * i) % 10))), (0, .ref bS), (5, .ref (wAd w (7, 11, 6, 0))), (6, .int (nI i))]) (by decide) rfl dL_law_496 ?_
    refine r_aload_n C (k := 1) rfl rfl dL_law_498 ?_
    refine r_bipush C (v := 61) rfl dL_law_499 ?_
    refine r_iconst C (v := 4) rfl dL_law_501 ?_
    refine r_iload C (k := 3) rfl dL_law_502 ?_
    refine r_imul C dL_law_504 ?_
    refine r_st (st' := [.int (nI (4 * i)), .int 61, .ref bS]) (by rw [show (4 : Int32) * nI i = nI (4 * i) from pk_mul 4 i] <;> rfl) ?_
    refine r_iadd C dL_law_505 ?_
    refine r_st (st' := [.int (nI (61 + 4 * i)), .ref bS]) (by rw [show (61 : Int32) + nI (4 * i) = nI (61 + 4 * i) from nI_add 61 _] <;> rfl) ?_
    refine r_callS C (d' := 1) [.ref bS, .int (nI (61 + 4 * i))] (c_cell hX (i := 61 + 4 * i) (by omega)) myL_cell wm3_49 rfl (kR rfl) (by decide) (kR rfl) rfl dL_law_506 ?_ (room _ _ (Nat.le_add_right _ _) (Nat.le_add_right _ _))
    refine r_istore C (lo' := [(8, .int (nI (cellN L xs (61 + 4 * i)))), (7, .int (nI (cellN L xs (60 + 4 * i) % 10))), (0, .ref bS), (5, .ref (wAd w (7, 11, 6, 0))), (6, .int (nI i))]) (by decide) rfl dL_law_509 ?_
    refine r_aload_n C (k := 2) rfl rfl dL_law_511 ?_
    refine r_bipush C (v := 62) rfl dL_law_512 ?_
    refine r_iconst C (v := 4) rfl dL_law_514 ?_
    refine r_iload C (k := 4) rfl dL_law_515 ?_
    refine r_imul C dL_law_517 ?_
    refine r_st (st' := [.int (nI (4 * i)), .int 62, .ref bS]) (by rw [show (4 : Int32) * nI i = nI (4 * i) from pk_mul 4 i] <;> rfl) ?_
    refine r_iadd C dL_law_518 ?_
    refine r_st (st' := [.int (nI (62 + 4 * i)), .ref bS]) (by rw [show (62 : Int32) + nI (4 * i) = nI (62 + 4 * i) from nI_add 62 _] <;> rfl) ?_
    refine r_callS C (d' := 1) [.ref bS, .int (nI (62 + 4 * i))] (c_cell hX (i := 62 + 4 * i) (by omega)) myL_cell wm3_49 rfl (kR rfl) (by decide) (kR rfl) rfl dL_law_519 ?_ (room _ _ (Nat.le_add_right _ _) (Nat.le_add_right _ _))
    refine r_istore C (lo' := [(9, .int (nI (cellN L xs (62 + 4 * i)))), (8, .int (nI (cellN L xs (61 + 4 * i)))), (7, .int (nI (cellN L xs (60 + 4 * i) % 10))), (0, .ref bS), (5, .ref (wAd w (7, 11, 6, 0))), (6, .int (nI i))]) (by decide) rfl dL_law_522 ?_
    refine r_aload_n C (k := 3) rfl rfl dL_law_524 ?_
    refine r_bipush C (v := 63) rfl dL_law_525 ?_
    refine r_iconst C (v := 4) rfl dL_law_527 ?_
    refine r_iload C (k := 5) rfl dL_law_528 ?_
    refine r_imul C dL_law_530 ?_
    refine r_st (st' := [.int (nI (4 * i)), .int 63, .ref bS]) (by rw [show (4 : Int32) * nI i = nI (4 * i) from pk_mul 4 i] <;> rfl) ?_
    refine r_iadd C dL_law_531 ?_
    refine r_st (st' := [.int (nI (63 + 4 * i)), .ref bS]) (by rw [show (63 : Int32) + nI (4 * i) = nI (63 + 4 * i) from nI_add 63 _] <;> rfl) ?_
    refine r_callS C (d' := 1) [.ref bS, .int (nI (63 + 4 * i))] (c_cell hX (i := 63 + 4 * i) (by omega)) myL_cell wm3_49 rfl (kR rfl) (by decide) (kR rfl) rfl dL_law_532 ?_ (room _ _ (Nat.le_add_right _ _) (Nat.le_add_right _ _))
    refine r_istore C (lo' := [(10, .int (nI (cellN L xs (63 + 4 * i)))), (9, .int (nI (cellN L xs (62 + 4 * i)))), (8, .int (nI (cellN L xs (61 + 4 * i)))), (7, .int (nI (cellN L xs (60 + 4 * i) % 10))), (0, .ref bS), (5, .ref (wAd w (7, 11, 6, 0))), (6, .int (nI i))]) (by decide) rfl dL_law_535 ?_
    have hw : cellN L xs (60 + 4 * i) % 10 < 10 := Nat.mod_lt _ (by decide)
    have hy : cellN L xs (62 + 4 * i) < 100000 := cellN_lt
    generalize cellN L xs (60 + 4 * i) % 10 = wh at hF hw ⊢
    generalize cellN L xs (61 + 4 * i) = x at hF ⊢
    generalize cellN L xs (62 + 4 * i) = y at hF hy ⊢
    generalize cellN L xs (63 + 4 * i) = z at hF ⊢
    obtain ⟨S9, hR, hF⟩ := ob1_e hF
    unfold F_round at hR
    obtain ⟨bef, g1, hR⟩ := ob1_e hR
    obtain ⟨r, g2, hR⟩ := ob1_e hR
    obtain ⟨g3, hR⟩ := ie_e hR
    obtain ⟨t, g4, hR⟩ := ob1_e hR
    obtain ⟨rfl, hR⟩ := ie_e hR
    obtain ⟨thn, g5, hR⟩ := ob1_e hR
    refine r_aload C (k := 5) rfl dL_law_537 ?_
    refine r_callS C (d' := 8) [.ref (wAd w (7, 11, 6, 0))] (c_L_sum (Ω := (S, o)) hW hS rfl N g1) myL_sum wm4_221 rfl (kR rfl) (by decide) (kR rfl) rfl dL_law_539 ?_ (room _ _ (Nat.le_add_right _ _) (Nat.le_add_right _ _))
    refine r_lstore C (lo' := [(11, .long bef), (10, .int (nI z)), (9, .int (nI y)), (8, .int (nI x)), (7, .int (nI wh)), (0, .ref bS), (5, .ref (wAd w (7, 11, 6, 0))), (6, .int (nI i))]) (by decide) rfl dL_law_542 ?_
    refine r_aload C (k := 6) rfl dL_law_544 ?_
    refine r_iload C (k := 4) rfl dL_law_546 ?_
    refine r_iload C (k := 3) rfl dL_law_548 ?_
    refine r_iload C (k := 2) rfl dL_law_550 ?_
    refine r_iload C (k := 1) rfl dL_law_552 ?_
    refine r_ggS C (d' := 10) [.ref (wAd w (7, 11, 6, 0)), .int (nI wh), .int (nI x), .int (nI y), .int (nI z)] (c_acts (S' := r.2) (v := r.1) hW hS hZ hY hfr N hw hy g2) myL_acts wm5_191 rfl (kR rfl) (by decide) (kR rfl) rfl dL_law_554 (room _ _ (Nat.add_le_add_left (by decide) c9) (Nat.add_le_add_left (by decide) s9)) ?_
    show gU w X (F0, c9 + 20, s9 + 8000) (cA w (r.2, o)) 557 [(11, .long bef), (10, .int (nI z)), (9, .int (nI y)), (8, .int (nI x)), (7, .int (nI wh)), (0, .ref bS), (5, .ref (wAd w (7, 11, 6, 0))), (6, .int (nI i))] [.int (b2i r.1)]
    rw [g3]
    refine r_if_eq C (tgt := 568) rfl dL_law_557 (fun h => absurd h (by decide)) (fun _ => ?_)
    refine r_aload C (k := 6) rfl dL_law_560 ?_
    refine r_callS C (d' := 11) [.ref (wAd w (7, 11, 6, 0))] (c_L_stands (Ω := (r.2, o)) hW hS rfl N g4) myL_stands wm5_82 rfl (kR rfl) (by decide) (kR rfl) rfl dL_law_562 ?_ (room _ _ (Nat.add_le_add_left (by decide) c9) (Nat.add_le_add_left (by decide) s9))
    refine r_if_ne C (tgt := 570) rfl dL_law_565 (fun _ => ?_) (fun h => absurd h (by decide))
    refine r_aload C (k := 6) rfl dL_law_570 ?_
    refine r_callS C (d' := 8) [.ref (wAd w (7, 11, 6, 0))] (c_L_sum (Ω := (r.2, o)) hW hS rfl N g5) myL_sum wm4_221 rfl (kR rfl) (by decide) (kR rfl) rfl dL_law_572 ?_ (room _ _ (Nat.add_le_add_left (by decide) c9) (Nat.add_le_add_left (by decide) s9))
    refine r_lstore C (lo' := [(13, .long thn), (11, .long bef), (10, .int (nI z)), (9, .int (nI y)), (8, .int (nI x)), (7, .int (nI wh)), (0, .ref bS), (5, .ref (wAd w (7, 11, 6, 0))), (6, .int (nI i))]) (by decide) rfl dL_law_575 ?_
    refine r_lload C (k := 0) rfl dL_law_577 ?_
    refine r_lload C (k := 1) rfl dL_law_579 ?_
    refine r_lcmp C dL_law_581 ?_
    by_cases he : thn = bef
    · refine r_st (st' := [.int 0]) (by rw [he, lg_eq] <;> rfl) ?_
      refine r_if_ne C (tgt := 588) rfl dL_law_582 (fun h => absurd rfl h) (fun _ => ?_)
      refine r_goto C (tgt := 640) rfl dL_law_585 ?_
      rw [if_pos he] at hR
      cases hR
      refine r_iinc C (k := 8) (v := nI (i + 1)) (lo' := [(6, .int (nI (i + 1)))] ++ [(13, .long thn), (11, .long bef), (10, .int (nI z)), (9, .int (nI y)), (8, .int (nI x)), (7, .int (nI wh)), (0, .ref bS), (5, .ref (wAd w (7, 11, 6, 0)))]) rfl (by exact nI_add i 1) (by decide) rfl dL_law_640 ?_
      refine r_goto C (tgt := 475) rfl dL_law_643 ?_
      refine r_lo [7, 8, 0] (lo' := [(0, .ref bS), (5, .ref (wAd w (7, 11, 6, 0))), (6, .int (nI (i + 1)))]) rfl ?_
      exact ih (i + 1) _ _ _ (by omega) hF (by omega) (by omega)
    · refine r_if_ne C (tgt := 588) rfl dL_law_582 (fun _ => ?_) (fun h => absurd h (lg_ne he))
      rw [if_neg he] at hR
      obtain ⟨u, g6, hR⟩ := ob1_e hR
      obtain ⟨g7, hR⟩ := ni_e hR
      obtain ⟨s2, g8, hR⟩ := ob1_e hR
      obtain ⟨q1, hR⟩ := ie_e hR
      obtain ⟨r2, g9, hR⟩ := ob1_e hR
      obtain ⟨g10, hR⟩ := ie_e hR
      obtain ⟨s3, g11, hR⟩ := ob1_e hR
      obtain ⟨q2, hR⟩ := ie_e hR
      cases hR
      refine r_aload C (k := 7) rfl dL_law_588 ?_
      refine r_bipush C (v := 8) rfl dL_law_590 ?_
      refine r_iconst C (v := 0) rfl dL_law_592 ?_
      refine r_iconst C (v := 0) rfl dL_law_593 ?_
      refine r_callH C (d' := 7) [.ref (wAd w (7, 11, 6, 0)), .int 8, .int 0, .int 0] (ny := 4) (c_does_8 (S' := u.2) (v := u.1) hW hS hZ 0 0 g6) cwL_does rfl wm1_0 wm3_194 ⟨by decide, by decide, by decide +kernel⟩ wm3_193 rfl (by decide) (kR rfl) (kR rfl) rfl dL_law_594 (room _ _ (Nat.le_trans (Nat.le_of_eq (Nat.add_assoc c9 20 1)) (Nat.add_le_add_left (by decide) c9)) (Nat.le_trans (Nat.le_of_eq (Nat.add_assoc s9 8000 6)) (Nat.add_le_add_left (by decide) s9))) ?_
      refine r_wid (c' := c9 + 21) (s' := s9 + 8006) (Nat.le_of_eq (Nat.add_assoc c9 20 1)) (Nat.le_of_eq (Nat.add_assoc s9 8000 6)) ?_
      show gU w X (F0, c9 + 21, s9 + 8006) (cA w (u.2, o)) 597 [(13, .long thn), (11, .long bef), (10, .int (nI z)), (9, .int (nI y)), (8, .int (nI x)), (7, .int (nI wh)), (0, .ref bS), (5, .ref (wAd w (7, 11, 6, 0))), (6, .int (nI i))] [.int u.1]
      refine r_if_lt C (tgt := 638) rfl dL_law_597 (fun h => absurd h g7) (fun _ => ?_)
      refine r_aload C (k := 7) rfl dL_law_600 ?_
      refine r_callS C (d' := 8) [.ref (wAd w (7, 11, 6, 0))] (c_L_sum (Ω := (u.2, o)) hW hS rfl N g8) myL_sum wm4_221 rfl (kR rfl) (by decide) (kR rfl) rfl dL_law_602 ?_ (room _ _ (Nat.add_le_add_left (by decide) c9) (Nat.add_le_add_left (by decide) s9))
      refine r_lload C (k := 1) rfl dL_law_605 ?_
      refine r_lcmp C dL_law_607 ?_
      refine r_st (st' := [.int 0]) (by rw [q1, lg_eq] <;> rfl) ?_
      refine r_if_ne C (tgt := 638) rfl dL_law_608 (fun h => absurd rfl h) (fun _ => ?_)
      refine r_aload C (k := 7) rfl dL_law_611 ?_
      refine r_iload C (k := 5) rfl dL_law_613 ?_
      refine r_iload C (k := 4) rfl dL_law_615 ?_
      refine r_iload C (k := 3) rfl dL_law_617 ?_
      refine r_iload C (k := 2) rfl dL_law_619 ?_
      refine r_ggS C (d' := 10) [.ref (wAd w (7, 11, 6, 0)), .int (nI wh), .int (nI x), .int (nI y), .int (nI z)] (c_acts (S' := r2.2) (v := r2.1) hW hS hZ hY hfr N hw hy g9) myL_acts wm5_191 rfl (kR rfl) (by decide) (kR rfl) rfl dL_law_621 (room _ _ (Nat.le_trans (Nat.le_of_eq (Nat.add_assoc c9 21 20)) (Nat.add_le_add_left (by decide) c9)) (Nat.le_trans (Nat.le_of_eq (Nat.add_assoc s9 8006 8000)) (Nat.add_le_add_left (by decide) s9))) ?_
      refine r_wid (c' := c9 + 41) (s' := s9 + 16006) (Nat.le_of_eq (Nat.add_assoc c9 21 20)) (Nat.le_of_eq (Nat.add_assoc s9 8006 8000)) ?_
      show gU w X (F0, c9 + 41, s9 + 16006) (cA w (r2.2, o)) 624 [(13, .long thn), (11, .long bef), (10, .int (nI z)), (9, .int (nI y)), (8, .int (nI x)), (7, .int (nI wh)), (0, .ref bS), (5, .ref (wAd w (7, 11, 6, 0))), (6, .int (nI i))] [.int (b2i r2.1)]
      rw [g10]
      refine r_if_eq C (tgt := 638) rfl dL_law_624 (fun h => absurd h (by decide)) (fun _ => ?_)
      refine r_aload C (k := 7) rfl dL_law_627 ?_
      refine r_callS C (d' := 8) [.ref (wAd w (7, 11, 6, 0))] (c_L_sum (Ω := (r2.2, o)) hW hS rfl N g11) myL_sum wm4_221 rfl (kR rfl) (by decide) (kR rfl) rfl dL_law_629 ?_ (room _ _ (Nat.add_le_add_left (by decide) c9) (Nat.add_le_add_left (by decide) s9))
      refine r_lload C (k := 0) rfl dL_law_632 ?_
      refine r_lcmp C dL_law_634 ?_
      refine r_st (st' := [.int 0]) (by rw [q2, lg_eq] <;> rfl) ?_
      refine r_if_eq C (tgt := 640) rfl dL_law_635 (fun _ => ?_) (fun h => absurd rfl h)
      refine r_iinc C (k := 8) (v := nI (i + 1)) (lo' := [(6, .int (nI (i + 1)))] ++ [(13, .long thn), (11, .long bef), (10, .int (nI z)), (9, .int (nI y)), (8, .int (nI x)), (7, .int (nI wh)), (0, .ref bS), (5, .ref (wAd w (7, 11, 6, 0)))]) rfl (by exact nI_add i 1) (by decide) rfl dL_law_640 ?_
      refine r_goto C (tgt := 475) rfl dL_law_643 ?_
      refine r_lo [7, 8, 0] (lo' := [(0, .ref bS), (5, .ref (wAd w (7, 11, 6, 0))), (6, .int (nI (i + 1)))]) rfl ?_
      exact ih (i + 1) _ _ _ (by omega) hF (by omega) (by omega)
set_option maxRecDepth 20000 in
theorem lr_last {w : WP} {X : CX} {bS L : Nat} {xs : Nat → Int32} (hw0 : LWd w X bS L xs) {o : HV × CT} {F0 : State → Prop} (N : Nat) {S : SS} (hF : F_last N S = some ()) {c9 s9 : Nat} (room : ∀ c n, c ≤ c9 + 2 → n ≤ s9 + 12 → qOk X (F0, c, n)) (kk : ∀ c s, c ≤ c9 + 2 → s ≤ s9 + 12 → ∀ S9 : SS, gU w X (F0, c, s) (cA w (S9, o)) 722 [] [.int 1]) : gU w X (F0, c9, s9) (cA w (S, o)) 646 [(0, .ref bS), (5, .ref (wAd w (7, 11, 6, 0)))] [] := by
  obtain ⟨hW, hS, hZ, hY, hfr, hX, C⟩ := hw0
  unfold F_last at hF
  obtain ⟨kept, g1, hF⟩ := ob1_e hF
  obtain ⟨g2, hF⟩ := ie_e hF
  obtain ⟨e, g3, hF⟩ := ob1_e hF
  obtain ⟨g4, hF⟩ := ni_e hF
  obtain ⟨r, g5, hF⟩ := ob1_e hF
  obtain ⟨g6, hF⟩ := ie_e hF
  obtain ⟨s2, g7, hF⟩ := ob1_e hF
  obtain ⟨q1, hF⟩ := ie_e hF
  obtain ⟨u, g8, hF⟩ := ob1_e hF
  obtain ⟨g9, hF⟩ := ie_e hF
  refine r_aload C (k := 1) rfl dL_law_646 ?_
  refine r_callS C (d' := 8) [.ref (wAd w (7, 11, 6, 0))] (c_L_sum (Ω := (S, o)) hW hS rfl N g1) myL_sum wm4_221 rfl (kR rfl) (by decide) (kR rfl) rfl dL_law_648 ?_ (room _ _ (Nat.le_add_right _ _) (Nat.le_add_right _ _))
  refine r_lstore C (lo' := [(6, .long kept), (0, .ref bS), (5, .ref (wAd w (7, 11, 6, 0)))]) (by decide) rfl dL_law_651 ?_
  refine r_aload C (k := 2) rfl dL_law_653 ?_
  refine r_callV C (d' := 0) [] (c_X10_day (Ω := (S, o)) hW rfl rfl) myX10_day wm2_187 ⟨_, _, _, _, (hW.ok k7), rfl, rfl, rfl, rfl⟩ rfl (kR rfl) (by decide) (kR rfl) rfl dL_law_655 ?_ (room _ _ (Nat.le_add_right _ _) (Nat.le_add_right _ _))
  refine r_istore C (lo' := [(8, .int (F_X10_day S)), (6, .long kept), (0, .ref bS), (5, .ref (wAd w (7, 11, 6, 0)))]) (by decide) rfl dL_law_658 ?_
  refine r_aload C (k := 3) rfl dL_law_660 ?_
  refine r_callV C (d' := 5) [] (c_X10_save (Ω := (S, o)) (v := (F_X10_save S).1) (S' := (F_X10_save S).2) hW rfl rfl rfl) myX10_save wm2_191 ⟨_, _, _, _, (hW.ok k7), rfl, rfl, rfl, rfl⟩ rfl (kR rfl) (by decide) (kR rfl) rfl dL_law_662 ?_ (room _ _ (Nat.le_add_right _ _) (Nat.le_add_right _ _))
  refine r_iload C (k := 0) rfl dL_law_665 ?_
  refine r_icmp_ne C (tgt := 721) rfl dL_law_667 (fun h => absurd g2 h) (fun _ => ?_)
  refine r_aload C (k := 3) rfl dL_law_670 ?_
  refine r_bipush C (v := 7) rfl dL_law_672 ?_
  refine r_iconst C (v := 2) rfl dL_law_674 ?_
  refine r_iconst C (v := 0) rfl dL_law_675 ?_
  refine r_callH C (d' := 8) [.ref (wAd w (7, 11, 6, 0)), .int 7, .int 2, .int 0] (ny := 4) (c_does_7 (S' := e.2) (v := e.1) hW hS hZ N 2 0 g3) cwL_does rfl wm1_0 wm3_194 ⟨by decide, by decide, by decide +kernel⟩ wm3_193 rfl (by decide) (kR rfl) (kR rfl) rfl dL_law_676 (room _ _ (Nat.add_le_add_left (by decide) c9) (Nat.add_le_add_left (by decide) s9)) ?_
  show gU w X (F0, c9 + 1, s9 + 6) (cA w (e.2, o)) 679 [(8, .int (F_X10_day S)), (6, .long kept), (0, .ref bS), (5, .ref (wAd w (7, 11, 6, 0)))] [.int e.1]
  refine r_if_lt C (tgt := 721) rfl dL_law_679 (fun h => absurd h g4) (fun _ => ?_)
  refine r_aload C (k := 3) rfl dL_law_682 ?_
  refine r_callV C (d' := 6) [] (c_X10_restore (Ω := (e.2, o)) (v := r.1) (S' := r.2) hW hS rfl (okI_e g5) rfl) myX10_restore wm2_214 ⟨_, _, _, _, (hW.ok k7), rfl, rfl, rfl, rfl⟩ rfl (kR rfl) (by decide) (kR rfl) rfl dL_law_684 ?_ (room _ _ (Nat.add_le_add_left (by decide) c9) (Nat.add_le_add_left (by decide) s9))
  refine r_iload C (k := 0) rfl dL_law_687 ?_
  refine r_icmp_ne C (tgt := 721) rfl dL_law_689 (fun h => absurd g6 h) (fun _ => ?_)
  refine r_aload C (k := 3) rfl dL_law_692 ?_
  refine r_callS C (d' := 8) [.ref (wAd w (7, 11, 6, 0))] (c_L_sum (Ω := (r.2, o)) hW hS rfl N g7) myL_sum wm4_221 rfl (kR rfl) (by decide) (kR rfl) rfl dL_law_694 ?_ (room _ _ (Nat.add_le_add_left (by decide) c9) (Nat.add_le_add_left (by decide) s9))
  refine r_lload C (k := 1) rfl dL_law_697 ?_
  refine r_lcmp C dL_law_699 ?_
  refine r_st (st' := [.int 0]) (by rw [q1, lg_eq] <;> rfl) ?_
  refine r_if_ne C (tgt := 721) rfl dL_law_700 (fun h => absurd rfl h) (fun _ => ?_)
  refine r_aload C (k := 3) rfl dL_law_703 ?_
  refine r_bipush C (v := 8) rfl dL_law_705 ?_
  refine r_iconst C (v := 0) rfl dL_law_707 ?_
  refine r_iconst C (v := 0) rfl dL_law_708 ?_
  refine r_callH C (d' := 7) [.ref (wAd w (7, 11, 6, 0)), .int 8, .int 0, .int 0] (ny := 4) (c_does_8 (S' := u.2) (v := u.1) hW hS hZ 0 0 g8) cwL_does rfl wm1_0 wm3_194 ⟨by decide, by decide, by decide +kernel⟩ wm3_193 rfl (by decide) (kR rfl) (kR rfl) rfl dL_law_709 (room _ _ (Nat.le_trans (Nat.le_of_eq (Nat.add_assoc c9 1 1)) (Nat.add_le_add_left (by decide) c9)) (Nat.le_trans (Nat.le_of_eq (Nat.add_assoc s9 6 6)) (Nat.add_le_add_left (by decide) s9))) ?_
  refine r_wid (c' := c9 + 2) (s' := s9 + 12) (Nat.le_of_eq (Nat.add_assoc c9 1 1)) (Nat.le_of_eq (Nat.add_assoc s9 6 6)) ?_
  show gU w X (F0, c9 + 2, s9 + 12) (cA w (u.2, o)) 712 [(8, .int (F_X10_day S)), (6, .long kept), (0, .ref bS), (5, .ref (wAd w (7, 11, 6, 0)))] [.int u.1]
  refine r_bipush C (v := (-3)) (by decide) dL_law_712 ?_
  refine r_icmp_ne C (tgt := 721) rfl dL_law_714 (fun h => absurd g9 h) (fun _ => ?_)
  refine r_iconst C (v := 1) rfl dL_law_717 ?_
  refine r_goto C (tgt := 722) rfl dL_law_718 ?_
  refine r_lo [] (lo' := []) rfl ?_
  exact kk _ _ (Nat.le_refl _) (Nat.le_refl _) _
