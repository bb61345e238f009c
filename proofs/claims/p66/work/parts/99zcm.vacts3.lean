/-! ===== vacts3: acts 6 and 7: a word is sent ===== -/
theorem wlk_at {yn k i : Nat} (h : i < k) : (wlk yn k).getD i 0 = 97 + (yn / 5 + 7 * i) % 26 := by
  unfold wlk
  rw [List.getD_eq_getElem?_getD, List.getElem?_map, List.getElem?_range h]
  rfl
theorem wlk_b {yn k : Nat} (h1 : 1 ≤ k) (h2 : k ≤ 12) : bwB (fun j => (wlk yn k).getD j 0) k k = true := by
  refine bwB_t.mpr ⟨h1, h2, fun j hj => ?_⟩
  rw [isL_t]
  show 97 ≤ (wlk yn k).getD j 0 ∧ (wlk yn k).getD j 0 ≤ 122
  rw [wlk_at hj]
  omega
theorem wlk_w {yn k : Nat} : wdL (fun j => (wlk yn k).getD j 0) 0 k = wlk yn k := by
  refine List.ext_getElem (by rw [wdL_len, wlk_len]) fun i h1 h2 => ?_
  rw [wdL_len] at h1
  have e1 : (wdL (fun j => (wlk yn k).getD j 0) 0 k).getD i 0 = (wlk yn k).getD i 0 := by
    rw [wdL_at h1, Nat.zero_add]
  rw [List.getD_eq_getElem?_getD, List.getD_eq_getElem?_getD, List.getElem?_eq_getElem (by rw [wdL_len]; exact h1), List.getElem?_eq_getElem h2] at e1
  exact e1
theorem act_h {A : AS} {T N x : Nat} {S : SS} (hC : RC A (S 0)) (hI : Inv A T) (hN : 6000 < N) (hx : x < 100000) : F_acts_h N (nI x) S = some (nI (x % 2), nI (Hq A (x % 2)).length) := by
  unfold F_acts_h
  rw [if_neg (sl_0 hC hI), V_twigCount hC hI (by omega), ob1_s, L2, md_x hx (by decide) (by decide), V_pending hC hI (Nat.mod_lt _ (by decide)), ob1_s]
theorem act_q {A : AS} {T0 N x y : Nat} {f : SS → Option (Bool × SS)} (hf : ∀ S, f S = ob1 (F_acts_h N (nI x) S) fun g => ob1 (F_comes (wlk y (y % 5 + 1)) 2 0 S) fun S1 => F_acts_t N (nI y) g.1 g.2 (nI ((wlk y (y % 5 + 1)).getD (y % 5) 0)) S1) (hI : Inv A T0) (hN : 6000 < N) (hx : x < 100000) (hy : y < 100000) : ActOK f A := by
  have hg : x % 2 < 2 := Nat.mod_lt _ (by decide)
  have h5 : y % 5 < 5 := Nat.mod_lt _ (by decide)
  have q8 := (hI.2.2.2.2.1 (x % 2) hg).1
  have hwl : (wlk y (y % 5 + 1)).length = y % 5 + 1 := wlk_len
  have key : ∀ (S : SS) (L : List AS) (T : Nat), ST S A L T → ∃ S1, f S = F_acts_t N (nI y) (nI (x % 2)) (nI (Hq A (x % 2)).length) (nI ((wlk y (y % 5 + 1)).getD (y % 5) 0)) S1 ∧ ST0 S1 A L T ∧ CB (fun j => (wlk y (y % 5 + 1)).getD j 0) (y % 5 + 1) (S1 11 4) := fun S L T h => by
    obtain ⟨S1, e1, hT, o1, o2⟩ := V_comes (T := wlk y (y % 5 + 1)) wlk_lt (by omega) 1 0 S h.2.2.2.2.2 (fun j hj => absurd hj (Nat.not_lt_zero j)) (by decide) (by omega)
    refine ⟨S1, ?_, ST0_e (ST_0 h) (o1 0 (by decide)) (o2 7 (by decide)) (fun j h1 h2 => o1 j (by omega)), ?_⟩
    · rw [hf S, act_h h.1 h.2.1 hN hx, ob1_s, e1, ob1_s]
    · have := TX_CB wlk_lt (by omega) hT
      rwa [hwl] at this
  have hb := wlk_b (yn := y) (k := y % 5 + 1) (by omega) (by omega)
  have e5 : nI y - nI y / 5 * 5 = nI (y % 5) := by rw [L5]; exact md_x hy (by decide) (by decide)
  by_cases c0 : (Hq A (x % 2)).length < 8
  · refine ⟨opQue A (x % 2) (wlk y (y % 5 + 1)), true, (fun q => by cases q), fun S L T h hT => ?_⟩
    obtain ⟨S1, ef, h0, hB⟩ := key S L T h
    have hq := V_queue h0 (N := N) (by omega) hg hB hb
    rw [if_pos c0, wlk_w] at hq
    obtain ⟨S2, e2, h2⟩ := hq
    have ht := V_truncate (S := S2) (n := 0) (m := 0) h2.2.2.2.2.2 (by decide) (Nat.le_refl _)
    generalize hS3 : up S2 11 (up (S2 11) 4 (sS (S2 11 4) 1 (nI 0))) = S3 at ht
    have h3 : ST S3 (opQue A (x % 2) (wlk y (y % 5 + 1))) (psh L A) T := ST0_1 (ST0_e (ST_0 h2) (by rw [← hS3, up_n (by decide)]) (by rw [← hS3, up_s, up_n (by decide)]) (fun j h1 h2 => by rw [← hS3, up_n (by omega)])) (by rw [← hS3, up_s, up_s, sS_1])
    have eH : Hq (opQue A (x % 2) (wlk y (y % 5 + 1))) (x % 2) = Hq A (x % 2) ++ [wlk y (y % 5 + 1)] := up_s
    have el : (Hq (opQue A (x % 2) (wlk y (y % 5 + 1))) (x % 2)).length = (Hq A (x % 2)).length + 1 := by rw [eH, List.length_append]; rfl
    have eg : (Hq (opQue A (x % 2) (wlk y (y % 5 + 1))) (x % 2)).getD (Hq A (x % 2)).length [] = wlk y (y % 5 + 1) := by
      rw [eH, List.getD_eq_getElem?_getD, List.getElem?_append_right (Nat.le_refl _), Nat.sub_self]
      rfl
    refine ⟨S3, ?_, ST_up h3 (by omega) (by omega)⟩
    have hv1 := V_letter h3.1 h3.2.1 hg (m := (Hq A (x % 2)).length) (i := y % 5) (by omega) (by omega)
    rw [eg, hwl, if_pos ⟨by rw [el]; omega, by omega⟩] at hv1
    have hv2 := V_letter h3.1 h3.2.1 hg (m := (Hq A (x % 2)).length) (i := y % 5 + 1) (by omega) (by omega)
    rw [eg, hwl, if_neg (fun q => by omega)] at hv2
    rw [ef]
    unfold F_acts_t
    rw [e2, fdR_l, ob1_s, show (0 : Int32) = nI 0 from rfl, ht, okI_l, ob1_s]
    dsimp only
    rw [if_pos rfl, if_neg (show ¬ nI (Hq A (x % 2)).length = 8 by rw [L8, Z_eq (by omega) (by decide)]; omega), if_pos (show nI ((Hq A (x % 2)).length + 1) = nI (Hq A (x % 2)).length + 1 by rw [L1, Z_add]), e5, hv1, ob1_s, if_pos rfl, show nI (y % 5) + 1 = nI (y % 5 + 1) from Z_add _ 1, hv2, ob1_s, if_pos rfl]
    rfl
  · refine ⟨A, false, fun _ => rfl, fun S L T h hT => ?_⟩
    obtain ⟨S1, ef, h0, hB⟩ := key S L T h
    have hq := V_queue h0 (N := N) (by omega) hg hB hb
    rw [if_neg c0] at hq
    have ht := V_truncate (S := S1) (m := 0) hB.2.2 (by omega) (Nat.zero_le _)
    generalize hS3 : up S1 11 (up (S1 11) 4 (sS (S1 11 4) 1 (nI 0))) = S3 at ht
    have h3 : ST S3 A L T := ST0_1 (ST0_e h0 (by rw [← hS3, up_n (by decide)]) (by rw [← hS3, up_s, up_n (by decide)]) (fun j h1 h2 => by rw [← hS3, up_n (by omega)])) (by rw [← hS3, up_s, up_s, sS_1])
    refine ⟨S3, ?_, ST_up h3 (by omega) (by omega)⟩
    have e8 : (Hq A (x % 2)).length = 8 := by omega
    rw [ef]
    unfold F_acts_t
    rw [hq, fdR_1, ob1_s, show (0 : Int32) = nI 0 from rfl, ht, okI_l, ob1_s]
    dsimp only
    rw [if_pos rfl, if_pos (show nI (Hq A (x % 2)).length = 8 by rw [e8]; rfl), if_pos rfl]
    rfl
/-- every act of the law -/
theorem act_ok {A : AS} {T0 N what x y z : Nat} (hI : Inv A T0) (hN : 6000 < N) (hw : what < 10) (hx : x < 100000) (hy : y < 100000) (hz : z < 100000) : ActOK (F_acts N what x y z) A :=
  match what, hw with
  | 0, _ => act_01 (nI z) hI hN hx hy
  | 1, _ => (act_01 (nI z) hI hN hx hy : ActOK (F_acts_0 N (nI x) (nI y) (nI z)) A)
  | 2, _ => act_2 (nI z) hI hN hx hy
  | 3, _ => act_3 (nI y) (nI z) hI hN hx
  | 4, _ => act_4 (nI z) hI hN hx hy
  | 5, _ => act_5 (nI z) hI hN hx hy
  | 6, _ => act_q (fun _ => rfl) hI hN hx hy
  | 7, _ => act_q (fun _ => rfl) hI hN hx hy
  | 8, _ => act_8 (nI z) hI hN hx hy
  | 9, _ => act_9 hI hN hx hy hz
  | k + 10, h => absurd h (by omega)
