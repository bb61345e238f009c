/-! ===== bytes ===== -/
theorem by_1 (x : BitVec 32) (s : Nat) (hs : s ≤ 24) : (x.sshiftRight s) &&& 255#32 = (x >>> s) &&& 255#32 := by
  apply BitVec.eq_of_getLsbD_eq
  intro i hi
  rw [BitVec.getLsbD_and, BitVec.getLsbD_and]
  by_cases c : i < 8
  · have h1 : (x.sshiftRight s).getLsbD i = (x >>> s).getLsbD i := by
      rw [BitVec.getLsbD_sshiftRight, BitVec.getLsbD_ushiftRight, if_pos (by omega), decide_eq_false (by omega)]
      rfl
    rw [h1]
  · have h2 : (255#32).getLsbD i = false := by
      have h3 : ∀ i : Fin 32, 8 ≤ i.val → (255#32).getLsbD i.val = false := by decide
      exact h3 ⟨i, hi⟩ (show 8 ≤ i by omega)
    rw [h2, Bool.and_false, Bool.and_false]
theorem by_2 (x : BitVec 32) (s : Nat) : ((x >>> s) &&& 255#32).toNat = x.toNat / 2 ^ s % 256 := by
  rw [BitVec.toNat_and, BitVec.toNat_ushiftRight, Nat.shiftRight_eq_div_pow]
  exact Nat.and_two_pow_sub_one_eq_mod _ 8
def byt (a : Int32) (s : Nat) : Nat := a.toBitVec.toNat / 2 ^ s % 256
theorem byt_lt {a : Int32} {s : Nat} : byt a s < 256 := Nat.mod_lt _ (by decide)
theorem by_3 {y : Int32} {x : BitVec 32} {s : Nat} (h : y.toBitVec = (x >>> s) &&& 255#32) : y = nI (x.toNat / 2 ^ s % 256) := by
  apply Int32.toBitVec_inj.mp
  apply BitVec.eq_of_toNat_eq
  have key : ∀ m, m < 256 → (nI m).toBitVec.toNat = m := fun m hm => by
    show (BitVec.ofNat 32 m).toNat = m
    rw [BitVec.toNat_ofNat]
    exact Nat.mod_eq_of_lt (by omega)
  rw [h, by_2, key _ (Nat.mod_lt _ (by decide))]
theorem byC24 (a : Int32) : ((a).toUInt32 >>> ((24 : Int32).toUInt32 &&& Int32.toUInt32 31)).toInt32 &&& 255 = nI (byt a 24) := by_3 (show _ = (a.toBitVec >>> 24) &&& 255#32 from rfl)
theorem byC16 (a : Int32) : ((a).toUInt32 >>> ((16 : Int32).toUInt32 &&& Int32.toUInt32 31)).toInt32 &&& 255 = nI (byt a 16) := by_3 (show _ = (a.toBitVec >>> 16) &&& 255#32 from rfl)
theorem byC8 (a : Int32) : ((a).toUInt32 >>> ((8 : Int32).toUInt32 &&& Int32.toUInt32 31)).toInt32 &&& 255 = nI (byt a 8) := by_3 (show _ = (a.toBitVec >>> 8) &&& 255#32 from rfl)
theorem byC0 (a : Int32) : a &&& 255 = nI (byt a 0) := by_3 (show a.toBitVec &&& 255#32 = _ by rw [BitVec.ushiftRight_zero])
theorem byM24 (a : Int32) : (a >>> ((24 : Int32) &&& 31)) &&& 255 = nI (byt a 24) := by_3 ((show _ = (a.toBitVec.sshiftRight 24) &&& 255#32 from rfl).trans (by_1 _ _ (by decide)))
theorem byM16 (a : Int32) : (a >>> ((16 : Int32) &&& 31)) &&& 255 = nI (byt a 16) := by_3 ((show _ = (a.toBitVec.sshiftRight 16) &&& 255#32 from rfl).trans (by_1 _ _ (by decide)))
theorem byM8 (a : Int32) : (a >>> ((8 : Int32) &&& 31)) &&& 255 = nI (byt a 8) := by_3 ((show _ = (a.toBitVec.sshiftRight 8) &&& 255#32 from rfl).trans (by_1 _ _ (by decide)))
theorem byM0 (a : Int32) : (a >>> ((0 : Int32) &&& 31)) &&& 255 = nI (byt a 0) := by_3 ((show _ = (a.toBitVec.sshiftRight 0) &&& 255#32 from rfl).trans (by_1 _ _ (by decide)))
/-- four bytes behind the n-th -/
def put4 (f : Nat → Int32) (n : Nat) (a : Int32) : Nat → Int32 := upd (upd (upd (upd f n (nI (byt a 24))) (n + 1) (nI (byt a 16))) (n + 2) (nI (byt a 8))) (n + 3) (nI (byt a 0))
theorem put4_lo {f : Nat → Int32} {n k : Nat} {a : Int32} (h : k < n) : put4 f n a k = f k := by
  unfold put4
  rw [pk_un (by omega), pk_un (by omega), pk_un (by omega), pk_un (by omega)]
theorem put4_in {f g : Nat → Int32} {n k : Nat} {a : Int32} (h1 : n ≤ k) (h2 : k < n + 4) : ∃ b, b < 256 ∧ put4 f n a k = nI b ∧ put4 g n a k = nI b := by
  have e : ∀ f : Nat → Int32, put4 f n a k = nI (byt a (24 - 8 * (k - n))) := fun f => by
    unfold put4
    have : k = n ∨ k = n + 1 ∨ k = n + 2 ∨ k = n + 3 := by omega
    rcases this with rfl | rfl | rfl | rfl
    · rw [pk_un (by omega), pk_un (by omega), pk_un (by omega), pk_us, Nat.sub_self]
    · rw [pk_un (by omega), pk_un (by omega), pk_us, Nat.add_sub_cancel_left]
    · rw [pk_un (by omega), pk_us, Nat.add_sub_cancel_left]
    · rw [pk_us, Nat.add_sub_cancel_left]
  exact ⟨_, byt_lt, e f, e g⟩
theorem C_four {g : HV} {n : Nat} {a : Int32} (hn : g.1 1 = nI n) (h : n + 4 ≤ 800) : F_X9_appendBytes a g = sS (sA g 0 (put4 (g.2 0) n a)) 1 (nI (n + 4)) := by
  unfold F_X9_appendBytes put4
  simp only [lt_d, byC24, byC16, byC8, sA_1, hn, sA2s, sAA]
  simp only [byC0]
  simp (disch := omega) only [L1, L2, L3, L4, Z_add, Z_rset, if_pos]
theorem M_four {t : HV} {n N : Nat} {a : Int32} (hn : t.1 11 = nI n) (h : n + 4 ≤ 800) (hN : 10 < N) : F_X11_four N a t = some (sS (sA t 10 (put4 (t.2 10) n a)) 11 (nI (n + 4))) := by
  unfold F_X11_four
  obtain ⟨k, hk⟩ : ∃ k, N = k + 5 := ⟨N - 5, by omega⟩
  have st : ∀ (l l' : Int32) (m : Nat) (b : Nat) (f : Nat → Int32), m < 800 → ¬ l < 0 → (a >>> (l &&& 31)) &&& 255 = nI b → l + (-8) = l' → (fun z : Int32 × HV => st_X11_four_3 N a z.1 z.2) (l, sS (sA t 10 f) 11 (nI m)) = some (.inl (l', sS (sA t 10 (upd f m (nI b))) 11 (nI (m + 1)))) := fun l l' m b f hm hl hb hl' => by
    show st_X11_four_3 N a l (sS (sA t 10 f) 11 (nI m)) = _
    unfold st_X11_four_3
    rw [if_neg hl, sS_1, if_pos (by rw [Z_vpb (by omega)]; exact hm), hb, hl', Z_aw (by omega), lt_d, sS_2, sA2s, sA_1, sS_1, lt_d, L1, Z_add]
    show some (Sum.inl (l', (up (up t.1 11 (nI m)) 11 (nI (m + 1)), up (up t.2 10 f) 10 _))) = some (Sum.inl (l', (up t.1 11 (nI (m + 1)), up t.2 10 _)))
    rw [up_up, up_up]
  have e0 : t = sS (sA t 10 (t.2 10)) 11 (nI n) := by
    rw [sA_id rfl]
    unfold sS
    rw [← hn, up_id]
  have s1 := st 24 16 n _ (t.2 10) (by omega) (by decide) (byM24 a) (by decide)
  have s2 := st 16 8 (n + 1) _ (upd (t.2 10) n (nI (byt a 24))) (by omega) (by decide) (byM16 a) (by decide)
  have s3 := st 8 0 (n + 2) _ (upd (upd (t.2 10) n (nI (byt a 24))) (n + 1) (nI (byt a 16))) (by omega) (by decide) (byM8 a) (by decide)
  have s4 := st 0 (-8) (n + 3) _ (upd (upd (upd (t.2 10) n (nI (byt a 24))) (n + 1) (nI (byt a 16))) (n + 2) (nI (byt a 8))) (by omega) (by decide) (byM0 a) (by decide)
  have s5 : (fun z : Int32 × HV => st_X11_four_3 N a z.1 z.2) ((-8 : Int32), sS (sA t 10 (put4 (t.2 10) n a)) 11 (nI (n + 4))) = some (.inr (sS (sA t 10 (put4 (t.2 10) n a)) 11 (nI (n + 4)))) := by
    show st_X11_four_3 N a (-8) _ = _
    unfold st_X11_four_3
    rw [if_pos (by decide)]
  rw [← e0] at s1
  generalize (fun z : Int32 × HV => st_X11_four_3 N a z.1 z.2) = F at s1 s2 s3 s4 s5 ⊢
  rw [hk]
  exact (lpN_l s1).trans ((lpN_l s2).trans ((lpN_l s3).trans ((lpN_l s4).trans (lpN_r s5))))
/-- five times four bytes -/
def put20 (f : Nat → Int32) (n : Nat) (a b c d e : Int32) : Nat → Int32 := put4 (put4 (put4 (put4 (put4 f n a) (n + 4) b) (n + 8) c) (n + 12) d) (n + 16) e
theorem put20_ok {f g : Nat → Int32} {n k : Nat} {a b c d e : Int32} (h : ∀ k, k < n → ∃ b, b < 256 ∧ f k = nI b ∧ g k = nI b) (hk : k < n + 20) : ∃ x, x < 256 ∧ put20 f n a b c d e k = nI x ∧ put20 g n a b c d e k = nI x := by
  unfold put20
  by_cases c5 : k < n + 16
  · rw [put4_lo c5, put4_lo c5]
    by_cases c4 : k < n + 12
    · rw [put4_lo c4, put4_lo c4]
      by_cases c3 : k < n + 8
      · rw [put4_lo c3, put4_lo c3]
        by_cases c2 : k < n + 4
        · rw [put4_lo c2, put4_lo c2]
          by_cases c1 : k < n
          · rw [put4_lo c1, put4_lo c1]; exact h k c1
          · exact put4_in (by omega) (by omega)
        · exact put4_in (by omega) (by omega)
      · exact put4_in (by omega) (by omega)
    · exact put4_in (by omega) (by omega)
  · exact put4_in (by omega) (by omega)
theorem E0 {S : SS} {τ : HV} {T N : Nat} (h : LR S τ T) (hT : T < 2 ^ 20) (hN : 6000 < N) (p1 p2 p3 p4 p5 : Int32) : rX (F_X10_append p1 p2 p3 p4 p5 S) (F_X11_append N p1 p2 p3 p4 p5 τ) T [(1, 1)] := by
  obtain ⟨n, hn, q1, q2, q3, q4, q5⟩ := h.2.2.2.1
  unfold F_X10_append F_X11_append
  rw [q1, q2]
  have hz : (nI n + 20 ≤ 800) = (n + 20 ≤ 800) := by rw [L20, Z_add, L800, Z_le (by omega) (by omega)]
  have hz2 : ((800 : Int32) < nI n + 20) = (800 < n + 20) := by rw [L20, Z_add, L800, Z_lt (by omega) (by omega)]
  by_cases c : n + 20 ≤ 800
  · rw [if_pos (by rw [hz]; exact c), if_neg (by rw [hz2]; omega), pas_t, lt2_d, if_pos rfl]
    have f1 : ∀ (x : HV) (m : Nat) (a : Int32), x.1 11 = nI m → m + 4 ≤ 800 → F_X11_four N a x = some (sS (sA x 10 (put4 (x.2 10) m a)) 11 (nI (m + 4))) := fun x m a h1 h2 => M_four h1 h2 (by omega)
    have q2' : (sS τ 6 0).1 11 = nI n := by rw [sS_1n (by decide)]; exact q2
    have hx : ∀ (x : HV) (f : Nat → Int32) (m m' : Nat), sS (sA (sS (sA x 10 f) 11 (nI m)) 10 (put4 ((sS (sA x 10 f) 11 (nI m)).2 10) m p1)) 11 (nI m') = sS (sA x 10 (put4 f m p1)) 11 (nI m') := fun x f m m' => by
      rw [sS_2, sA2s]
      show (up (up x.1 11 _) 11 _, up (up x.2 10 _) 10 _) = (up x.1 11 _, up x.2 10 _)
      rw [up_up, up_up]
    have hx' : ∀ (x : HV) (f g : Nat → Int32) (m m' : Nat), sS (sA (sS (sA x 10 f) 11 (nI m)) 10 g) 11 (nI m') = sS (sA x 10 g) 11 (nI m') := fun x f g m m' => by
      show (up (up x.1 11 _) 11 _, up (up x.2 10 _) 10 _) = (up x.1 11 _, up x.2 10 _)
      rw [up_up, up_up]
    have e2 : ∀ (x : HV) (f : Nat → Int32) (m : Nat), (sS (sA x 10 f) 11 (nI m)).2 10 = f := fun x f m => by rw [sS_2, sA2s]
    have hM : (ob1 (F_X11_four N p1 (sS τ 6 0)) fun t16 => (ob1 (F_X11_four N p2 t16) fun t18 => (ob1 (F_X11_four N p3 t18) fun t20 => (ob1 (F_X11_four N p4 t20) fun t22 => (ob1 (F_X11_four N p5 t22) fun t24 => some ((t24.1 11), t24)))))) = some (nI (n + 20), sS (sA (sS τ 6 0) 10 (put20 (τ.2 10) n p1 p2 p3 p4 p5)) 11 (nI (n + 20))) := by
      rw [f1 _ n p1 q2' (by omega), ob1_s, f1 _ (n + 4) p2 sS_1 (by omega), ob1_s, hx', e2, f1 _ (n + 8) p3 sS_1 (by omega), ob1_s, hx', e2, f1 _ (n + 12) p4 sS_1 (by omega), ob1_s, hx', e2, f1 _ (n + 16) p5 sS_1 (by omega), ob1_s, hx', e2, sS_1]
      rfl
    have g2 : ∀ (x : HV) (f : Nat → Int32) (m : Nat), (sS (sA x 0 f) 1 (nI m)).2 0 = f := fun x f m => by rw [sS_2, sA2s]
    have gx' : ∀ (x : HV) (f g : Nat → Int32) (m m' : Nat), sS (sA (sS (sA x 0 f) 1 (nI m)) 0 g) 1 (nI m') = sS (sA x 0 g) 1 (nI m') := fun x f g m m' => by
      show (up (up x.1 1 _) 1 _, up (up x.2 0 _) 0 _) = (up x.1 1 _, up x.2 0 _)
      rw [up_up, up_up]
    rw [hM]
    have hu : up S 11 (up (S 11) 4 (sS (sA (S 11 4) 0 (put20 ((S 11 4).2 0) n p1 p2 p3 p4 p5)) 1 (nI (n + 20)))) 11 4 = sS (sA (S 11 4) 0 (put20 ((S 11 4).2 0) n p1 p2 p3 p4 p5)) 1 (nI (n + 20)) := by rw [up_s, up_s]
    have uo : ∀ j, j ≠ 11 → up S 11 (up (S 11) 4 (sS (sA (S 11 4) 0 (put20 ((S 11 4).2 0) n p1 p2 p3 p4 p5)) 1 (nI (n + 20)))) j = S j := fun j hj => up_n hj
    have up' : ∀ p, p ≠ 4 → up S 11 (up (S 11) 4 (sS (sA (S 11 4) 0 (put20 ((S 11 4).2 0) n p1 p2 p3 p4 p5)) 1 (nI (n + 20)))) 11 p = S 11 p := fun p hp => by rw [up_s, up_n hp]
    have nn : ∀ i, i ≠ 6 → i ≠ 11 → (sS (sA (sS τ 6 0) 10 (put20 (τ.2 10) n p1 p2 p3 p4 p5)) 11 (nI (n + 20))).1 i = τ.1 i := fun i h1 h2 => by rw [sS_1n h2, sA_1, sS_1n h1]
    have aa : ∀ a, a ≠ 10 → (sS (sA (sS τ 6 0) 10 (put20 (τ.2 10) n p1 p2 p3 p4 p5)) 11 (nI (n + 20))).2 a = τ.2 a := fun a ha => by rw [sS_2, sA_2n ha, sS_2]
    obtain ⟨⟨A, hA⟩, hs, hh, _, ho⟩ := h
    refine Or.inl ⟨nI (n + 20), up S 11 (up (S 11) 4 (sS (sA (S 11 4) 0 (put20 ((S 11 4).2 0) n p1 p2 p3 p4 p5)) 1 (nI (n + 20)))), _, ?_, rfl, ?_, ⟨A, ?_⟩, RLs_e hs (Nat.le_refl _) hT (by rw [up' 6 (by decide)]) (uo 2 (by decide)) (nn 7 (by decide) (by decide)) (aa 1 (by decide)), RLh_e hh (Nat.le_refl _) hT (up' 7 (by decide)) (fun j h1 h2 => uo j (by omega)) (nn 5 (by decide) (by decide)) (aa 4 (by decide)), ⟨n + 20, c, ?_, sS_1, fun k hk => ?_, ?_, ?_⟩, RLo_e ho (by rw [up' 6 (by decide)]) (by rw [up' 6 (by decide)]) (nn 22 (by decide) (by decide)) (aa 21 (by decide))⟩
    · rw [C_four q1 (by omega)]
      simp only [lt_d, up_s, up_up]
      rw [C_four (n := n + 4) sS_1 (by omega), gx', g2, C_four (n := n + 8) sS_1 (by omega), gx', g2, C_four (n := n + 12) sS_1 (by omega), gx', g2, C_four (n := n + 16) sS_1 (by omega), gx', g2, sS_1]
      rfl
    · show (sS (sA (sS τ 6 0) 10 _) 11 (nI (n + 20))).1 6 = 0
      rw [sS_1n (by decide), sA_1, sS_1]
    · rw [uo 0 (by decide), aa 0 (by decide)]; exact hA
    · rw [hu, sS_1]
    · rw [hu, sS_2, sA2s, sS_2, sA2s]
      exact put20_ok q3 hk
    · rw [hu, nn 17 (by decide) (by decide), sS_1n (by decide), sA_1]; exact q4
    · rw [hu, nn 18 (by decide) (by decide), sS_1n (by decide), sA_1]; exact q5
  · rw [if_neg (by rw [hz]; exact c), if_pos (by rw [hz2]; omega), pas_f, lt2_d, if_neg Bool.false_ne_true]
    exact Or.inr ⟨(1, 1), S, 0, sS τ 6 1, List.mem_cons_self, rfl, rfl, thr_6, LR_6 h 1 hT⟩
/-- a call whose other side answers outright -/
def rY (F : Option ((Int32 × SS) ⊕ (Nat × SS))) (G : Int32 × HV) (T : Nat) (es : List (Nat × Int32)) : Prop := (∃ v S' τ', F = some (.inl (v, S')) ∧ G = (v, τ') ∧ F_X11_thrown τ' = 0 ∧ LR S' τ' T) ∨ ∃ q S' b τ', q ∈ es ∧ F = some (.inr (q.1, S')) ∧ G = (b, τ') ∧ F_X11_thrown τ' = q.2 ∧ LR S' τ' T
/-- only the length of the text changes -/
theorem LR_len {S S' : SS} {τ τ' : HV} {T T' n m : Nat} (h : LR S τ T) (hT : T ≤ T') (h2 : T' < 2 ^ 20) (hn8 : n ≤ 800) (hn : (S 11 4).1 1 = nI n) (hm : m ≤ n) (eS : ∀ j, j ≠ 11 → S' j = S j) (e4 : ∀ p, p ≠ 4 → S' 11 p = S 11 p) (x4 : S' 11 4 = sS (S 11 4) 1 (nI m)) (e1 : ∀ i, i = 5 ∨ i = 7 ∨ i = 17 ∨ i = 18 ∨ i = 22 → τ'.1 i = τ.1 i) (e11 : τ'.1 11 = nI m) (e2 : ∀ a, a = 0 ∨ a = 1 ∨ a = 4 ∨ a = 10 ∨ a = 21 → τ'.2 a = τ.2 a) : LR S' τ' T' := by
  obtain ⟨⟨A, hA⟩, hs, hh, ⟨n', hn', q1, q2, q3, q4, q5⟩, ho⟩ := h
  have hnn : n = n' := by
    have h3 : nI n' = nI n := q1.symm.trans hn
    rw [Z_eq (by omega) (by omega)] at h3
    exact h3.symm
  subst hnn
  refine ⟨⟨A, ?_⟩, RLs_e hs hT h2 (by rw [e4 6 (by decide)]) (eS 2 (by decide)) (e1 7 (by omega)) (e2 1 (by omega)), RLh_e hh hT h2 (e4 7 (by decide)) (fun j h1 h2 => eS j (by omega)) (e1 5 (by omega)) (e2 4 (by omega)), ⟨m, by omega, ?_, e11, fun k hk => ?_, ?_, ?_⟩, RLo_e ho (by rw [e4 6 (by decide)]) (by rw [e4 6 (by decide)]) (e1 22 (by omega)) (e2 21 (by omega))⟩
  · rw [eS 0 (by decide), e2 0 (by omega)]; exact RS_up hA hT h2
  · rw [x4, sS_1]
  · rw [x4, sS_2, e2 10 (by omega)]; exact q3 k (by omega)
  · rw [x4, sS_1n (by decide), e1 17 (by omega)]; exact q4
  · rw [x4, sS_1n (by decide), e1 18 (by omega)]; exact q5
theorem E1 {S : SS} {τ : HV} {T : Nat} (h : LR S τ T) (hT : T < 2 ^ 20) (p : Int32) : rY (F_X10_truncate p S) (F_X11_truncate p τ) T [(2, 1)] := by
  obtain ⟨n, hn, q1, q2, q3, q4, q5⟩ := h.2.2.2.1
  unfold F_X10_truncate F_X11_truncate
  rw [q1, q2, T0]
  rcases num_c p (a := 0) (b := n) (by omega) (Nat.zero_le _) with ⟨c, e⟩ | ⟨k, _, hk, rfl, ⟨c1, c2⟩, e⟩
  · refine Or.inr ⟨(2, 1), S, 0, sS τ 6 1, List.mem_cons_self, ?_, ?_, thr_6, LR_6 h 1 hT⟩
    · rcases c with c | ⟨c, c2⟩
      · rw [L0, if_pos c]
      · rw [L0, if_neg c, if_neg c2]
    · rw [e, pas_f, lt2_d, if_neg Bool.false_ne_true]
  · rw [L0, if_neg c1, if_pos c2, e, pas_t, lt2_d, if_pos rfl, lt_d, lt_d]
    refine Or.inl ⟨nI k, _, _, rfl, rfl, ?_, LR_len h (Nat.le_refl _) hT hn q1 hk (fun j hj => up_n hj) (fun p hp => by rw [up_s, up_n hp]) (by rw [up_s, up_s]) (fun i hi => ?_) sS_1 (fun a ha => rfl)⟩
    · show (sS (sS τ 6 0) 11 (nI k)).1 6 = 0
      rw [sS_1n (by decide), sS_1]
    · rw [sS_1n (by omega), sS_1n (by omega)]
