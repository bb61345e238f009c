/-! ===== bytes ===== -/
theorem by_1 (x : BitVec 32) (s : Nat) (hs : s ≤ 24) : (x.sshiftRight s) &&& 255#32 = (x >>> s) &&& 255#32 := by
  apply BitVec.eq_of_getLsbD_eq
  intro i hi
  rw [BitVec.getLsbD_and, BitVec.getLsbD_and]
  by_cases c : i < 8
  · have h1 : (x.sshiftRight s).getLsbD i = (x >>> s).getLsbD i := by
      rw [BitVec.getLsbD_sshiftRight, BitVec.getLsbD_ushiftRight, if_pos (by omega), decide_eq_false (by omega)]
      rfl
    rw [h1]
  · have h2 : (255#32).getLsbD i = false := by
      have h3 : ∀ i : Fin 32, 8 ≤ i.val → (255#32).getLsbD i.val = false := by decide
      exact h3 ⟨i, hi⟩ (show 8 ≤ i by omega)
    rw [h2, Bool.and_false, Bool.and_false]
theorem by_2 (x : BitVec 32) (s : Nat) : ((x >>> s) &&& 255#32).toNat = x.toNat / 2 ^ s % 256 := by
  rw [BitVec.toNat_and, BitVec.toNat_ushiftRight, Nat.shiftRight_eq_div_pow]
  exact Nat.and_two_pow_sub_one_eq_mod _ 8
def byt (a : Int32) (s : Nat) : Nat := a.toBitVec.toNat / 2 ^ s % 256
theorem byt_lt {a : Int32} {s : Nat} : byt a s < 256 := Nat.mod_lt _ (by decide)
theorem by_3 {y : Int32} {x : BitVec 32} {s : Nat} (h : y.toBitVec = (x >>> s) &&& 255#32) : y = nI (x.toNat / 2 ^ s % 256) := by
  apply Int32.toBitVec_inj.mp
  apply BitVec.eq_of_toNat_eq
  have key : ∀ m, m < 256 → (nI m).toBitVec.toNat = m := fun m hm => by
    show (BitVec.ofNat 32 m).toNat = m
    rw [BitVec.toNat_ofNat]
    exact Nat.mod_eq_of_lt (by omega)
  rw [h, by_2, key _ (Nat.mod_lt _ (by decide))]
theorem byC24 (a : Int32) : ((a).toUInt32 >>> ((24 : Int32).toUInt32 &&& Int32.toUInt32 31)).toInt32 &&& 255 = nI (byt a 24) := by_3 (show _ = (a.toBitVec >>> 24) &&& 255#32 from rfl)
theorem byC16 (a : Int32) : ((a).toUInt32 >>> ((16 : Int32).toUInt32 &&& Int32.toUInt32 31)).toInt32 &&& 255 = nI (byt a 16) := by_3 (show _ = (a.toBitVec >>> 16) &&& 255#32 from rfl)
theorem byC8 (a : Int32) : ((a).toUInt32 >>> ((8 : Int32).toUInt32 &&& Int32.toUInt32 31)).toInt32 &&& 255 = nI (byt a 8) := by_3 (show _ = (a.toBitVec >>> 8) &&& 255#32 from rfl)
theorem byC0 (a : Int32) : a &&& 255 = nI (byt a 0) := by_3 (show a.toBitVec &&& 255#32 = _ by rw [BitVec.ushiftRight_zero])
theorem byM24 (a : Int32) : (a >>> ((24 : Int32) &&& 31)) &&& 255 = nI (byt a 24) := by_3 ((show _ = (a.toBitVec.sshiftRight 24) &&& 255#32 from rfl).trans (by_1 _ _ (by decide)))
theorem byM16 (a : Int32) : (a >>> ((16 : Int32) &&& 31)) &&& 255 = nI (byt a 16) := by_3 ((show _ = (a.toBitVec.sshiftRight 16) &&& 255#32 from rfl).trans (by_1 _ _ (by decide)))
theorem byM8 (a : Int32) : (a >>> ((8 : Int32) &&& 31)) &&& 255 = nI (byt a 8) := by_3 ((show _ = (a.toBitVec.sshiftRight 8) &&& 255#32 from rfl).trans (by_1 _ _ (by decide)))
theorem byM0 (a : Int32) : (a >>> ((0 : Int32) &&& 31)) &&& 255 = nI (byt a 0) := by_3 ((show _ = (a.toBitVec.sshiftRight 0) &&& 255#32 from rfl).trans (by_1 _ _ (by decide)))
/-- four bytes behind the n-th -/
def put4 (f : Nat → Int32) (n : Nat) (a : Int32) : Nat → Int32 := upd (upd (upd (upd f n (nI (byt a 24))) (n + 1) (nI (byt a 16))) (n + 2) (nI (byt a 8))) (n + 3) (nI (byt a 0))
theorem put4_lo {f : Nat → Int32} {n k : Nat} {a : Int32} (h : k < n) : put4 f n a k = f k := by
  unfold put4
  rw [pk_un (by omega), pk_un (by omega), pk_un (by omega), pk_un (by omega)]
theorem put4_in {f g : Nat → Int32} {n k : Nat} {a : Int32} (h1 : n ≤ k) (h2 : k < n + 4) : ∃ b, b < 256 ∧ put4 f n a k = nI b ∧ put4 g n a k = nI b := by
  have e : ∀ f : Nat → Int32, put4 f n a k = nI (byt a (24 - 8 * (k - n))) := fun f => by
    unfold put4
    have : k = n ∨ k = n + 1 ∨ k = n + 2 ∨ k = n + 3 := by omega
    rcases this with rfl | rfl | rfl | rfl
    · rw [pk_un (by omega), pk_un (by omega), pk_un (by omega), pk_us, Nat.sub_self]
    · rw [pk_un (by omega), pk_un (by omega), pk_us, Nat.add_sub_cancel_left]
    · rw [pk_un (by omega), pk_us, Nat.add_sub_cancel_left]
    · rw [pk_us, Nat.add_sub_cancel_left]
  exact ⟨_, byt_lt, e f, e g⟩
theorem C_four {g : HV} {n : Nat} {a : Int32} (hn : g.1 1 = nI n) (h : n + 4 ≤ 800) : F_X9_appendBytes a g = sS (sA g 0 (put4 (g.2 0) n a)) 1 (nI (n + 4)) := by
  unfold F_X9_appendBytes put4
  simp only [lt_d, byC24, byC16, byC8, sA_1, hn, sA2s, sAA]
  simp only [byC0]
  simp (disch := omega) only [L1, L2, L3, L4, Z_add, Z_rset, if_pos]
/-- five times four bytes -/
def put20 (f : Nat → Int32) (n : Nat) (a b c d e : Int32) : Nat → Int32 := put4 (put4 (put4 (put4 (put4 f n a) (n + 4) b) (n + 8) c) (n + 12) d) (n + 16) e
theorem put20_ok {f g : Nat → Int32} {n k : Nat} {a b c d e : Int32} (h : ∀ k, k < n → ∃ b, b < 256 ∧ f k = nI b ∧ g k = nI b) (hk : k < n + 20) : ∃ x, x < 256 ∧ put20 f n a b c d e k = nI x ∧ put20 g n a b c d e k = nI x := by
  unfold put20
  by_cases c5 : k < n + 16
  · rw [put4_lo c5, put4_lo c5]
    by_cases c4 : k < n + 12
    · rw [put4_lo c4, put4_lo c4]
      by_cases c3 : k < n + 8
      · rw [put4_lo c3, put4_lo c3]
        by_cases c2 : k < n + 4
        · rw [put4_lo c2, put4_lo c2]
          by_cases c1 : k < n
          · rw [put4_lo c1, put4_lo c1]; exact h k c1
          · exact put4_in (by omega) (by omega)
        · exact put4_in (by omega) (by omega)
      · exact put4_in (by omega) (by omega)
    · exact put4_in (by omega) (by omega)
  · exact put4_in (by omega) (by omega)
/-- only the length of the text changes -/
theorem LR_len {S S' : SS} {τ τ' : HV} {T T' n m : Nat} (h : LR S τ T) (hT : T ≤ T') (h2 : T' < 2 ^ 20) (hn8 : n ≤ 800) (hn : (S 11 4).1 1 = nI n) (hm : m ≤ n) (eS : ∀ j, j ≠ 11 → S' j = S j) (e4 : ∀ p, p ≠ 4 → S' 11 p = S 11 p) (x4 : S' 11 4 = sS (S 11 4) 1 (nI m)) (e1 : ∀ i, i = 5 ∨ i = 7 ∨ i = 17 ∨ i = 18 ∨ i = 22 → τ'.1 i = τ.1 i) (e11 : τ'.1 11 = nI m) (e2 : ∀ a, a = 0 ∨ a = 1 ∨ a = 4 ∨ a = 10 ∨ a = 21 → τ'.2 a = τ.2 a) : LR S' τ' T' := by
  obtain ⟨⟨A, hA⟩, hs, hh, ⟨n', hn', q1, q2, q3, q4, q5⟩, ho⟩ := h
  have hnn : n = n' := by
    have h3 : nI n' = nI n := q1.symm.trans hn
    rw [Z_eq (by omega) (by omega)] at h3
    exact h3.symm
  subst hnn
  refine ⟨⟨A, ?_⟩, RLs_e hs hT h2 (by rw [e4 6 (by decide)]) (eS 2 (by decide)) (e1 7 (by omega)) (e2 1 (by omega)), RLh_e hh hT h2 (e4 7 (by decide)) (fun j h1 h2 => eS j (by omega)) (e1 5 (by omega)) (e2 4 (by omega)), ⟨m, by omega, ?_, e11, fun k hk => ?_, ?_, ?_⟩, RLo_e ho (by rw [e4 6 (by decide)]) (by rw [e4 6 (by decide)]) (e1 22 (by omega)) (e2 21 (by omega))⟩
  · rw [eS 0 (by decide), e2 0 (by omega)]; exact RS_up hA hT h2
  · rw [x4, sS_1]
  · rw [x4, sS_2, e2 10 (by omega)]; exact q3 k (by omega)
  · rw [x4, sS_1n (by decide), e1 17 (by omega)]; exact q4
  · rw [x4, sS_1n (by decide), e1 18 (by omega)]; exact q5
