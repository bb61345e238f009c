/-! ===== vtext: the text that the law lets come ===== -/
theorem okI_l {α β : Type} {r : α} : okI (some (.inl r) : Option (α ⊕ β)) = some r := rfl
theorem sh8 {x : Int32} {a c : Nat} (hx : x.toBitVec.toNat = a) (ha : a < 2 ^ 24) (hc : c < 256) : (x <<< ((8 : Int32) &&& 31) ||| nI c).toBitVec.toNat = a * 256 + c := by
  have e : (x <<< ((8 : Int32) &&& 31) ||| nI c).toBitVec = (x.toBitVec <<< 8) ||| BitVec.ofNat 32 c := rfl
  have e2 : a <<< 8 = a * 2 ^ 8 := Nat.shiftLeft_eq a 8
  rw [e, BitVec.toNat_or, BitVec.toNat_shiftLeft, BitVec.toNat_ofNat, hx, Nat.mod_eq_of_lt (a := a <<< 8) (by rw [e2]; omega), Nat.mod_eq_of_lt (a := c) (by omega), ← Nat.shiftLeft_add_eq_or_of_lt (i := 8) (b := c) (by omega), e2]
theorem chN_n {T : List Nat} {n : Nat} : chN T n = nI (T.getD n 0) := by
  unfold chN
  by_cases c : n < T.length
  · rw [if_pos c]
  · rw [if_neg c, List.getD_eq_getElem?_getD, List.getElem?_eq_none (by omega)]
    rfl
theorem getD_128 {T : List Nat} (h : ∀ c ∈ T, c < 128) (n : Nat) : T.getD n 0 < 128 := by
  rw [List.getD_eq_getElem?_getD]
  by_cases c : n < T.length
  · rw [List.getElem?_eq_getElem c]
    exact h _ (List.getElem_mem c)
  · rw [List.getElem?_eq_none (by omega)]
    decide
theorem inn_lo {T : List Nat} {k j : Nat} : ∀ i, i ≤ 4 * j → inn T k i j = 0
  | 0, _ => rfl
  | i + 1, h => by
    show upd (inn T k i) (i / 4) _ j = 0
    rw [pk_un (by omega)]
    exact inn_lo i (by omega)
theorem inn_hi {T : List Nat} {k j : Nat} : ∀ m, inn T k (4 * j + 4 + m) j = inn T k (4 * j + 4) j
  | 0 => rfl
  | m + 1 => by
    show upd (inn T k (4 * j + 4 + m)) ((4 * j + 4 + m) / 4) _ j = _
    rw [pk_un (by omega)]
    exact inn_hi m
theorem inn_s {T : List Nat} {k j m : Nat} (hm : m < 4) : inn T k (4 * j + m + 1) j = (inn T k (4 * j + m) j) <<< ((8 : Int32) &&& 31) ||| nI (T.getD (k + (4 * j + m)) 0) := by
  have e : (4 * j + m) / 4 = j := by omega
  show upd (inn T k (4 * j + m)) ((4 * j + m) / 4) ((inn T k (4 * j + m) ((4 * j + m) / 4)) <<< ((8 : Int32) &&& 31) ||| chN T (k + (4 * j + m))) j = _
  rw [e, pk_us, chN_n]
theorem inn_v {T : List Nat} (h : ∀ c ∈ T, c < 128) {k j : Nat} (hj : j < 5) : (inn T k 20 j).toBitVec.toNat = ((T.getD (k + 4 * j) 0 * 256 + T.getD (k + (4 * j + 1)) 0) * 256 + T.getD (k + (4 * j + 2)) 0) * 256 + T.getD (k + (4 * j + 3)) 0 := by
  have b0 := getD_128 h (k + 4 * j)
  have b1 := getD_128 h (k + (4 * j + 1))
  have b2 := getD_128 h (k + (4 * j + 2))
  have b3 := getD_128 h (k + (4 * j + 3))
  have e0 : inn T k (4 * j) j = 0 := inn_lo _ (Nat.le_refl _)
  have v0 : (inn T k (4 * j) j).toBitVec.toNat = 0 := by rw [e0]; rfl
  have v1 := sh8 v0 (by omega) (c := T.getD (k + 4 * j) 0) (by omega)
  have v1' : (inn T k (4 * j + 0 + 1) j).toBitVec.toNat = _ := (congrArg (fun x : Int32 => x.toBitVec.toNat) (inn_s (T := T) (k := k) (j := j) (m := 0) (by omega))).trans v1
  have v2 := sh8 v1' (by omega) (c := T.getD (k + (4 * j + 1)) 0) (by omega)
  have v2' : (inn T k (4 * j + 1 + 1) j).toBitVec.toNat = _ := (congrArg (fun x : Int32 => x.toBitVec.toNat) (inn_s (T := T) (k := k) (j := j) (m := 1) (by omega))).trans v2
  have v3 := sh8 v2' (by omega) (c := T.getD (k + (4 * j + 2)) 0) (by omega)
  have v3' : (inn T k (4 * j + 2 + 1) j).toBitVec.toNat = _ := (congrArg (fun x : Int32 => x.toBitVec.toNat) (inn_s (T := T) (k := k) (j := j) (m := 2) (by omega))).trans v3
  have v4 := sh8 v3' (by omega) (c := T.getD (k + (4 * j + 3)) 0) (by omega)
  have v4' : (inn T k (4 * j + 3 + 1) j).toBitVec.toNat = _ := (congrArg (fun x : Int32 => x.toBitVec.toNat) (inn_s (T := T) (k := k) (j := j) (m := 3) (by omega))).trans v4
  have e9 : inn T k 20 j = inn T k (4 * j + 4) j := by
    have := inn_hi (T := T) (k := k) (j := j) (16 - 4 * j)
    rw [show 4 * j + 4 + (16 - 4 * j) = 20 by omega] at this
    exact this
  rw [e9]
  refine v4'.trans ?_
  omega
theorem inn_byt {T : List Nat} (h : ∀ c ∈ T, c < 128) {k j m : Nat} (hj : j < 5) (hm : m < 4) : byt (inn T k 20 j) (24 - 8 * m) = T.getD (k + (4 * j + m)) 0 := by
  have b0 := getD_128 h (k + 4 * j)
  have b1 := getD_128 h (k + (4 * j + 1))
  have b2 := getD_128 h (k + (4 * j + 2))
  have b3 := getD_128 h (k + (4 * j + 3))
  unfold byt
  rw [inn_v h hj]
  have : m = 0 ∨ m = 1 ∨ m = 2 ∨ m = 3 := by omega
  rcases this with rfl | rfl | rfl | rfl
  · show _ / 16777216 % 256 = T.getD (k + 4 * j) 0
    omega
  · show _ / 65536 % 256 = _
    omega
  · show _ / 256 % 256 = _
    omega
  · show _ / 1 % 256 = _
    omega
theorem put4_at {f : Nat → Int32} {n m : Nat} {a : Int32} (hm : m < 4) : put4 f n a (n + m) = nI (byt a (24 - 8 * m)) := by
  unfold put4
  have : m = 0 ∨ m = 1 ∨ m = 2 ∨ m = 3 := by omega
  rcases this with rfl | rfl | rfl | rfl
  · rw [pk_un (by omega), pk_un (by omega), pk_un (by omega)]; exact pk_us
  · rw [pk_un (by omega), pk_un (by omega)]; exact pk_us
  · rw [pk_un (by omega)]; exact pk_us
  · exact pk_us
theorem put20_lo {f : Nat → Int32} {n k : Nat} {a b c d e : Int32} (h : k < n) : put20 f n a b c d e k = f k := by
  unfold put20
  rw [put4_lo (by omega), put4_lo (by omega), put4_lo (by omega), put4_lo (by omega), put4_lo (by omega)]
theorem put20_t {T : List Nat} (h : ∀ c ∈ T, c < 128) {f : Nat → Int32} {n k i : Nat} (hi : i < 20) : put20 f n (inn T k 20 0) (inn T k 20 1) (inn T k 20 2) (inn T k 20 3) (inn T k 20 4) (n + i) = nI (T.getD (k + i) 0) := by
  have B : ∀ (g : Nat → Int32) (j m n' : Nat), j < 5 → m < 4 → n' = n + 4 * j → i = 4 * j + m → put4 g n' (inn T k 20 j) (n + i) = nI (T.getD (k + i) 0) := fun g j m n' hj hm e1 e2 => by
    rw [show n + i = n' + m by omega, put4_at hm, inn_byt h hj hm, e2]
  unfold put20
  by_cases c5 : i < 16
  · rw [put4_lo (by omega)]
    by_cases c4 : i < 12
    · rw [put4_lo (by omega)]
      by_cases c3 : i < 8
      · rw [put4_lo (by omega)]
        by_cases c2 : i < 4
        · rw [put4_lo (by omega)]
          exact B _ 0 i n (by decide) c2 (by omega) (by omega)
        · exact B _ 1 (i - 4) (n + 4) (by decide) (by omega) (by omega) (by omega)
      · exact B _ 2 (i - 8) (n + 8) (by decide) (by omega) (by omega) (by omega)
    · exact B _ 3 (i - 12) (n + 12) (by decide) (by omega) (by omega) (by omega)
  · exact B _ 4 (i - 16) (n + 16) (by decide) (by omega) (by omega) (by omega)
theorem V_append {S : SS} {n : Nat} (q1 : (S 11 4).1 1 = nI n) (c : n + 20 ≤ 800) (p1 p2 p3 p4 p5 : Int32) : F_X10_append p1 p2 p3 p4 p5 S = some (.inl (nI (n + 20), up S 11 (up (S 11) 4 (sS (sA (S 11 4) 0 (put20 ((S 11 4).2 0) n p1 p2 p3 p4 p5)) 1 (nI (n + 20)))))) := by
  have g2 : ∀ (x : HV) (f : Nat → Int32) (m : Nat), (sS (sA x 0 f) 1 (nI m)).2 0 = f := fun x f m => by rw [sS_2, sA2s]
  have gx' : ∀ (x : HV) (f g : Nat → Int32) (m m' : Nat), sS (sA (sS (sA x 0 f) 1 (nI m)) 0 g) 1 (nI m') = sS (sA x 0 g) 1 (nI m') := fun x f g m m' => by
    show (up (up x.1 1 _) 1 _, up (up x.2 0 _) 0 _) = (up x.1 1 _, up x.2 0 _)
    rw [up_up, up_up]
  unfold F_X10_append
  rw [q1, if_pos (by rw [L20, Z_add, L800, Z_le (by omega) (by omega)]; exact c), C_four q1 (by omega)]
  simp only [lt_d, up_s, up_up]
  rw [C_four (n := n + 4) sS_1 (by omega), gx', g2, C_four (n := n + 8) sS_1 (by omega), gx', g2, C_four (n := n + 12) sS_1 (by omega), gx', g2, C_four (n := n + 16) sS_1 (by omega), gx', g2, sS_1]
  rfl
theorem V_truncate {S : SS} {n m : Nat} (q1 : (S 11 4).1 1 = nI n) (hn : n < 2 ^ 20) (hm : m ≤ n) : F_X10_truncate (nI m) S = some (.inl (nI m, up S 11 (up (S 11) 4 (sS (S 11 4) 1 (nI m))))) := by
  unfold F_X10_truncate
  rw [q1, L0, if_neg (by rw [Z_lt (by omega) (by decide)]; omega), if_pos (by rw [Z_le (by omega) (by omega)]; exact hm), lt_d]
/-- the text is in the buffer -/
def TX (T : List Nat) (S : SS) : Prop := (S 11 4).1 1 = nI T.length ∧ ∀ j, j < T.length → (S 11 4).2 0 j = nI (T.getD j 0)
theorem V_comes {T : List Nat} (h : ∀ c ∈ T, c < 128) (hl : T.length ≤ 780) : ∀ n k (S : SS), (S 11 4).1 1 = nI k → (∀ j, j < k → (S 11 4).2 0 j = nI (T.getD j 0)) → k ≤ 800 → T.length ≤ k + 20 * n → ∃ S', F_comes T (n + 1) k S = some S' ∧ TX T S' ∧ (∀ j, j ≠ 11 → S' j = S j) ∧ (∀ p, p ≠ 4 → S' 11 p = S 11 p) := by
  have tr : ∀ n k (S : SS), (S 11 4).1 1 = nI k → (∀ j, j < k → (S 11 4).2 0 j = nI (T.getD j 0)) → k ≤ 800 → T.length ≤ k → ∃ S', F_comes T (n + 1) k S = some S' ∧ TX T S' ∧ (∀ j, j ≠ 11 → S' j = S j) ∧ (∀ p, p ≠ 4 → S' 11 p = S 11 p) := fun n k S q1 q2 hk c => by
    refine ⟨up S 11 (up (S 11) 4 (sS (S 11 4) 1 (nI T.length))), ?_, ⟨?_, fun j hj => ?_⟩, fun j hj => up_n hj, fun p hp => by rw [up_s, up_n hp]⟩
    · unfold F_comes
      rw [if_pos c, V_truncate q1 (by omega) c, okI_l, ob1_s]
    · rw [up_s, up_s, sS_1]
    · rw [up_s, up_s, sS_2]
      exact q2 j (by omega)
  intro n
  induction n with
  | zero => exact fun k S q1 q2 hk hn => tr 0 k S q1 q2 hk (by omega)
  | succ n ih =>
    intro k S q1 q2 hk hn
    by_cases c : T.length ≤ k
    · exact tr (n + 1) k S q1 q2 hk c
    · have e0 : up S 11 (up (S 11) 4 (sS (sA (S 11 4) 0 (put20 ((S 11 4).2 0) k (inn T k 20 0) (inn T k 20 1) (inn T k 20 2) (inn T k 20 3) (inn T k 20 4))) 1 (nI (k + 20)))) 11 4 = sS (sA (S 11 4) 0 (put20 ((S 11 4).2 0) k (inn T k 20 0) (inn T k 20 1) (inn T k 20 2) (inn T k 20 3) (inn T k 20 4))) 1 (nI (k + 20)) := by rw [up_s, up_s]
      obtain ⟨S', e, hT, h1, h2⟩ := ih (k + 20) (up S 11 (up (S 11) 4 (sS (sA (S 11 4) 0 (put20 ((S 11 4).2 0) k (inn T k 20 0) (inn T k 20 1) (inn T k 20 2) (inn T k 20 3) (inn T k 20 4))) 1 (nI (k + 20))))) (by rw [e0, sS_1]) (fun j hj => by
        rw [e0, sS_2, sA2s]
        by_cases c1 : j < k
        · rw [put20_lo c1]
          exact q2 j c1
        · have := put20_t h (f := (S 11 4).2 0) (n := k) (k := k) (i := j - k) (by omega)
          rwa [show k + (j - k) = j by omega] at this) (by omega) (by omega)
      refine ⟨S', ?_, hT, fun j hj => (h1 j hj).trans (up_n hj), fun p hp => (h2 p hp).trans (by rw [up_s, up_n hp])⟩
      show F_comes T (n + 1 + 1) k S = _
      unfold F_comes
      rw [if_neg c, V_append q1 (by omega), okI_l, ob1_s]
      exact e
theorem TX_CB {T : List Nat} (h : ∀ c ∈ T, c < 128) {S : SS} (hl : T.length ≤ 800) (hT : TX T S) : CB (fun k => T.getD k 0) T.length (S 11 4) := ⟨hl, fun k hk => ⟨Nat.lt_trans (getD_128 h k) (by decide), hT.2 k hk⟩, hT.1⟩
