/-! ===== a text of a hedge: its first line, its loop, load ===== -/
def QJ (B : Nat → Nat) (n p : Nat) (S0 : SS) (t0 : HV) (S : SS) (t : HV) : Prop := (p ≤ n ∧ CB B n (S 11 4) ∧ (S 11 4).1 2 = nI p ∧ (S 11 4).1 7 = 0 ∧ (S 11 4).1 8 = -1 ∧ fS S0 S) ∧ (MB B n t ∧ t.1 12 = nI p ∧ t.1 15 = 0 ∧ t.1 16 = -1 ∧ fm t0 t)
def HL : List (Nat × Nat) := [(4, 40), (1, 12), (0, 9), (1, 99), (1, 30), (1, 40)]
def cH (N : Nat) : List (Nat × Nat) → List Int32 → SS → Option (Bool × SS)
  | [], vs, S => (lt (F_X5_layOut (vs.getD 0 0) (vs.getD 1 0) (vs.getD 2 0) (vs.getD 3 0) (vs.getD 4 0) (vs.getD 5 0) (S 1)) fun g24 => (lt (up S 1 g24) fun S25 => (ob (F_X9_readSemicolon N (S25 11 4)) fun v26 g27 => (lt (up S25 11 (up (S25 11) 4 g27)) fun S28 => some (v26, S28)))))
  | q :: L, vs, S => ob (F_X9_readNumber N (nI q.1) (nI q.2) (S 11 4)) fun v g => (lt (up S 11 (up (S 11) 4 g)) fun S' => (if v = true then cH N L (vs ++ [(S' 11 4).1 6]) S' else some (false, S')))
theorem cH_eq {N : Nat} {S : SS} : F_X3_readHedge N 1 S = (ob1 (F_X9_readToken N (S 11 4)) fun g2 => (lt (up S 11 (up (S 11) 4 g2)) fun S3 => (ob1 (F_X9_isWord N 6 (S3 11 4)) fun v4 => (if v4 = true then cH N HL [] S3 else (lt2 (F_X9_refuse 1 (S3 11 4)) fun v29 g30 => (lt (up S3 11 (up (S3 11) 4 g30)) fun S31 => some (v29, S31))))))) := rfl
def layA (a0 a1 a2 a3 a4 a5 : Nat) : AS := ((fun i => if i = 0 then a0 else if i = 1 then a1 else if i = 2 then a2 else if i = 3 then a3 else if i = 4 then a4 else if i = 5 then a5 else 0), fun _ => 0, fun _ _ => 0, fun _ => [], fun _ => bare, [])
def qN (i : Nat) (v : Int32) (h : Nat → HV) : Nat → HV := up h 0 (sS (h 0) i v)
def qC (a : Nat) (h : Nat → HV) : Nat → HV := up h 0 (sA (h 0) a (rclr 40 ((h 0).2 a)))
def qG (g : Nat) (h : Nat → HV) : Nat → HV := up h g (F_X4_clear (h g))
def qP (h : Nat → HV) : Nat → HV := up h 3 (sS (h 3) 3 0)
theorem qN_0 {i : Nat} {v : Int32} {h : Nat → HV} : qN i v h 0 = sS (h 0) i v := up_s
theorem qN_n {i j : Nat} {v : Int32} {h : Nat → HV} (hj : j ≠ 0) : qN i v h j = h j := up_n hj
theorem qC_0 {a : Nat} {h : Nat → HV} : qC a h 0 = sA (h 0) a (rclr 40 ((h 0).2 a)) := up_s
theorem qC_n {a j : Nat} {h : Nat → HV} (hj : j ≠ 0) : qC a h j = h j := up_n hj
theorem qG_s {g : Nat} {h : Nat → HV} : qG g h g = F_X4_clear (h g) := up_s
theorem qG_n {g j : Nat} {h : Nat → HV} (hj : j ≠ g) : qG g h j = h j := up_n hj
theorem qP_s {h : Nat → HV} : qP h 3 = sS (h 3) 3 0 := up_s
theorem qP_n {j : Nat} {h : Nat → HV} (hj : j ≠ 3) : qP h j = h j := up_n hj
def lay5 (a1 a2 a3 a4 a5 a6 : Int32) (h : Nat → HV) : Nat → HV := qC 4 (qC 3 (qC 2 (qC 1 (qC 0 (qN 7 a2 (qN 6 0 (qN 5 a6 (qN 4 a5 (qN 3 a4 (qN 2 a3 (qN 1 a2 (qN 0 a1 h))))))))))))
theorem lay_e {a1 a2 a3 a4 a5 a6 : Int32} {h : Nat → HV} : F_X5_layOut a1 a2 a3 a4 a5 a6 h = qN 18 0 (qN 17 0 (qN 16 0 (qP (qG 2 (qG 1 (lay5 a1 a2 a3 a4 a5 a6 h)))))) := rfl
theorem C_layOut {a0 a1 a2 a3 a4 a5 : Nat} {h : Nat → HV} : RC (atA (layA a0 a1 a2 a3 a4 a5)) (F_X5_layOut (nI a0) (nI a1) (nI a2) (nI a3) (nI a4) (nI a5) h) := by
  rw [lay_e]
  have e0 : (qN 18 0 (qN 17 0 (qN 16 0 (qP (qG 2 (qG 1 (lay5 (nI a0) (nI a1) (nI a2) (nI a3) (nI a4) (nI a5) h)))))) 0 : HV) = sS (sS (sS (lay5 (nI a0) (nI a1) (nI a2) (nI a3) (nI a4) (nI a5) h 0) 16 0) 17 0) 18 0 := by
    rw [qN_0, qN_0, qN_0, qP_n (by decide), qG_n (by decide), qG_n (by decide)]
  refine ⟨⟨⟨fun i hi => ?_, fun i hi => ?_, fun a k ha hk => ?_⟩, fun g hg => ?_⟩, ?_⟩
  · rw [e0, sS_1n (by omega), sS_1n (by omega), sS_1n (by omega)]
    unfold lay5
    simp only [qC_0, qN_0, sA_1, sS_1d]
    show _ = nI (up (Hn (layA a0 a1 a2 a3 a4 a5)) 7 (Hn (layA a0 a1 a2 a3 a4 a5) 1) i)
    match i, hi with
    | 0, _ => rfl
    | 1, _ => rfl
    | 2, _ => rfl
    | 3, _ => rfl
    | 4, _ => rfl
    | 5, _ => rfl
    | 6, _ => rfl
    | 7, _ => rfl
  · rw [e0]
    match i, hi with
    | 0, _ => rfl
    | 1, _ => rfl
    | 2, _ => rfl
  · rw [e0, sS_2, sS_2, sS_2]
    have e : ∀ f : Nat → Int32, rclr 40 f k = 0 := fun f => if_pos hk
    unfold lay5
    simp only [qC_0]
    show _ = nI 0
    match a, ha with
    | 0, _ => rw [sA_2n (by decide), sA_2n (by decide), sA_2n (by decide), sA_2n (by decide), sA2s, e]; rfl
    | 1, _ => rw [sA_2n (by decide), sA_2n (by decide), sA_2n (by decide), sA2s, e]; rfl
    | 2, _ => rw [sA_2n (by decide), sA_2n (by decide), sA2s, e]; rfl
    | 3, _ => rw [sA_2n (by decide), sA2s, e]; rfl
    | 4, _ => rw [sA2s, e]; rfl
  · have hu : ∃ u : HV, (qN 18 0 (qN 17 0 (qN 16 0 (qP (qG 2 (qG 1 (lay5 (nI a0) (nI a1) (nI a2) (nI a3) (nI a4) (nI a5) h)))))) (1 + g) : HV) = F_X4_clear u := by
      match g, hg with
      | 0, _ => exact ⟨_, by rw [qN_n (by decide), qN_n (by decide), qN_n (by decide), qP_n (by decide), qG_n (by decide)]; exact qG_s⟩
      | 1, _ => exact ⟨_, by rw [qN_n (by decide), qN_n (by decide), qN_n (by decide), qP_n (by decide)]; exact qG_s⟩
    obtain ⟨u, hu⟩ := hu
    rw [hu]
    refine ⟨fun c hc => ?_, ⟨rfl, rfl, rfl⟩, rfl, fun k hk => absurd hk (Nat.not_lt_zero k), fun k x hk => absurd hk (Nat.not_lt_zero k)⟩
    match c, hc with
    | 0, _ => rfl
    | 1, _ => rfl
    | 2, _ => rfl
    | 3, _ => rfl
  · rw [qN_n (by decide), qN_n (by decide), qN_n (by decide), qP_s]
    exact ⟨sS_1, fun k hk => absurd hk (Nat.not_lt_zero k)⟩
theorem Inv_lay {a0 a1 a2 a3 a4 a5 T : Nat} (hT : T < 2 ^ 20) (h0 : 4 ≤ a0 ∧ a0 ≤ 40) (h1 : 1 ≤ a1 ∧ a1 ≤ 12) (h2 : a2 ≤ 9) (h3 : 1 ≤ a3 ∧ a3 ≤ 99) (h4 : 1 ≤ a4 ∧ a4 ≤ 30) (h5 : 1 ≤ a5 ∧ a5 ≤ 40) : Inv (layA a0 a1 a2 a3 a4 a5) T := by
  refine ⟨hT, ⟨h0, h1, h2, h3, h4, h5, Nat.zero_le _, Nat.zero_le _⟩, fun k => ⟨fun _ => ⟨rfl, rfl, rfl⟩, fun _ => ⟨rfl, rfl⟩, fun q => absurd q (Nat.lt_irrefl 0), Nat.zero_le _, Nat.zero_lt_succ 1, Nat.zero_le _, Nat.zero_le _, Nat.zero_le _⟩, ?_, fun g hg => ⟨Nat.zero_le _, fun w hw => absurd hw List.not_mem_nil⟩, fun g hg => okPr_bare, ⟨fun m hm => ?_, fun k hk => absurd hk (Nat.lt_irrefl 0), ?_⟩⟩
  · have e : cnt (nstB (Hr (layA a0 a1 a2 a3 a4 a5))) (Hn (layA a0 a1 a2 a3 a4 a5) 0) = 0 := cnt_no (fun k _ => rfl)
    rw [e]
    exact Nat.zero_le _
  · cases (show m ∈ ([] : List Msg) from hm)
  · exact List.Pairwise.nil
theorem RM_lay {a0 a1 a2 a3 a4 a5 : Nat} {s : Nat → Int32} (e0 : s 0 = nI a0) (e1 : s 1 = nI a1) (e2 : s 2 = nI a2) (e3 : s 3 = nI a3) (e4 : s 4 = nI a4) (e5 : s 5 = nI a5) (ez : ∀ k, 6 ≤ k → k < 760 → s k = 0) : RM (layA a0 a1 a2 a3 a4 a5) s := by
  refine ⟨fun i hi => ?_, ⟨fun i hi => ez _ (by omega) (by omega), fun g c hg hc => ez _ (by omega) (by omega)⟩, ⟨ez 11 (by omega) (by omega), fun g hg => ez _ (by omega) (by omega)⟩, fun a k ha hk => ?_, fun g k hg hk => absurd hk (Nat.not_lt_zero k), fun g hg => ⟨ez _ (by omega) (by omega), fun h => absurd rfl h⟩, fun k hk => absurd hk (Nat.not_lt_zero k)⟩
  · match i, hi with
    | 0, _ => exact e0
    | 1, _ => exact e1
    | 2, _ => exact e2
    | 3, _ => exact e3
    | 4, _ => exact e4
    | 5, _ => exact e5
    | 6, _ => exact ez 6 (by omega) (by omega)
    | 7, _ => exact ez 7 (by omega) (by omega)
  · rw [ez _ (by omega) (by omega), mLet_no (R := Hr (layA a0 a1 a2 a3 a4 a5)) rfl ha]
    split <;> rfl
theorem mapI {w : List Nat} {i : Nat} (h : i < w.length) : (w.map nI).getD i 0 = nI (w.getD i 0) := by
  rw [List.getD_eq_getElem?_getD, List.getD_eq_getElem?_getD, List.getElem?_map, List.getElem?_eq_getElem h]
  rfl
theorem HL_drop {k : Nat} (h : k < 6) : HL.drop k = HL.getD k (0, 0) :: HL.drop (k + 1) := by
  match k, h with
  | 0, _ => rfl
  | 1, _ => rfl
  | 2, _ => rfl
  | 3, _ => rfl
  | 4, _ => rfl
  | 5, _ => rfl
theorem HL_lt (k : Nat) : (HL.getD k (0, 0)).1 < 2 ^ 20 ∧ (HL.getD k (0, 0)).2 < 2 ^ 20 := by
  by_cases h : k < 6
  · match k, h with
    | 0, _ => decide
    | 1, _ => decide
    | 2, _ => decide
    | 3, _ => decide
    | 4, _ => decide
    | 5, _ => decide
  · rw [gD_no (show HL.length ≤ k by show 6 ≤ k; omega)]
    decide
def PD (B : Nat → Nat) (n T : Nat) (S0 : SS) (t0 : HV) (S : SS) (t : HV) : Prop := ∃ p A, p ≤ n ∧ n ≤ tS B n p ∧ ((S 11 4).1 7 = 0 ∧ (S 11 4).1 8 = -1 ∧ RC (atA A) (S 1) ∧ fS S0 S) ∧ (MB B n t ∧ t.1 12 = nI p ∧ t.1 15 = 0 ∧ t.1 16 = -1 ∧ RM A (t.2 0) ∧ fm t0 t) ∧ Inv A T
theorem PD_of {B : Nat → Nat} {n p T : Nat} {A : AS} {S0 S : SS} {t0 t g' : HV} (h : PJ B n p A T S0 t0 S t) (k : CK B n p (S 11 4) g') (hn : n ≤ tS B n p) : PD B n T S0 t0 (sT S g') t := ⟨p, A, h.1.1, hn, ⟨by rw [sT_4, k.2.2.2.2.2.2 7 (by decide)]; exact h.1.2.2.2.1, by rw [sT_4, k.2.2.2.2.2.2 8 (by decide)]; exact h.1.2.2.2.2.1, by rw [sT_o (by decide)]; exact h.1.2.2.2.2.2.1, fS_T h.1.2.2.2.2.2.2⟩, h.2.1, h.2.2.1⟩
