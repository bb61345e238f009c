/-! ===== the work by hand ===== -/
def opPl (A : AS) (k c : Nat) : AS := act (opTw A k c (Hn A 6 % 2) 1)
def opRem (A : AS) (k : Nat) : AS := act (Sc (Sr A (rowS (Hr A) 2 k 0)) (up (Hc A) 2 (Hc A 2 + 1)))
def trmV (v c : Nat) : Nat := if c < v then v - c else 1
def opTrm (A : AS) (k c : Nat) : AS := act (Sr A (rowS (Hr A) 2 k (trmV (Hr A 2 k) c)))
def opNst (A : AS) (k d : Nat) : AS := Sr A (rowS (Hr A) 3 k d)
def opQue (A : AS) (g : Nat) (w : List Nat) : AS := Sc (Sq A (up (Hq A) g (Hq A g ++ [w]))) (up (Hc A) (10 + g) (Hc A (10 + g) + 1))
def opCan (A : AS) (g m : Nat) : AS := Sc (Sq A (up (Hq A) g ((Hq A g).eraseIdx m))) (up (Hc A) (16 + g) (Hc A (16 + g) + 1))
theorem rowS_at {R : Nat → Nat → Nat} {a k v : Nat} : rowS R a k v a k = v := if_pos ⟨rfl, rfl⟩
theorem rowS_n {R : Nat → Nat → Nat} {a k v b j : Nat} (h : ¬ (b = a ∧ j = k)) : rowS R a k v b j = R b j := if_neg h
theorem rowS_a {R : Nat → Nat → Nat} {a k v b : Nat} (h : b ≠ a) (j : Nat) : rowS R a k v b j = R b j := if_neg (fun q => h q.1)
theorem rowS_k {R : Nat → Nat → Nat} {a k v j : Nat} (h : j ≠ k) (b : Nat) : rowS R a k v b j = R b j := if_neg (fun q => h q.2)
/-- a change of one length, of a twig that no message waits for -/
theorem Inv_len {A : AS} {T k v : Nat} (hI : Inv A T) (hk : k < Hn A 0) (hv : v ≤ Hr A 2 k) : Inv (Sr A (rowS (Hr A) 2 k v)) T := by
  have bI := hI
  obtain ⟨hT, ⟨⟨b0, b0'⟩, ⟨b1, b1'⟩, b2, ⟨b3, b3'⟩, ⟨b4, b4'⟩, ⟨b5, b5'⟩, b6, b7⟩, hRw, hNs, hQu, hPr, hVm⟩ := id hI
  refine ⟨hT, bI.2.1, fun j => ?_, ?_, hQu, fun g hg => ?_, vM_4 hVm (fun j => show rowS (Hr A) 2 k v 4 j = Hr A 4 j from rowS_a (by decide) j)⟩
  · obtain ⟨h1, h2, h3, h4, h5, h6, h7, h8⟩ := hRw j
    show (_ → rowS (Hr A) 2 k v 2 j = 0 ∧ rowS (Hr A) 2 k v 3 j = 0 ∧ rowS (Hr A) 2 k v 4 j = 0) ∧ (_ → rowS (Hr A) 2 k v 0 j = 0 ∧ rowS (Hr A) 2 k v 1 j = 0) ∧ (0 < rowS (Hr A) 2 k v 2 j → 97 ≤ rowS (Hr A) 2 k v 0 j) ∧ rowS (Hr A) 2 k v 0 j ≤ 122 ∧ rowS (Hr A) 2 k v 1 j < 2 ∧ rowS (Hr A) 2 k v 2 j ≤ 99 + 9 * Hn A 6 ∧ rowS (Hr A) 2 k v 3 j ≤ 30 ∧ rowS (Hr A) 2 k v 4 j ≤ 122
    rw [rowS_a (b := 3) (by decide), rowS_a (b := 4) (by decide), rowS_a (b := 0) (by decide), rowS_a (b := 1) (by decide)]
    have e2 : rowS (Hr A) 2 k v 2 j ≤ Hr A 2 j := by
      by_cases e : j = k
      · subst e; rw [rowS_at]; exact hv
      · rw [rowS_k e]; exact Nat.le_refl _
    exact ⟨fun q => by have := h1 q; omega, h2, fun q => h3 (by omega), h4, h5, by omega, h7, h8⟩
  · refine Nat.le_trans (Nat.le_of_eq (cnt_congr _ (fun j _ => ?_))) hNs
    show decide (0 < rowS (Hr A) 2 k v 3 j) = decide (0 < Hr A 3 j)
    rw [rowS_a (by decide)]
  · refine ⟨(hPr g hg).1, fun h => ⟨((hPr g hg).2 h).1, fun x hx hx2 => ?_⟩⟩
    have h0 := ((hPr g hg).2 h).2 x hx hx2
    show rowS (Hr A) 2 k v 2 ((Hp A g).2.1 + x) = 0
    by_cases e : (Hp A g).2.1 + x = k
    · rw [e] at h0 ⊢
      rw [rowS_at]
      omega
    · rw [rowS_k e]; exact h0
theorem Inv_c {A : AS} {T : Nat} (hI : Inv A T) (c : Nat → Int32) : Inv (Sc A c) T := hI
theorem Inv_pl2 {A : AS} {T k c : Nat} (hI : Inv A T) (hk : k < Hn A 0) (hc : 97 ≤ c) (hc2 : c ≤ 122) (h4 : Hr A 4 k = 0) : Inv (opPl A k c) T := by
  have bI := hI
  obtain ⟨hT, ⟨⟨b0, b0'⟩, ⟨b1, b1'⟩, b2, ⟨b3, b3'⟩, ⟨b4, b4'⟩, ⟨b5, b5'⟩, b6, b7⟩, hRw, hNs, hQu, hPr, hVm⟩ := id hI
  refine Inv_act (Inv_tw (B := opTw A k c (Hn A 6 % 2) 1) bI hk hc hc2 (Nat.mod_lt _ (by decide)) (by decide) rfl rfl hQu (fun g hg => ?_) (List.Perm.refl _))
  refine ⟨(hPr g hg).1, fun h => ⟨((hPr g hg).2 h).1, fun x hx hx2 => ?_⟩⟩
  have h0 := ((hPr g hg).2 h).2 x hx hx2
  obtain ⟨m1, m2, m3, m4⟩ := Inv_m bI (msgs_p hg h)
  have h5 := m4 x hx2
  have h6 := (m2.2.2 x hx2).1
  dsimp only at h5 h6
  show twR (Hr A) k c (Hn A 6 % 2) 1 2 ((Hp A g).2.1 + x) = 0
  rw [twR_2n (fun e => by rw [e] at h5; omega)]
  exact h0
theorem Inv_rem {A : AS} {T k : Nat} (hI : Inv A T) (hk : k < Hn A 0) : Inv (opRem A k) T := Inv_act (Inv_c (Inv_len hI hk (Nat.zero_le _)) _)
theorem trmV_le {v c : Nat} (hv : 0 < v) : trmV v c ≤ v := by
  unfold trmV
  split <;> omega
theorem trmV_pos {v c : Nat} : 0 < trmV v c := by
  unfold trmV
  split <;> omega
theorem Inv_trm {A : AS} {T k c : Nat} (hI : Inv A T) (hk : k < Hn A 0) (h2 : 0 < Hr A 2 k) : Inv (opTrm A k c) T := Inv_act (Inv_len hI hk (trmV_le h2))
theorem cnt_set {p q : Nat → Bool} {k : Nat} (h : ∀ j, j ≠ k → q j = p j) : ∀ n, cnt q n ≤ cnt p n + 1 := by
  have key : ∀ n, n ≤ k → cnt q n = cnt p n := fun n hn => cnt_congr n (fun j hj => h j (by omega))
  intro n
  induction n with
  | zero => exact Nat.zero_le _
  | succ n ih =>
    rw [cnt_s, cnt_s]
    by_cases e : n = k
    · subst e
      rw [key n (Nat.le_refl _)]
      split <;> split <;> omega
    · rw [h n e]
      omega
theorem Inv_nst {A : AS} {T k d : Nat} (hI : Inv A T) (hk : k < Hn A 0) (hd : d ≤ 30) (h6 : cnt (nstB (Hr A)) (Hn A 0) < 6) : Inv (opNst A k d) T := by
  have bI := hI
  obtain ⟨hT, ⟨⟨b0, b0'⟩, ⟨b1, b1'⟩, b2, ⟨b3, b3'⟩, ⟨b4, b4'⟩, ⟨b5, b5'⟩, b6, b7⟩, hRw, hNs, hQu, hPr, hVm⟩ := id hI
  refine ⟨hT, bI.2.1, fun j => ?_, ?_, hQu, fun g hg => ?_, vM_4 hVm (fun j => show rowS (Hr A) 3 k d 4 j = Hr A 4 j from rowS_a (by decide) j)⟩
  · obtain ⟨h1, h2, h3, h4, h5, h6, h7, h8⟩ := hRw j
    show (_ → rowS (Hr A) 3 k d 2 j = 0 ∧ rowS (Hr A) 3 k d 3 j = 0 ∧ rowS (Hr A) 3 k d 4 j = 0) ∧ (_ → rowS (Hr A) 3 k d 0 j = 0 ∧ rowS (Hr A) 3 k d 1 j = 0) ∧ (0 < rowS (Hr A) 3 k d 2 j → 97 ≤ rowS (Hr A) 3 k d 0 j) ∧ rowS (Hr A) 3 k d 0 j ≤ 122 ∧ rowS (Hr A) 3 k d 1 j < 2 ∧ rowS (Hr A) 3 k d 2 j ≤ 99 + 9 * Hn A 6 ∧ rowS (Hr A) 3 k d 3 j ≤ 30 ∧ rowS (Hr A) 3 k d 4 j ≤ 122
    rw [rowS_a (b := 2) (by decide), rowS_a (b := 4) (by decide), rowS_a (b := 0) (by decide), rowS_a (b := 1) (by decide)]
    by_cases e : j = k
    · subst e
      rw [rowS_at]
      exact ⟨fun q => absurd (show Hn A 0 ≤ j from q) (by omega), h2, h3, h4, h5, h6, hd, h8⟩
    · rw [rowS_k e]
      exact ⟨h1, h2, h3, h4, h5, h6, h7, h8⟩
  · have := cnt_set (p := nstB (Hr A)) (q := nstB (rowS (Hr A) 3 k d)) (k := k) (fun j hj => by unfold nstB; rw [rowS_k hj]) (Hn A 0)
    show cnt (nstB (rowS (Hr A) 3 k d)) (Hn A 0) ≤ 6
    omega
  · refine ⟨(hPr g hg).1, fun h => ⟨((hPr g hg).2 h).1, fun x hx hx2 => ?_⟩⟩
    show rowS (Hr A) 3 k d 2 _ = 0
    rw [rowS_a (by decide)]
    exact ((hPr g hg).2 h).2 x hx hx2
theorem Inv_q {A : AS} {T : Nat} {q : Nat → List (List Nat)} {c : Nat → Int32} (hI : Inv A T) (hq : okQu q) : Inv (Sc (Sq A q) c) T := by
  obtain ⟨h1, h2, h3, h4, h5, h6, h7⟩ := hI
  exact ⟨h1, h2, h3, h4, hq, h6, h7⟩
theorem okQu_add {q : Nat → List (List Nat)} {g : Nat} {w : List Nat} (hq : okQu q) (h8 : (q g).length < 8) (hw : okW w) : okQu (up q g (q g ++ [w])) := by
  intro g' hg'
  by_cases e : g' = g
  · subst e
    rw [up_s, List.length_append]
    refine ⟨by show _ + 1 ≤ 8; omega, fun w' hw' => ?_⟩
    rcases List.mem_append.mp hw' with h | h
    · exact (hq _ hg').2 w' h
    · rw [List.mem_singleton.mp h]; exact hw
  · rw [up_n e]; exact hq g' hg'
theorem okQu_del {q : Nat → List (List Nat)} {g m : Nat} (hq : okQu q) : okQu (up q g ((q g).eraseIdx m)) := by
  intro g' hg'
  by_cases e : g' = g
  · subst e
    rw [up_s]
    refine ⟨?_, fun w hw => (hq g' hg').2 w (List.mem_of_mem_eraseIdx hw)⟩
    rw [List.length_eraseIdx]
    have := (hq g' hg').1
    split <;> omega
  · rw [up_n e]; exact hq g' hg'
theorem Inv_que {A : AS} {T g : Nat} {w : List Nat} (hI : Inv A T) (h8 : (Hq A g).length < 8) (hw : okW w) : Inv (opQue A g w) T := Inv_q hI (okQu_add hI.2.2.2.2.1 h8 hw)
theorem Inv_can {A : AS} {T g m : Nat} (hI : Inv A T) : Inv (opCan A g m) T := Inv_q hI (okQu_del hI.2.2.2.2.1)
/-! the program's side -/
theorem RC_act {A : AS} {h : Nat → HV} (hH : RC A h) : RC (act A) (up h 0 (sS (h 0) 7 (nI (Hn A 7 - 1)))) := by
  obtain ⟨⟨⟨h1, h2, h3⟩, h4⟩, h5⟩ := hH
  refine ⟨⟨?_, fun g hg => ?_⟩, ?_⟩
  · rw [up_s]
    exact ⟨RHn_set h1 _, RHc_oth h2 _ (by decide), h3⟩
  · rw [up_n (by omega)]; exact h4 g hg
  · rw [up_n (by omega)]; exact h5
theorem C_plant {A : AS} {T : Nat} {h : Nat → HV} (hH : RC A h) (hI : Inv A T) {k c : Nat} (hk : k < Hn A 0) (h7 : 0 < Hn A 7) : RC (opPl A k c) (F_X5_plantByHand (nI k) (nI c) h) := by
  have bI := hI
  obtain ⟨hT, ⟨⟨b0, b0'⟩, ⟨b1, b1'⟩, b2, ⟨b3, b3'⟩, ⟨b4, b4'⟩, ⟨b5, b5'⟩, b6, b7⟩, hRw, hNs, hQu, hPr, hVm⟩ := id hI
  obtain ⟨r1, f1⟩ := C_placeTwig hH.1 (k := k) (c := c) (o := Hn A 6 % 2) (l := 1) (by omega)
  unfold F_X5_plantByHand
  rw [C_active hH.1.1 bI, lt_d, lt_d, L1]
  generalize F_X5_placeTwig (nI k) (nI c) (nI (Hn A 6 % 2)) (nI 1) h = h2 at r1 f1
  have r2 : RC (opTw A k c (Hn A 6 % 2) 1) h2 := ⟨r1, by rw [f1 3 (by decide)]; exact hH.2⟩
  have e7 : (h2 0).1 7 = nI (Hn A 7) := r1.1.1 7 (by decide)
  rw [e7, Z_sub (by omega)]
  exact RC_act r2
theorem C_rem {A : AS} {T : Nat} {h : Nat → HV} (hH : RC A h) (hI : Inv A T) {k : Nat} (hk : k < Hn A 0) (h7 : 0 < Hn A 7) : RC (opRem A k) (F_X5_removeByHand (nI k) h) := by
  have bI := hI
  obtain ⟨hT, ⟨⟨b0, b0'⟩, ⟨b1, b1'⟩, b2, ⟨b3, b3'⟩, ⟨b4, b4'⟩, ⟨b5, b5'⟩, b6, b7⟩, hRw, hNs, hQu, hPr, hVm⟩ := id hI
  obtain ⟨⟨⟨h1, h2, h3⟩, h4⟩, h5⟩ := hH
  unfold F_X5_removeByHand
  simp only [lt_d, up_s, up_up]
  have e7 : ∀ r v, (sS (sA (h 0) 2 r) 18 v).1 7 = nI (Hn A 7) := fun r v => by rw [sS_1n (by decide)]; exact h1 7 (by decide)
  have e18 : ∀ r, (sA (h 0) 2 r).1 18 = Hc A 2 := fun r => h2 2 (by decide)
  rw [e7, e18, L1, L0, Z_sub (by omega)]
  refine ⟨⟨?_, fun g hg => ?_⟩, ?_⟩
  · rw [up_s]
    exact ⟨RHn_set (RHn_oth (RHn_1 h1 rfl) _ (by decide)) _, RHc_oth (RHc_set (i := 2) (RHc_1 h2 rfl) _) _ (by decide), RHr_2 (RHr_set h3 0 (by omega)) rfl⟩
  · rw [up_n (by omega)]
    obtain ⟨q1, q2, q3⟩ := h4 g hg
    exact ⟨RGc_up q1 _ (fun q hq => by omega), q2, q3⟩
  · rw [up_n (by omega)]; exact h5
theorem Z_trm {v c : Nat} (hv : v < 2 ^ 24) (hc : c ≤ 99) : ((1 : Int32) ≤ nI v - nI c) = (c < v) := by
  apply propext
  by_cases h : c < v
  · rw [Z_sub (by omega), L1, Z_le (by omega) (by omega)]
    omega
  · constructor
    · intro q
      exfalso
      have e3 : (1 : Int32).toInt = 1 := by decide
      rw [Int32.le_iff_toInt_le, Int32.toInt_sub, nI_toInt (by omega), nI_toInt (by omega), e3, Int.bmod_eq_of_le (by omega) (by omega)] at q
      omega
    · intro q; exact absurd q h
theorem C_trm {A : AS} {T : Nat} {h : Nat → HV} (hH : RC A h) (hI : Inv A T) {k c : Nat} (hk : k < Hn A 0) (hc : c ≤ 99) (h7 : 0 < Hn A 7) : RC (opTrm A k c) (F_X5_trimByHand (nI k) (nI c) h) := by
  have bI := hI
  obtain ⟨hT, ⟨⟨b0, b0'⟩, ⟨b1, b1'⟩, b2, ⟨b3, b3'⟩, ⟨b4, b4'⟩, ⟨b5, b5'⟩, b6, b7⟩, hRw, hNs, hQu, hPr, hVm⟩ := id hI
  obtain ⟨⟨⟨h1, h2, h3⟩, h4⟩, h5⟩ := hH
  have b2 := Inv_b bI k (a := 2) (by decide)
  have e7 : ∀ r, (sA (h 0) 2 r).1 7 = nI (Hn A 7) := fun r => h1 7 (by decide)
  have hfin : ∀ v, v = trmV (Hr A 2 k) c → RC (opTrm A k c) (up h 0 (sS (sA (h 0) 2 (rset 40 ((h 0).2 2) (nI k) (nI v))) 7 (nI (Hn A 7 - 1)))) := fun v hv => by
    subst hv
    refine ⟨⟨?_, fun g hg => ?_⟩, ?_⟩
    · rw [up_s]
      exact ⟨RHn_set (RHn_1 h1 rfl) _, RHc_oth (RHc_1 h2 rfl) _ (by decide), RHr_2 (RHr_set h3 _ (by omega)) rfl⟩
    · rw [up_n (by omega)]; exact h4 g hg
    · rw [up_n (by omega)]; exact h5
  unfold F_X5_trimByHand
  simp only [lt_d, up_s, up_up]
  rw [e7, e7, RHr_get h3 (by decide) (by omega)]
  by_cases c1 : c < Hr A 2 k
  · rw [if_pos (by rw [Z_trm b2 hc]; exact c1), Z_sub (by omega), L1, Z_sub (by omega)]
    exact hfin _ (by unfold trmV; rw [if_pos c1])
  · rw [if_neg (by rw [Z_trm b2 hc]; exact c1), L1, Z_sub (by omega)]
    exact hfin 1 (by unfold trmV; rw [if_neg c1])
theorem C_nst {A : AS} {T : Nat} {h : Nat → HV} (hH : RC A h) (hI : Inv A T) {k d : Nat} (hk : k < Hn A 0) : RC (opNst A k d) (F_X5_placeNest (nI k) (nI d) h) := by
  have bI := hI
  obtain ⟨hT, ⟨⟨b0, b0'⟩, ⟨b1, b1'⟩, b2, ⟨b3, b3'⟩, ⟨b4, b4'⟩, ⟨b5, b5'⟩, b6, b7⟩, hRw, hNs, hQu, hPr, hVm⟩ := id hI
  obtain ⟨⟨⟨h1, h2, h3⟩, h4⟩, h5⟩ := hH
  have e : F_X5_placeNest (nI k) (nI d) h = up h 0 (sA (h 0) 3 (rset 40 ((h 0).2 3) (nI k) (nI d))) := rfl
  rw [e]
  refine ⟨⟨?_, fun g hg => ?_⟩, ?_⟩
  · rw [up_s]
    exact ⟨RHn_1 h1 rfl, RHc_1 h2 rfl, RHr_set h3 d (by omega)⟩
  · rw [up_n (by omega)]; exact h4 g hg
  · rw [up_n (by omega)]; exact h5
theorem C_que {A : AS} {T : Nat} {h : Nat → HV} (hH : RC A h) (hI : Inv A T) {g : Nat} (hg : g < 2) (h8 : (Hq A g).length < 8) {src : Nat → Int32} {n2 a : Nat} {w : List Nat} (hn2 : n2 < 2 ^ 20) (ha : a + w.length ≤ n2) (hl : w.length ≤ 12) (hs : ∀ x, x < w.length → src (a + x) = nI (w.getD x 0)) : RC (opQue A g w) (F_X5_receive (nI g) src n2 (nI a) (nI w.length) h) := by
  obtain ⟨⟨h0, h4⟩, h5⟩ := hH
  obtain ⟨q1, q2, q3⟩ := h4 g hg
  have hen := C_enqueue q3 h8 (fun k hk => (Inv_qw hI hg hk).2.1) hn2 ha hl hs
  unfold F_X5_receive
  simp only [lt_d, Z_gsel hg, up_s, up_up]
  generalize F_X4_enqueue src n2 (nI a) (nI w.length) (h (1 + g)) = u at hen
  have e6 : u.1 6 = Hc A (10 + g) := (hen.2 6 (by decide)).trans (q1 0 (by decide))
  rw [e6]
  refine ⟨⟨?_, fun g' hg' => ?_⟩, ?_⟩
  · rw [up_n (by omega)]
    exact ⟨h0.1, RHc_up h0.2.1 _ (by omega), h0.2.2⟩
  · by_cases e : g' = g
    · subst e
      rw [up_s]
      refine ⟨?_, RGp_1 q2 (fun i i1 i2 => by rw [sS_1n (by omega)]; exact hen.2 i (by omega)), ?_⟩
      · exact RGc_set (i := 0) (RGc_1 q1 (fun i i1 i2 => hen.2 i (by omega))) _
      · show RGq (up (Hq A) g' _ g') _
        rw [up_s]
        exact RGq_1 hen.1 (sS_1n (by decide)) rfl
    · rw [up_n (by omega)]
      obtain ⟨d1, d2, d3⟩ := h4 g' hg'
      refine ⟨RGc_up d1 _ (fun q hq => by omega), d2, ?_⟩
      show RGq (up (Hq A) g _ g') _
      rw [up_n e]
      exact d3
  · rw [up_n (by omega)]; exact h5
theorem C_can {A : AS} {T : Nat} {h : Nat → HV} (hH : RC A h) (hI : Inv A T) {g m : Nat} (hg : g < 2) (hm : m < (Hq A g).length) : RC (opCan A g m) (up h (1 + g) (F_X4_cancel (nI m) (h (1 + g)))) := by
  obtain ⟨⟨h0, h4⟩, h5⟩ := hH
  obtain ⟨q1, q2, q3⟩ := h4 g hg
  have hde := C_dequeue q3 hm (hI.2.2.2.2.1 g hg).1 (fun k hk => (Inv_qw hI hg hk).2.1)
  unfold F_X4_cancel
  simp only [lt_d]
  generalize F_X4_dequeue (nI m) (h (1 + g)) = u at hde
  have e9 : u.1 9 = Hc A (16 + g) := (hde.2 9 (by decide)).trans (q1 3 (by decide))
  rw [e9]
  refine ⟨⟨?_, fun g' hg' => ?_⟩, ?_⟩
  · rw [up_n (by omega)]
    exact ⟨h0.1, RHc_up h0.2.1 _ (by omega), h0.2.2⟩
  · by_cases e : g' = g
    · subst e
      rw [up_s]
      refine ⟨?_, RGp_1 q2 (fun i i1 i2 => by rw [sS_1n (by omega)]; exact hde.2 i (by omega)), ?_⟩
      · exact RGc_set (i := 3) (RGc_1 q1 (fun i i1 i2 => hde.2 i (by omega))) _
      · show RGq (up (Hq A) g' _ g') _
        rw [up_s]
        exact RGq_1 hde.1 (sS_1n (by decide)) rfl
    · rw [up_n (by omega)]
      obtain ⟨d1, d2, d3⟩ := h4 g' hg'
      refine ⟨RGc_up d1 _ (fun q hq => by omega), d2, ?_⟩
      show RGq (up (Hq A) g _ g') _
      rw [up_n e]
      exact d3
  · rw [up_n (by omega)]; exact h5
theorem C_lim {A : AS} {h : Nat → HV} (hH : RC A h) (l : Nat) : RC (limA A l) (up h 0 (sS (h 0) 1 (nI l))) := by
  obtain ⟨⟨⟨q1, q2, q3⟩, q4⟩, q5⟩ := hH
  refine ⟨⟨?_, fun g hg => ?_⟩, ?_⟩
  · rw [up_s]
    exact ⟨RHn_set q1 l, RHc_oth q2 _ (by decide), q3⟩
  · rw [up_n (by omega)]; exact q4 g hg
  · rw [up_n (by omega)]; exact q5
/-! the other side -/
theorem RM_act2 {A : AS} {T : Nat} {s : Nat → Int32} (hM : RM A s) (hI : Inv A T) : RM (act A) (upd s 7 (nI (Hn A 7 - 1))) := RM_act hM hI.2.2.2.2.1 (fun g hg => (Inv_pl hI hg).1) (RMl_ok hI)
def nstOk (A : AS) (k : Nat) : Bool := decide (cnt (nstB (Hr A)) (Hn A 0) < 6 ∧ Hr A 3 k = 0)
theorem C_mayNest {A : AS} {T : Nat} {h : Nat → HV} (hH : RH A (h 0)) (hI : Inv A T) {k N : Nat} (hk : k < Hn A 0) (hN : 40 < N) : F_X5_mayNest N (nI k) h = some (nstOk A k) := by
  have bI := hI
  obtain ⟨hT, ⟨⟨b0, b0'⟩, ⟨b1, b1'⟩, b2, ⟨b3, b3'⟩, ⟨b4, b4'⟩, ⟨b5, b5'⟩, b6, b7⟩, hRw, hNs, hQu, hPr, hVm⟩ := id hI
  have hcl := cnt_le (nstB (Hr A)) (Hn A 0)
  have q3 := Inv_b bI k (a := 3) (by decide)
  unfold F_X5_mayNest nstOk
  rw [C_countNests hH bI hN, ob1_s, C_row hH.2.2 bI (by decide) (by omega)]
  simp (disch := omega) only [L6, L0, Z_le, Z_eq]
  by_cases c1 : cnt (nstB (Hr A)) (Hn A 0) < 6
  · rw [if_neg (by omega)]
    by_cases c2 : Hr A 3 k = 0
    · rw [if_pos c2, decide_eq_true ⟨c1, c2⟩]
    · rw [if_neg c2, decide_eq_false (fun q => c2 q.2)]
  · rw [if_pos (by omega), decide_eq_false (fun q => c1 q.1)]
