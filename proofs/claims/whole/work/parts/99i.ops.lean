/-! ===== the work by hand ===== -/
def opPl (A : AS) (k c : Nat) : AS := act (opTw A k c (Hn A 6 % 2) 1)
def opRem (A : AS) (k : Nat) : AS := act (Sc (Sr A (rowS (Hr A) 2 k 0)) (up (Hc A) 2 (Hc A 2 + 1)))
def trmV (v c : Nat) : Nat := if c < v then v - c else 1
def opTrm (A : AS) (k c : Nat) : AS := act (Sr A (rowS (Hr A) 2 k (trmV (Hr A 2 k) c)))
def opNst (A : AS) (k d : Nat) : AS := Sr A (rowS (Hr A) 3 k d)
def opQue (A : AS) (g : Nat) (w : List Nat) : AS := Sc (Sq A (up (Hq A) g (Hq A g ++ [w]))) (up (Hc A) (10 + g) (Hc A (10 + g) + 1))
def opCan (A : AS) (g m : Nat) : AS := Sc (Sq A (up (Hq A) g ((Hq A g).eraseIdx m))) (up (Hc A) (16 + g) (Hc A (16 + g) + 1))
theorem rowS_at {R : Nat → Nat → Nat} {a k v : Nat} : rowS R a k v a k = v := if_pos ⟨rfl, rfl⟩
theorem rowS_n {R : Nat → Nat → Nat} {a k v b j : Nat} (h : ¬ (b = a ∧ j = k)) : rowS R a k v b j = R b j := if_neg h
theorem rowS_a {R : Nat → Nat → Nat} {a k v b : Nat} (h : b ≠ a) (j : Nat) : rowS R a k v b j = R b j := if_neg (fun q => h q.1)
theorem rowS_k {R : Nat → Nat → Nat} {a k v j : Nat} (h : j ≠ k) (b : Nat) : rowS R a k v b j = R b j := if_neg (fun q => h q.2)
/-- a change of one length, of a twig that no message waits for -/
theorem Inv_len {A : AS} {T k v : Nat} (hI : Inv A T) (hk : k < Hn A 0) (hv : v ≤ Hr A 2 k) : Inv (Sr A (rowS (Hr A) 2 k v)) T := by
  have bI := hI
  obtain ⟨hT, ⟨⟨b0, b0'⟩, ⟨b1, b1'⟩, b2, ⟨b3, b3'⟩, ⟨b4, b4'⟩, ⟨b5, b5'⟩, b6, b7⟩, hRw, hNs, hQu, hPr, hVm⟩ := id hI
  refine ⟨hT, bI.2.1, fun j => ?_, ?_, hQu, fun g hg => ?_, vM_4 hVm (fun j => show rowS (Hr A) 2 k v 4 j = Hr A 4 j from rowS_a (by decide) j)⟩
  · obtain ⟨h1, h2, h3, h4, h5, h6, h7, h8⟩ := hRw j
    show (_ → rowS (Hr A) 2 k v 2 j = 0 ∧ rowS (Hr A) 2 k v 3 j = 0 ∧ rowS (Hr A) 2 k v 4 j = 0) ∧ (_ → rowS (Hr A) 2 k v 0 j = 0 ∧ rowS (Hr A) 2 k v 1 j = 0) ∧ (0 < rowS (Hr A) 2 k v 2 j → 97 ≤ rowS (Hr A) 2 k v 0 j) ∧ rowS (Hr A) 2 k v 0 j ≤ 122 ∧ rowS (Hr A) 2 k v 1 j < 2 ∧ rowS (Hr A) 2 k v 2 j ≤ 99 + 9 * Hn A 6 ∧ rowS (Hr A) 2 k v 3 j ≤ 30 ∧ rowS (Hr A) 2 k v 4 j ≤ 122
    rw [rowS_a (b := 3) (by decide), rowS_a (b := 4) (by decide), rowS_a (b := 0) (by decide), rowS_a (b := 1) (by decide)]
    have e2 : rowS (Hr A) 2 k v 2 j ≤ Hr A 2 j := by
      by_cases e : j = k
      · subst e; rw [rowS_at]; exact hv
      · rw [rowS_k e]; exact Nat.le_refl _
    exact ⟨fun q => by have := h1 q; omega, h2, fun q => h3 (by omega), h4, h5, by omega, h7, h8⟩
  · refine Nat.le_trans (Nat.le_of_eq (cnt_congr _ (fun j _ => ?_))) hNs
    show decide (0 < rowS (Hr A) 2 k v 3 j) = decide (0 < Hr A 3 j)
    rw [rowS_a (by decide)]
  · refine ⟨(hPr g hg).1, fun h => ⟨((hPr g hg).2 h).1, fun x hx hx2 => ?_⟩⟩
    have h0 := ((hPr g hg).2 h).2 x hx hx2
    show rowS (Hr A) 2 k v 2 ((Hp A g).2.1 + x) = 0
    by_cases e : (Hp A g).2.1 + x = k
    · rw [e] at h0 ⊢
      rw [rowS_at]
      omega
    · rw [rowS_k e]; exact h0
theorem Inv_c {A : AS} {T : Nat} (hI : Inv A T) (c : Nat → Int32) : Inv (Sc A c) T := hI
theorem Inv_pl2 {A : AS} {T k c : Nat} (hI : Inv A T) (hk : k < Hn A 0) (hc : 97 ≤ c) (hc2 : c ≤ 122) (h4 : Hr A 4 k = 0) : Inv (opPl A k c) T := by
  have bI := hI
  obtain ⟨hT, ⟨⟨b0, b0'⟩, ⟨b1, b1'⟩, b2, ⟨b3, b3'⟩, ⟨b4, b4'⟩, ⟨b5, b5'⟩, b6, b7⟩, hRw, hNs, hQu, hPr, hVm⟩ := id hI
  refine Inv_act (Inv_tw (B := opTw A k c (Hn A 6 % 2) 1) bI hk hc hc2 (Nat.mod_lt _ (by decide)) (by decide) rfl rfl hQu (fun g hg => ?_) (List.Perm.refl _))
  refine ⟨(hPr g hg).1, fun h => ⟨((hPr g hg).2 h).1, fun x hx hx2 => ?_⟩⟩
  have h0 := ((hPr g hg).2 h).2 x hx hx2
  obtain ⟨m1, m2, m3, m4⟩ := Inv_m bI (msgs_p hg h)
  have h5 := m4 x hx2
  have h6 := (m2.2.2 x hx2).1
  dsimp only at h5 h6
  show twR (Hr A) k c (Hn A 6 % 2) 1 2 ((Hp A g).2.1 + x) = 0
  rw [twR_2n (fun e => by rw [e] at h5; omega)]
  exact h0
theorem Inv_rem {A : AS} {T k : Nat} (hI : Inv A T) (hk : k < Hn A 0) : Inv (opRem A k) T := Inv_act (Inv_c (Inv_len hI hk (Nat.zero_le _)) _)
theorem trmV_le {v c : Nat} (hv : 0 < v) : trmV v c ≤ v := by
  unfold trmV
  split <;> omega
theorem trmV_pos {v c : Nat} : 0 < trmV v c := by
  unfold trmV
  split <;> omega
theorem Inv_trm {A : AS} {T k c : Nat} (hI : Inv A T) (hk : k < Hn A 0) (h2 : 0 < Hr A 2 k) : Inv (opTrm A k c) T := Inv_act (Inv_len hI hk (trmV_le h2))
theorem cnt_set {p q : Nat → Bool} {k : Nat} (h : ∀ j, j ≠ k → q j = p j) : ∀ n, cnt q n ≤ cnt p n + 1 := by
  have key : ∀ n, n ≤ k → cnt q n = cnt p n := fun n hn => cnt_congr n (fun j hj => h j (by omega))
  intro n
  induction n with
  | zero => exact Nat.zero_le _
  | succ n ih =>
    rw [cnt_s, cnt_s]
    by_cases e : n = k
    · subst e
      rw [key n (Nat.le_refl _)]
      split <;> split <;> omega
    · rw [h n e]
      omega
theorem Inv_nst {A : AS} {T k d : Nat} (hI : Inv A T) (hk : k < Hn A 0) (hd : d ≤ 30) (h6 : cnt (nstB (Hr A)) (Hn A 0) < 6) : Inv (opNst A k d) T := by
  have bI := hI
  obtain ⟨hT, ⟨⟨b0, b0'⟩, ⟨b1, b1'⟩, b2, ⟨b3, b3'⟩, ⟨b4, b4'⟩, ⟨b5, b5'⟩, b6, b7⟩, hRw, hNs, hQu, hPr, hVm⟩ := id hI
  refine ⟨hT, bI.2.1, fun j => ?_, ?_, hQu, fun g hg => ?_, vM_4 hVm (fun j => show rowS (Hr A) 3 k d 4 j = Hr A 4 j from rowS_a (by decide) j)⟩
  · obtain ⟨h1, h2, h3, h4, h5, h6, h7, h8⟩ := hRw j
    show (_ → rowS (Hr A) 3 k d 2 j = 0 ∧ rowS (Hr A) 3 k d 3 j = 0 ∧ rowS (Hr A) 3 k d 4 j = 0) ∧ (_ → rowS (Hr A) 3 k d 0 j = 0 ∧ rowS (Hr A) 3 k d 1 j = 0) ∧ (0 < rowS (Hr A) 3 k d 2 j → 97 ≤ rowS (Hr A) 3 k d 0 j) ∧ rowS (Hr A) 3 k d 0 j ≤ 122 ∧ rowS (Hr A) 3 k d 1 j < 2 ∧ rowS (Hr A) 3 k d 2 j ≤ 99 + 9 * Hn A 6 ∧ rowS (Hr A) 3 k d 3 j ≤ 30 ∧ rowS (Hr A) 3 k d 4 j ≤ 122
    rw [rowS_a (b := 2) (by decide), rowS_a (b := 4) (by decide), rowS_a (b := 0) (by decide), rowS_a (b := 1) (by decide)]
    by_cases e : j = k
    · subst e
      rw [rowS_at]
      exact ⟨fun q => absurd (show Hn A 0 ≤ j from q) (by omega), h2, h3, h4, h5, h6, hd, h8⟩
    · rw [rowS_k e]
      exact ⟨h1, h2, h3, h4, h5, h6, h7, h8⟩
  · have := cnt_set (p := nstB (Hr A)) (q := nstB (rowS (Hr A) 3 k d)) (k := k) (fun j hj => by unfold nstB; rw [rowS_k hj]) (Hn A 0)
    show cnt (nstB (rowS (Hr A) 3 k d)) (Hn A 0) ≤ 6
    omega
  · refine ⟨(hPr g hg).1, fun h => ⟨((hPr g hg).2 h).1, fun x hx hx2 => ?_⟩⟩
    show rowS (Hr A) 3 k d 2 _ = 0
    rw [rowS_a (by decide)]
    exact ((hPr g hg).2 h).2 x hx hx2
theorem Inv_q {A : AS} {T : Nat} {q : Nat → List (List Nat)} {c : Nat → Int32} (hI : Inv A T) (hq : okQu q) : Inv (Sc (Sq A q) c) T := by
  obtain ⟨h1, h2, h3, h4, h5, h6, h7⟩ := hI
  exact ⟨h1, h2, h3, h4, hq, h6, h7⟩
theorem okQu_add {q : Nat → List (List Nat)} {g : Nat} {w : List Nat} (hq : okQu q) (h8 : (q g).length < 8) (hw : okW w) : okQu (up q g (q g ++ [w])) := by
  intro g' hg'
  by_cases e : g' = g
  · subst e
    rw [up_s, List.length_append]
    refine ⟨by show _ + 1 ≤ 8; omega, fun w' hw' => ?_⟩
    rcases List.mem_append.mp hw' with h | h
    · exact (hq _ hg').2 w' h
    · rw [List.mem_singleton.mp h]; exact hw
  · rw [up_n e]; exact hq g' hg'
theorem okQu_del {q : Nat → List (List Nat)} {g m : Nat} (hq : okQu q) : okQu (up q g ((q g).eraseIdx m)) := by
  intro g' hg'
  by_cases e : g' = g
  · subst e
    rw [up_s]
    refine ⟨?_, fun w hw => (hq g' hg').2 w (List.mem_of_mem_eraseIdx hw)⟩
    rw [List.length_eraseIdx]
    have := (hq g' hg').1
    split <;> omega
  · rw [up_n e]; exact hq g' hg'
theorem Inv_que {A : AS} {T g : Nat} {w : List Nat} (hI : Inv A T) (h8 : (Hq A g).length < 8) (hw : okW w) : Inv (opQue A g w) T := Inv_q hI (okQu_add hI.2.2.2.2.1 h8 hw)
theorem Inv_can {A : AS} {T g m : Nat} (hI : Inv A T) : Inv (opCan A g m) T := Inv_q hI (okQu_del hI.2.2.2.2.1)
/-! the program's side -/
theorem RC_act {A : AS} {h : Nat → HV} (hH : RC A h) : RC (act A) (up h 0 (sS (h 0) 7 (nI (Hn A 7 - 1)))) := by
  obtain ⟨⟨⟨h1, h2, h3⟩, h4⟩, h5⟩ := hH
  refine ⟨⟨?_, fun g hg => ?_⟩, ?_⟩
  · rw [up_s]
    exact ⟨RHn_set h1 _, RHc_oth h2 _ (by decide), h3⟩
  · rw [up_n (by omega)]; exact h4 g hg
  · rw [up_n (by omega)]; exact h5
theorem C_plant {A : AS} {T : Nat} {h : Nat → HV} (hH : RC A h) (hI : Inv A T) {k c : Nat} (hk : k < Hn A 0) (h7 : 0 < Hn A 7) : RC (opPl A k c) (F_X5_plantByHand (nI k) (nI c) h) := by
  have bI := hI
  obtain ⟨hT, ⟨⟨b0, b0'⟩, ⟨b1, b1'⟩, b2, ⟨b3, b3'⟩, ⟨b4, b4'⟩, ⟨b5, b5'⟩, b6, b7⟩, hRw, hNs, hQu, hPr, hVm⟩ := id hI
  obtain ⟨r1, f1⟩ := C_placeTwig hH.1 (k := k) (c := c) (o := Hn A 6 % 2) (l := 1) (by omega)
  unfold F_X5_plantByHand
  rw [C_active hH.1.1 bI, lt_d, lt_d, L1]
  generalize F_X5_placeTwig (nI k) (nI c) (nI (Hn A 6 % 2)) (nI 1) h = h2 at r1 f1
  have r2 : RC (opTw A k c (Hn A 6 % 2) 1) h2 := ⟨r1, by rw [f1 3 (by decide)]; exact hH.2⟩
  have e7 : (h2 0).1 7 = nI (Hn A 7) := r1.1.1 7 (by decide)
  rw [e7, Z_sub (by omega)]
  exact RC_act r2
theorem C_rem {A : AS} {T : Nat} {h : Nat → HV} (hH : RC A h) (hI : Inv A T) {k : Nat} (hk : k < Hn A 0) (h7 : 0 < Hn A 7) : RC (opRem A k) (F_X5_removeByHand (nI k) h) := by
  have bI := hI
  obtain ⟨hT, ⟨⟨b0, b0'⟩, ⟨b1, b1'⟩, b2, ⟨b3, b3'⟩, ⟨b4, b4'⟩, ⟨b5, b5'⟩, b6, b7⟩, hRw, hNs, hQu, hPr, hVm⟩ := id hI
  obtain ⟨⟨⟨h1, h2, h3⟩, h4⟩, h5⟩ := hH
  unfold F_X5_removeByHand
  simp only [lt_d, up_s, up_up]
  have e7 : ∀ r v, (sS (sA (h 0) 2 r) 18 v).1 7 = nI (Hn A 7) := fun r v => by rw [sS_1n (by decide)]; exact h1 7 (by decide)
  have e18 : ∀ r, (sA (h 0) 2 r).1 18 = Hc A 2 := fun r => h2 2 (by decide)
  rw [e7, e18, L1, L0, Z_sub (by omega)]
  refine ⟨⟨?_, fun g hg => ?_⟩, ?_⟩
  · rw [up_s]
    exact ⟨RHn_set (RHn_oth (RHn_1 h1 rfl) _ (by decide)) _, RHc_oth (RHc_set (i := 2) (RHc_1 h2 rfl) _) _ (by decide), RHr_2 (RHr_set h3 0 (by omega)) rfl⟩
  · rw [up_n (by omega)]
    obtain ⟨q1, q2, q3⟩ := h4 g hg
    exact ⟨RGc_up q1 _ (fun q hq => by omega), q2, q3⟩
  · rw [up_n (by omega)]; exact h5
theorem Z_trm {v c : Nat} (hv : v < 2 ^ 24) (hc : c ≤ 99) : ((1 : Int32) ≤ nI v - nI c) = (c < v) := by
  apply propext
  by_cases h : c < v
  · rw [Z_sub (by omega), L1, Z_le (by omega) (by omega)]
    omega
  · constructor
    · intro q
      exfalso
      have e3 : (1 : Int32).toInt = 1 := by decide
      rw [Int32.le_iff_toInt_le, Int32.toInt_sub, nI_toInt (by omega), nI_toInt (by omega), e3, Int.bmod_eq_of_le (by omega) (by omega)] at q
      omega
    · intro q; exact absurd q h
theorem C_trm {A : AS} {T : Nat} {h : Nat → HV} (hH : RC A h) (hI : Inv A T) {k c : Nat} (hk : k < Hn A 0) (hc : c ≤ 99) (h7 : 0 < Hn A 7) : RC (opTrm A k c) (F_X5_trimByHand (nI k) (nI c) h) := by
  have bI := hI
  obtain ⟨hT, ⟨⟨b0, b0'⟩, ⟨b1, b1'⟩, b2, ⟨b3, b3'⟩, ⟨b4, b4'⟩, ⟨b5, b5'⟩, b6, b7⟩, hRw, hNs, hQu, hPr, hVm⟩ := id hI
  obtain ⟨⟨⟨h1, h2, h3⟩, h4⟩, h5⟩ := hH
  have b2 := Inv_b bI k (a := 2) (by decide)
  have e7 : ∀ r, (sA (h 0) 2 r).1 7 = nI (Hn A 7) := fun r => h1 7 (by decide)
  have hfin : ∀ v, v = trmV (Hr A 2 k) c → RC (opTrm A k c) (up h 0 (sS (sA (h 0) 2 (rset 40 ((h 0).2 2) (nI k) (nI v))) 7 (nI (Hn A 7 - 1)))) := fun v hv => by
    subst hv
    refine ⟨⟨?_, fun g hg => ?_⟩, ?_⟩
    · rw [up_s]
      exact ⟨RHn_set (RHn_1 h1 rfl) _, RHc_oth (RHc_1 h2 rfl) _ (by decide), RHr_2 (RHr_set h3 _ (by omega)) rfl⟩
    · rw [up_n (by omega)]; exact h4 g hg
    · rw [up_n (by omega)]; exact h5
  unfold F_X5_trimByHand
  simp only [lt_d, up_s, up_up]
  rw [e7, e7, RHr_get h3 (by decide) (by omega)]
  by_cases c1 : c < Hr A 2 k
  · rw [if_pos (by rw [Z_trm b2 hc]; exact c1), Z_sub (by omega), L1, Z_sub (by omega)]
    exact hfin _ (by unfold trmV; rw [if_pos c1])
  · rw [if_neg (by rw [Z_trm b2 hc]; exact c1), L1, Z_sub (by omega)]
    exact hfin 1 (by unfold trmV; rw [if_neg c1])
theorem C_nst {A : AS} {T : Nat} {h : Nat → HV} (hH : RC A h) (hI : Inv A T) {k d : Nat} (hk : k < Hn A 0) : RC (opNst A k d) (F_X5_placeNest (nI k) (nI d) h) := by
  have bI := hI
  obtain ⟨hT, ⟨⟨b0, b0'⟩, ⟨b1, b1'⟩, b2, ⟨b3, b3'⟩, ⟨b4, b4'⟩, ⟨b5, b5'⟩, b6, b7⟩, hRw, hNs, hQu, hPr, hVm⟩ := id hI
  obtain ⟨⟨⟨h1, h2, h3⟩, h4⟩, h5⟩ := hH
  have e : F_X5_placeNest (nI k) (nI d) h = up h 0 (sA (h 0) 3 (rset 40 ((h 0).2 3) (nI k) (nI d))) := rfl
  rw [e]
  refine ⟨⟨?_, fun g hg => ?_⟩, ?_⟩
  · rw [up_s]
    exact ⟨RHn_1 h1 rfl, RHc_1 h2 rfl, RHr_set h3 d (by omega)⟩
  · rw [up_n (by omega)]; exact h4 g hg
  · rw [up_n (by omega)]; exact h5
theorem C_que {A : AS} {T : Nat} {h : Nat → HV} (hH : RC A h) (hI : Inv A T) {g : Nat} (hg : g < 2) (h8 : (Hq A g).length < 8) {src : Nat → Int32} {n2 a : Nat} {w : List Nat} (hn2 : n2 < 2 ^ 20) (ha : a + w.length ≤ n2) (hl : w.length ≤ 12) (hs : ∀ x, x < w.length → src (a + x) = nI (w.getD x 0)) : RC (opQue A g w) (F_X5_receive (nI g) src n2 (nI a) (nI w.length) h) := by
  obtain ⟨⟨h0, h4⟩, h5⟩ := hH
  obtain ⟨q1, q2, q3⟩ := h4 g hg
  have hen := C_enqueue q3 h8 (fun k hk => (Inv_qw hI hg hk).2.1) hn2 ha hl hs
  unfold F_X5_receive
  simp only [lt_d, Z_gsel hg, up_s, up_up]
  generalize F_X4_enqueue src n2 (nI a) (nI w.length) (h (1 + g)) = u at hen
  have e6 : u.1 6 = Hc A (10 + g) := (hen.2 6 (by decide)).trans (q1 0 (by decide))
  rw [e6]
  refine ⟨⟨?_, fun g' hg' => ?_⟩, ?_⟩
  · rw [up_n (by omega)]
    exact ⟨h0.1, RHc_up h0.2.1 _ (by omega), h0.2.2⟩
  · by_cases e : g' = g
    · subst e
      rw [up_s]
      refine ⟨?_, RGp_1 q2 (fun i i1 i2 => by rw [sS_1n (by omega)]; exact hen.2 i (by omega)), ?_⟩
      · exact RGc_set (i := 0) (RGc_1 q1 (fun i i1 i2 => hen.2 i (by omega))) _
      · show RGq (up (Hq A) g' _ g') _
        rw [up_s]
        exact RGq_1 hen.1 (sS_1n (by decide)) rfl
    · rw [up_n (by omega)]
      obtain ⟨d1, d2, d3⟩ := h4 g' hg'
      refine ⟨RGc_up d1 _ (fun q hq => by omega), d2, ?_⟩
      show RGq (up (Hq A) g _ g') _
      rw [up_n e]
      exact d3
  · rw [up_n (by omega)]; exact h5
theorem C_can {A : AS} {T : Nat} {h : Nat → HV} (hH : RC A h) (hI : Inv A T) {g m : Nat} (hg : g < 2) (hm : m < (Hq A g).length) : RC (opCan A g m) (up h (1 + g) (F_X4_cancel (nI m) (h (1 + g)))) := by
  obtain ⟨⟨h0, h4⟩, h5⟩ := hH
  obtain ⟨q1, q2, q3⟩ := h4 g hg
  have hde := C_dequeue q3 hm (hI.2.2.2.2.1 g hg).1 (fun k hk => (Inv_qw hI hg hk).2.1)
  unfold F_X4_cancel
  simp only [lt_d]
  generalize F_X4_dequeue (nI m) (h (1 + g)) = u at hde
  have e9 : u.1 9 = Hc A (16 + g) := (hde.2 9 (by decide)).trans (q1 3 (by decide))
  rw [e9]
  refine ⟨⟨?_, fun g' hg' => ?_⟩, ?_⟩
  · rw [up_n (by omega)]
    exact ⟨h0.1, RHc_up h0.2.1 _ (by omega), h0.2.2⟩
  · by_cases e : g' = g
    · subst e
      rw [up_s]
      refine ⟨?_, RGp_1 q2 (fun i i1 i2 => by rw [sS_1n (by omega)]; exact hde.2 i (by omega)), ?_⟩
      · exact RGc_set (i := 3) (RGc_1 q1 (fun i i1 i2 => hde.2 i (by omega))) _
      · show RGq (up (Hq A) g' _ g') _
        rw [up_s]
        exact RGq_1 hde.1 (sS_1n (by decide)) rfl
    · rw [up_n (by omega)]
      obtain ⟨d1, d2, d3⟩ := h4 g' hg'
      refine ⟨RGc_up d1 _ (fun q hq => by omega), d2, ?_⟩
      show RGq (up (Hq A) g _ g') _
      rw [up_n e]
      exact d3
  · rw [up_n (by omega)]; exact h5
theorem C_lim {A : AS} {h : Nat → HV} (hH : RC A h) (l : Nat) : RC (limA A l) (up h 0 (sS (h 0) 1 (nI l))) := by
  obtain ⟨⟨⟨q1, q2, q3⟩, q4⟩, q5⟩ := hH
  refine ⟨⟨?_, fun g hg => ?_⟩, ?_⟩
  · rw [up_s]
    exact ⟨RHn_set q1 l, RHc_oth q2 _ (by decide), q3⟩
  · rw [up_n (by omega)]; exact q4 g hg
  · rw [up_n (by omega)]; exact q5
/-! the other side -/
theorem RM_act2 {A : AS} {T : Nat} {s : Nat → Int32} (hM : RM A s) (hI : Inv A T) : RM (act A) (upd s 7 (nI (Hn A 7 - 1))) := RM_act hM hI.2.2.2.2.1 (fun g hg => (Inv_pl hI hg).1) (RMl_ok hI)
theorem M_plant {A : AS} {T : Nat} {t : HV} {s : Nat → Int32} (hM : RM A s) (hI : Inv A T) {k c N : Nat} (hk : k < Hn A 0) (hc : 97 ≤ c) (hc2 : c ≤ 122) (h0 : plR (Hr A) (Hn A 7) k = 0) (hN : 400 < N) : ∃ s', F_X11_plantNow N (nI k) (nI c) (sA t 0 s) = some (true, sA (sS t 8 (nI (cnt (twgB (Hr (opPl A k c))) (Hn A 0)))) 0 s') ∧ RM (opPl A k c) s' := by
  have bI := hI
  obtain ⟨hT, ⟨⟨b0, b0'⟩, ⟨b1, b1'⟩, b2, ⟨b3, b3'⟩, ⟨b4, b4'⟩, ⟨b5, b5'⟩, b6, b7⟩, hRw, hNs, hQu, hPr, hVm⟩ := id hI
  have h7 : 0 < Hn A 7 := by
    unfold plR at h0
    split at h0
    · assumption
    · omega
  have h24 : Hr A 2 k = 0 ∧ Hr A 4 k = 0 := by
    unfold plR at h0
    rw [if_pos h7] at h0
    split at h0
    · omega
    · split at h0
      · omega
      · omega
  have hIp := Inv_pl2 bI hk hc hc2 h24.2
  obtain ⟨hf, hcc, hkk, hr, hq, hp, hl⟩ := id hM
  obtain ⟨s1, e1, r1, c1, f1⟩ := M_tw (t := t) hr hcc (k := k) (c := c) (o := Hn A 6 % 2) (l := 1) (f := 0) (by omega) (by decide) (by rw [if_neg (by omega)])
  have r2 : RM (opTw A k c (Hn A 6 % 2) 1) s1 := ⟨RMf_c hf (fun j a => f1 j (by omega) (by omega)), c1, RMk_c hkk (fun j a b => f1 j (by omega) (by omega)), r1, RMq_c hq hQu (fun j a b => f1 j (by omega) (by omega)), RMp_c hp (fun g hg => (Inv_pl bI hg).1) (fun j a b => f1 j (by omega) (by omega)), (show RMl (Hl A) _ from RMl_c hl (RMl_ok bI) (fun j a b => f1 j (by omega) (by omega)))⟩
  have r3 := RM_act r2 hQu (fun g hg => (Inv_pl bI hg).1) (fun k hk => RMl_ok bI k hk)
  have e7 : s1 7 = nI (Hn A 7) := r2.1 7 (by decide)
  have r3' : RM (opPl A k c) (upd s1 7 (nI (Hn A 7 - 1))) := r3
  have htw := M_twigs (t := t) r3'.1 r3'.2.2.2.1 hIp (N := N) (by omega)
  refine ⟨upd s1 7 (nI (Hn A 7 - 1)), ?_, r3'⟩
  unfold F_X11_plantNow
  rw [M_isSlot hf bI (by omega), ob1_s, if_pos (decide_eq_true hk), M_plR hM bI hk (by omega), ob1_s, h0, if_pos (show nI 0 = 0 from rfl), M_activeNow hf bI, ob1_s, L1, L0, e1, ob1_s, if_pos (by decide), if_pos (by decide), L7, Z_ag0 (by decide), e7, Z_sub (by omega), Z_aw0 (by decide), lt_d, htw, ob1_s, lt_d]
  have e0 : Hn (opPl A k c) 0 = Hn A 0 := (up_n (by decide) : up (Hn A) 7 (Hn A 7 - 1) 0 = Hn A 0)
  rw [e0]
  rfl
theorem M_plantN {A : AS} {T : Nat} {t : HV} {s : Nat → Int32} (hM : RM A s) (hI : Inv A T) {p c : Int32} {N : Nat} (hN : 400 < N) (h : F_X11_isSlot p (sA t 0 s) = some false ∨ ∃ k, k < Hn A 0 ∧ p = nI k ∧ plR (Hr A) (Hn A 7) k ≠ 0) : F_X11_plantNow N p c (sA t 0 s) = some (false, sA t 0 s) := by
  unfold F_X11_plantNow
  rcases h with e | ⟨k, hk, rfl, h0⟩
  · rw [e, ob1_s, if_neg Bool.false_ne_true]
  · have := hI.2.1.1.2
    have hle := plR_le (R := Hr A) (a := Hn A 7) (k := k)
    rw [M_isSlot hM.1 hI (by omega), ob1_s, if_pos (decide_eq_true hk), M_plR hM hI hk (by omega), ob1_s, if_neg (by rw [L0, Z_eq (by omega) (by omega)]; exact h0)]
theorem M_rem {A : AS} {T : Nat} {t : HV} {s : Nat → Int32} (hM : RM A s) (hI : Inv A T) {k N : Nat} (hk : k < Hn A 0) (h0 : reR (Hr A) (Hn A 7) (Hn A 6) k = 0) (hN : 400 < N) : ∃ s', F_X11_removeNow N (nI k) (sA t 0 s) = some (true, sA (sS t 8 (nI (Hr A 0 k))) 0 s') ∧ RM (opRem A k) s' := by
  have bI := hI
  obtain ⟨hT, ⟨⟨b0, b0'⟩, ⟨b1, b1'⟩, b2, ⟨b3, b3'⟩, ⟨b4, b4'⟩, ⟨b5, b5'⟩, b6, b7⟩, hRw, hNs, hQu, hPr, hVm⟩ := id hI
  have ht0 : toR (Hr A) (Hn A 7) (Hn A 6) k = 0 := by
    unfold reR at h0
    split at h0
    · assumption
    · exact h0
  have h72 : 0 < Hn A 7 ∧ 0 < Hr A 2 k := by
    unfold toR at ht0
    split at ht0
    · split at ht0
      · exact ⟨by assumption, by assumption⟩
      · omega
    · omega
  obtain ⟨hf, hcc, hkk, hr, hq, hp, hl⟩ := id hM
  have e10 : s 10 = Hc A 2 := hcc.1 2 (by decide)
  have e7 : s 7 = nI (Hn A 7) := hf 7 (by decide)
  have hz : ∀ j, (j < 22 ∨ 222 ≤ j) → zer s (22 + 5 * k) 4 j = s j := fun j hj => if_neg (by omega)
  have r2 : RM (Sc (Sr A (rowS (Hr A) 2 k 0)) (up (Hc A) 2 (Hc A 2 + 1))) (upd (zer s (22 + 5 * k) 4) 10 (Hc A 2 + 1)) := by
    refine ⟨RMf_c hf (fun j a => ?_), ?_, RMk_c hkk (fun j a b => ?_), RMr_c (s := zer s (22 + 5 * k) 4) ?_ (fun j a b => pk_un (by omega)), RMq_c hq hQu (fun j a b => ?_), RMp_c hp (fun g hg => (Inv_pl bI hg).1) (fun j a b => ?_), (show RMl (Hl A) _ from RMl_c hl (RMl_ok bI) (fun j a b => ?_))⟩
    · rw [pk_un (by omega)]; exact hz j (by omega)
    · exact RMc_set3 (i := 2) (RMc_c (s' := zer s (22 + 5 * k) 4) hcc (fun j a b _ _ _ => hz j (by omega))) (by decide) _
    · rw [pk_un (by omega)]; exact hz j (by omega)
    · exact RMr_goes hr (j := k) rowS_at (show rowS (Hr A) 2 k 0 3 k = Hr A 3 k from rowS_a (by decide) k) (fun a j ha hj => (rowS_k hj a).symm)
    · rw [pk_un (by omega)]; exact hz j (by omega)
    · rw [pk_un (by omega)]; exact hz j (by omega)
    · rw [pk_un (by omega)]; exact hz j (by omega)
  have r3 : RM (opRem A k) _ := RM_act r2 hQu (fun g hg => (Inv_pl bI hg).1) (fun k hk => RMl_ok bI k hk)
  refine ⟨_, ?_, r3⟩
  unfold F_X11_removeNow
  rw [M_isSlot hf bI (by omega), ob1_s, if_pos (decide_eq_true hk), M_reR hf hr bI (by omega), ob1_s, h0, if_pos (show nI 0 = 0 from rfl), L0, M_ofR hr (by decide) (by omega), ob1_s, mLet_0, if_pos h72.2, sS_sA, lt_d, M_twigGoes (by omega) (by omega), ob1_s, if_pos (by decide), if_pos (by decide), L10, Z_ag0 (by decide), hz 10 (by omega), e10, Z_aw0 (by decide), lt_d, if_pos (by decide), if_pos (by decide), L7, Z_ag0 (by decide), pk_un (by decide), hz 7 (by omega), e7, L1, Z_sub (by omega), Z_aw0 (by decide), lt_d]
  rfl
theorem M_remN {A : AS} {T : Nat} {t : HV} {s : Nat → Int32} (hM : RM A s) (hI : Inv A T) {p : Int32} {N : Nat} (hN : 400 < N) (h : F_X11_isSlot p (sA t 0 s) = some false ∨ ∃ k, k < Hn A 0 ∧ p = nI k ∧ reR (Hr A) (Hn A 7) (Hn A 6) k ≠ 0) : F_X11_removeNow N p (sA t 0 s) = some (false, sA t 0 s) := by
  unfold F_X11_removeNow
  rcases h with e | ⟨k, hk, rfl, h0⟩
  · rw [e, ob1_s, if_neg Bool.false_ne_true]
  · have := hI.2.1.1.2
    have hle := reR_le (R := Hr A) (a := Hn A 7) (d := Hn A 6) (k := k)
    rw [M_isSlot hM.1 hI (by omega), ob1_s, if_pos (decide_eq_true hk), M_reR hM.1 hM.2.2.2.1 hI (by omega), ob1_s, if_neg (by rw [L0, Z_eq (by omega) (by omega)]; exact h0)]
theorem M_trm {A : AS} {T : Nat} {t : HV} {s : Nat → Int32} (hM : RM A s) (hI : Inv A T) {k c : Nat} (hk : k < Hn A 0) (hc : c ≤ 99) (h0 : trR (Hr A) (Hn A 7) (Hn A 6) k = 0) : ∃ s', F_X11_trimNow (nI k) (nI c) (sA t 0 s) = some (true, sA (sS t 8 (nI (trmV (Hr A 2 k) c))) 0 s') ∧ RM (opTrm A k c) s' := by
  have bI := hI
  obtain ⟨hT, ⟨⟨b0, b0'⟩, ⟨b1, b1'⟩, b2, ⟨b3, b3'⟩, ⟨b4, b4'⟩, ⟨b5, b5'⟩, b6, b7⟩, hRw, hNs, hQu, hPr, hVm⟩ := id hI
  have ht0 : toR (Hr A) (Hn A 7) (Hn A 6) k = 0 := by
    unfold trR at h0
    split at h0
    · assumption
    · exact h0
  have h72 : 0 < Hn A 7 ∧ 0 < Hr A 2 k := by
    unfold toR at ht0
    split at ht0
    · split at ht0
      · exact ⟨by assumption, by assumption⟩
      · omega
    · omega
  have q2 := Inv_b bI k (a := 2) (by decide)
  obtain ⟨hf, hcc, hkk, hr, hq, hp, hl⟩ := id hM
  have e7 : s 7 = nI (Hn A 7) := hf 7 (by decide)
  have hval : (if (1 : Int32) < nI (Hr A 2 k) - nI c then nI (Hr A 2 k) - nI c else 1) = nI (trmV (Hr A 2 k) c) := by
    unfold trmV
    by_cases c1 : c < Hr A 2 k
    · rw [if_pos c1, Z_sub (by omega)]
      by_cases c2 : 1 < Hr A 2 k - c
      · rw [if_pos (by rw [L1, Z_lt (by omega) (by omega)]; exact c2)]
      · rw [if_neg (by rw [L1, Z_lt (by omega) (by omega)]; exact c2), show Hr A 2 k - c = 1 by omega]; rfl
    · rw [if_neg c1, if_neg]
      · rfl
      · intro q
        have hz := Z_trm q2 hc
        have : (1 : Int32) ≤ nI (Hr A 2 k) - nI c := Int32.le_of_lt q
        rw [hz] at this
        exact c1 this
  have hvp := trmV_pos (v := Hr A 2 k) (c := c)
  have r2 : RM (Sr A (rowS (Hr A) 2 k (trmV (Hr A 2 k) c))) (upd s (22 + 5 * k + 2) (nI (trmV (Hr A 2 k) c))) := by
    refine ⟨RMf_c hf (fun j a => pk_un (by omega)), RMc_c hcc (fun j a b _ _ _ => pk_un (by omega)), RMk_c hkk (fun j a b => pk_un (by omega)), fun a j ha hj => ?_, RMq_c hq hQu (fun j a b => pk_un (by omega)), RMp_c hp (fun g hg => (Inv_pl bI hg).1) (fun j a b => pk_un (by omega)), (show RMl (Hl A) _ from RMl_c hl (RMl_ok bI) (fun j a b => pk_un (by omega)))⟩
    show _ = nI (mLet (rowS (Hr A) 2 k (trmV (Hr A 2 k) c)) a j)
    by_cases e : j = k
    · subst e
      have e2 : rowS (Hr A) 2 j (trmV (Hr A 2 j) c) 2 j = trmV (Hr A 2 j) c := rowS_at
      have eo : ∀ b, b ≠ 2 → rowS (Hr A) 2 j (trmV (Hr A 2 j) c) b j = Hr A b j := fun b hb => rowS_a hb j
      match a, ha with
      | 0, _ => rw [pk_un (by omega), mLet_0, e2, eo 0 (by decide), if_pos hvp, hr 0 j (by decide) hj, mLet_0, if_pos h72.2]
      | 1, _ => rw [pk_un (by omega), mLet_1, e2, eo 1 (by decide), if_pos hvp, hr 1 j (by decide) hj, mLet_1, if_pos h72.2]
      | 2, _ => rw [pk_us, mLet_2, e2]
      | 3, _ =>
        rw [pk_un (by omega), mLet_3, e2, eo 4 (by decide), hr 3 j (by decide) hj, mLet_3]
        by_cases c4 : 0 < Hr A 4 j
        · rw [if_pos ⟨h72.2, c4⟩, if_pos ⟨hvp, c4⟩]
        · rw [if_neg (fun q => c4 q.2), if_neg (fun q => c4 q.2)]
      | 4, _ => rw [pk_un (by omega), mLet_4, eo 3 (by decide), hr 4 j (by decide) hj, mLet_4]
    · rw [pk_un (by omega), hr a j ha hj, mLet_eq (fun b _ => (rowS_k e b).symm) ha]
  have r3 : RM (opTrm A k c) _ := RM_act r2 hQu (fun g hg => (Inv_pl bI hg).1) (fun k hk => RMl_ok bI k hk)
  refine ⟨_, ?_, r3⟩
  unfold F_X11_trimNow
  rw [M_isSlot hf bI (by omega), ob1_s, if_pos (decide_eq_true hk), M_trR hf hr bI (by omega), ob1_s, h0, if_pos (show nI 0 = 0 from rfl), L2, M_ofR hr (by decide) (by omega), ob1_s, mLet_2, hval, M_puts (by omega), ob1_s, if_pos (by decide), if_pos (by decide), L7, Z_ag0 (by decide), pk_un (by omega), e7, L1, Z_sub (by omega), Z_aw0 (by decide), lt_d, M_of (by omega), pk_un (by omega), pk_us, ob1_s, lt_d]
  rfl
theorem M_trmN {A : AS} {T : Nat} {t : HV} {s : Nat → Int32} (hM : RM A s) (hI : Inv A T) {p c : Int32} (h : F_X11_isSlot p (sA t 0 s) = some false ∨ ∃ k, k < Hn A 0 ∧ p = nI k ∧ trR (Hr A) (Hn A 7) (Hn A 6) k ≠ 0) : F_X11_trimNow p c (sA t 0 s) = some (false, sA t 0 s) := by
  unfold F_X11_trimNow
  rcases h with e | ⟨k, hk, rfl, h0⟩
  · rw [e, ob1_s, if_neg Bool.false_ne_true]
  · have := hI.2.1.1.2
    have hle := trR_le (R := Hr A) (a := Hn A 7) (d := Hn A 6) (k := k)
    rw [M_isSlot hM.1 hI (by omega), ob1_s, if_pos (decide_eq_true hk), M_trR hM.1 hM.2.2.2.1 hI (by omega), ob1_s, if_neg (by rw [L0, Z_eq (by omega) (by omega)]; exact h0)]
def nstOk (A : AS) (k : Nat) : Bool := decide (cnt (nstB (Hr A)) (Hn A 0) < 6 ∧ Hr A 3 k = 0)
theorem M_canNest {A : AS} {T : Nat} {t : HV} {s : Nat → Int32} (hf : RMf (Hn A) s) (hr : RMr (Hr A) s) (hI : Inv A T) {k N : Nat} (hk : k < Hn A 0) (hN : 40 < N) : F_X11_canNest N (nI k) (sA t 0 s) = some (nstOk A k) := by
  have bI := hI
  obtain ⟨hT, ⟨⟨b0, b0'⟩, ⟨b1, b1'⟩, b2, ⟨b3, b3'⟩, ⟨b4, b4'⟩, ⟨b5, b5'⟩, b6, b7⟩, hRw, hNs, hQu, hPr, hVm⟩ := id hI
  have hcl := cnt_le (nstB (Hr A)) (Hn A 0)
  unfold F_X11_canNest nstOk
  rw [M_nests hf hr bI hN, ob1_s, M_hasNest hf hr bI (by omega), ob1_s]
  simp (disch := omega) only [L6, Z_le, decide_eq_true_eq]
  by_cases c1 : cnt (nstB (Hr A)) (Hn A 0) < 6
  · rw [if_neg (by omega)]
    by_cases c2 : 0 < Hr A 3 k
    · rw [if_pos c2, decide_eq_false (fun q => by omega)]
    · rw [if_neg c2, decide_eq_true ⟨c1, by omega⟩]
  · rw [if_pos (by omega), decide_eq_false (fun q => c1 q.1)]
theorem C_mayNest {A : AS} {T : Nat} {h : Nat → HV} (hH : RH A (h 0)) (hI : Inv A T) {k N : Nat} (hk : k < Hn A 0) (hN : 40 < N) : F_X5_mayNest N (nI k) h = some (nstOk A k) := by
  have bI := hI
  obtain ⟨hT, ⟨⟨b0, b0'⟩, ⟨b1, b1'⟩, b2, ⟨b3, b3'⟩, ⟨b4, b4'⟩, ⟨b5, b5'⟩, b6, b7⟩, hRw, hNs, hQu, hPr, hVm⟩ := id hI
  have hcl := cnt_le (nstB (Hr A)) (Hn A 0)
  have q3 := Inv_b bI k (a := 3) (by decide)
  unfold F_X5_mayNest nstOk
  rw [C_countNests hH bI hN, ob1_s, C_row hH.2.2 bI (by decide) (by omega)]
  simp (disch := omega) only [L6, L0, Z_le, Z_eq]
  by_cases c1 : cnt (nstB (Hr A)) (Hn A 0) < 6
  · rw [if_neg (by omega)]
    by_cases c2 : Hr A 3 k = 0
    · rw [if_pos c2, decide_eq_true ⟨c1, c2⟩]
    · rw [if_neg c2, decide_eq_false (fun q => c2 q.2)]
  · rw [if_pos (by omega), decide_eq_false (fun q => c1 q.1)]
theorem M_nst {A : AS} {T : Nat} {t : HV} {s : Nat → Int32} (hM : RM A s) (hI : Inv A T) {k d N : Nat} (hk : k < Hn A 0) (hd : d ≤ 30) (h0 : nstOk A k = true) (hN : 400 < N) : ∃ s', F_X11_nestNow N (nI k) (nI d) (sA t 0 s) = some (true, sA (sS t 8 (nI (cnt (nstB (Hr (opNst A k d))) (Hn A 0)))) 0 s') ∧ RM (opNst A k d) s' := by
  have bI := hI
  obtain ⟨hT, ⟨⟨b0, b0'⟩, ⟨b1, b1'⟩, b2, ⟨b3, b3'⟩, ⟨b4, b4'⟩, ⟨b5, b5'⟩, b6, b7⟩, hRw, hNs, hQu, hPr, hVm⟩ := id hI
  obtain ⟨hf, hcc, hkk, hr, hq, hp, hl⟩ := id hM
  have h6 : cnt (nstB (Hr A)) (Hn A 0) < 6 := (of_decide_eq_true h0).1
  have hIn := Inv_nst bI hk hd h6
  have r2 : RM (opNst A k d) (upd s (22 + 5 * k + 4) (nI d)) := by
    refine ⟨RMf_c hf (fun j a => pk_un (by omega)), RMc_c hcc (fun j a b _ _ _ => pk_un (by omega)), RMk_c hkk (fun j a b => pk_un (by omega)), fun a j ha hj => ?_, RMq_c hq hQu (fun j a b => pk_un (by omega)), RMp_c hp (fun g hg => (Inv_pl bI hg).1) (fun j a b => pk_un (by omega)), (show RMl (Hl A) _ from RMl_c hl (RMl_ok bI) (fun j a b => pk_un (by omega)))⟩
    show _ = nI (mLet (rowS (Hr A) 3 k d) a j)
    by_cases e : j = k
    · subst e
      have e3 : rowS (Hr A) 3 j d 3 j = d := rowS_at
      have eo : ∀ b, b ≠ 3 → rowS (Hr A) 3 j d b j = Hr A b j := fun b hb => rowS_a hb j
      match a, ha with
      | 0, _ => rw [pk_un (by omega), mLet_0, eo 2 (by decide), eo 0 (by decide), hr 0 j (by decide) hj, mLet_0]
      | 1, _ => rw [pk_un (by omega), mLet_1, eo 2 (by decide), eo 1 (by decide), hr 1 j (by decide) hj, mLet_1]
      | 2, _ => rw [pk_un (by omega), mLet_2, eo 2 (by decide), hr 2 j (by decide) hj, mLet_2]
      | 3, _ => rw [pk_un (by omega), mLet_3, eo 2 (by decide), eo 4 (by decide), hr 3 j (by decide) hj, mLet_3]
      | 4, _ => rw [pk_us, mLet_4, e3]
    · rw [pk_un (by omega), hr a j ha hj, mLet_eq (fun b _ => (rowS_k e b).symm) ha]
  have hn := M_nests (t := t) r2.1 r2.2.2.2.1 hIn (N := N) (by omega)
  refine ⟨_, ?_, r2⟩
  unfold F_X11_nestNow
  rw [M_isSlot hf bI (by omega), ob1_s, if_pos (decide_eq_true hk), M_canNest hf hr bI hk (by omega), ob1_s, h0, if_pos rfl, L4, M_puts (by omega), ob1_s, hn, ob1_s, lt_d]
  rfl
theorem M_nstN {A : AS} {T : Nat} {t : HV} {s : Nat → Int32} (hM : RM A s) (hI : Inv A T) {p d : Int32} {N : Nat} (hN : 400 < N) (h : F_X11_isSlot p (sA t 0 s) = some false ∨ ∃ k, k < Hn A 0 ∧ p = nI k ∧ nstOk A k = false) : F_X11_nestNow N p d (sA t 0 s) = some (false, sA t 0 s) := by
  unfold F_X11_nestNow
  rcases h with e | ⟨k, hk, rfl, h0⟩
  · rw [e, ob1_s, if_neg Bool.false_ne_true]
  · have := hI.2.1.1.2
    rw [M_isSlot hM.1 hI (by omega), ob1_s, if_pos (decide_eq_true hk), M_canNest hM.1 hM.2.2.2.1 hI hk (by omega), ob1_s, h0, if_neg Bool.false_ne_true]
theorem M_work {A : AS} {T : Nat} {t : HV} {s : Nat → Int32} (hM : RM A s) (hI : Inv A T) (l : Nat) : F_X11_workNow (nI l) (sA t 0 s) = some (true, sA (sS t 8 (nI (Hn A 1))) 0 (upd s 1 (nI l))) ∧ RM (limA A l) (upd s 1 (nI l)) := by
  refine ⟨?_, RM_lim hM hI l⟩
  have e1 : s 1 = nI (Hn A 1) := hM.1 1 (by decide)
  unfold F_X11_workNow
  rw [if_pos (by decide), L1, Z_ag0 (by decide), e1, sS_sA, lt_d, if_pos (by decide), Z_aw0 (by decide), lt_d]
theorem M_end {A : AS} {T : Nat} {t : HV} {s : Nat → Int32} (hM : RM A s) (hI : Inv A T) {N n : Nat} (hn : n ≤ 60) (hT2 : T + n < 2 ^ 20) (hN : 400 < N) : ∃ s', F_X11_endNow N (nI n) (sA t 0 s) = some (true, sA (sS t 8 ((Hc (days n A) 12 + Hc (days n A) 13) - (Hc A 12 + Hc A 13))) 0 s') ∧ RM (days n A) s' := by
  obtain ⟨s', e, r⟩ := M_goBy (t := t) hM hI hn hT2 hN
  have hd : ∀ (B : AS) (x : Nat → Int32), RM B x → F_X11_delivered (sA t 0 x) = some (Hc B 12 + Hc B 13) := fun B x hx => by
    have k0 : x 16 = Hc B 12 := hx.2.1.2 0 1 (by decide) (by decide)
    have k1 : x 17 = Hc B 13 := hx.2.1.2 1 1 (by decide) (by decide)
    unfold F_X11_delivered
    rw [if_pos (by decide), if_pos (by decide), L16, show (17 : Int32) = nI 17 from rfl, Z_ag0 (by decide), Z_ag0 (by decide), k0, k1]
  refine ⟨s', ?_, r⟩
  unfold F_X11_endNow
  rw [hd A s hM, ob1_s, e, ob1_s, hd _ _ r, ob1_s, lt_d]
  rfl
theorem M_can {A : AS} {T : Nat} {t : HV} {s : Nat → Int32} (hM : RM A s) (hI : Inv A T) {g m N : Nat} (hg : g < 2) (hm : m < (Hq A g).length) (hN : 400 < N) : ∃ s', F_X11_cancelNow N (nI g) (nI m) (sA t 0 s) = some (true, sA (sS t 8 (nI ((Hq A g).getD m []).length)) 0 s') ∧ RM (opCan A g m) s' := by
  have bI := hI
  obtain ⟨hT, ⟨⟨b0, b0'⟩, ⟨b1, b1'⟩, b2, ⟨b3, b3'⟩, ⟨b4, b4'⟩, ⟨b5, b5'⟩, b6, b7⟩, hRw, hNs, hQu, hPr, hVm⟩ := id hI
  obtain ⟨hf, hcc, hkk, hr, hq, hp, hl⟩ := id hM
  have q8 := (hQu g hg).1
  have k12 : s (12 + g) = nI (Hq A g).length := hkk.2 g hg
  have k20 : s (20 + g) = Hc A (16 + g) := hcc.2 g 3 hg (by decide)
  obtain ⟨w1, w2⟩ := hq g m hg hm
  obtain ⟨s1, e1, k1, q1, f1⟩ := M_waitsNoMore (t := sS t 8 (nI ((Hq A g).getD m []).length)) hkk hq hQu hg hm hN
  have k20' : s1 (20 + g) = Hc A (16 + g) := by rw [f1 _ (by omega) (by omega)]; exact k20
  have e3 : F_X11_in (nI m).toInt64 (0 : Int64) ((nI (Hq A g).length - 1).toInt64) = true := by
    rcases in_c (nI m) (n := (Hq A g).length) (by omega) with ⟨_, c | c⟩ | ⟨k, _, _, e⟩
    · exact absurd c (nI_pos (by omega))
    · rw [Z_le (by omega) (by omega)] at c; omega
    · exact e
  have hqd := okQu_del (g := g) (m := m) hQu
  refine ⟨upd s1 (20 + g) (Hc A (16 + g) + 1), ?_, ?_⟩
  · unfold F_X11_cancelNow
    have kw : F_X11_waitingAt (nI g) (nI m) = nI (222 + 13 * (8 * g + m)) := by
      unfold F_X11_waitingAt
      simp only [L8, L13, L222, Z_mul, Z_add]
    have v12 : vpb (12 + nI g) 760 = true := by rw [L12, Z_add, Z_vpb (by omega)]; omega
    have v20 : vpb (20 + nI g) 760 = true := by rw [L20, Z_add, Z_vpb (by omega)]; omega
    have a12 : ag (sA t 0 s) 0 (12 + nI g) = nI (Hq A g).length := by rw [L12, Z_add, Z_ag0 (by omega), k12]
    rw [if_pos v12, a12, e3, if_pos rfl, kw, if_pos (by rw [Z_vpb (by omega)]; omega), Z_ag0 (by omega), w1, sS_sA, lt_d, e1, ob1_s, if_pos v20, if_pos v20, L20, Z_add, Z_ag0 (by omega), k20', Z_aw0 (by omega), lt_d]
  · refine ⟨RMf_c hf (fun j a => by rw [pk_un (by omega)]; exact f1 _ (by omega) (by omega)), ?_, RMk_c k1 (fun j a b => pk_un (by omega)), RMr_c hr (fun j a b => by rw [pk_un (by omega)]; exact f1 _ (by omega) (by omega)), RMq_c q1 hqd (fun j a b => pk_un (by omega)), RMp_c hp (fun g hg => (Inv_pl bI hg).1) (fun j a b => by rw [pk_un (by omega)]; exact f1 _ (by omega) (by omega)), (show RMl (Hl A) _ from RMl_c hl (RMl_ok bI) (fun j a b => by rw [pk_un (by omega)]; exact f1 _ (by omega) (by omega)))⟩
    exact RMc_setg (c := 3) (RMc_c hcc (fun j a b c d e => f1 _ (by omega) (by omega))) hg (by decide) _
theorem M_canN {A : AS} {T : Nat} {t : HV} {s : Nat → Int32} (hM : RM A s) (hI : Inv A T) {g N : Nat} {x : Int32} (hg : g < 2) (hx : F_X11_in x.toInt64 (0 : Int64) ((nI (Hq A g).length - 1).toInt64) = false) : F_X11_cancelNow N (nI g) x (sA t 0 s) = some (false, sA t 0 s) := by
  have k12 : s (12 + g) = nI (Hq A g).length := hM.2.2.1.2 g hg
  unfold F_X11_cancelNow
  rw [if_pos (by rw [L12, Z_add, Z_vpb (by omega)]; omega), show ag (sA t 0 s) 0 (12 + nI g) = nI (Hq A g).length by rw [L12, Z_add, Z_ag0 (by omega), k12], hx, if_neg Bool.false_ne_true]
/-- the word to send lies in array 9 -/
theorem M_msg {A : AS} {T : Nat} {t : HV} {s : Nat → Int32} (hM : RM A s) (hI : Inv A T) {g N : Nat} {w : List Nat} (hg : g < 2) (h8 : (Hq A g).length < 8) (hw : wAt (t.2 9) 0 w) (hw2 : w.length ≤ 12) (hN : 400 < N) : ∃ s', F_X11_messageNow N (nI g) (sA t 0 s) = some (true, sA (sS t 8 (nI ((Hq A g).length + 1))) 0 s') ∧ RM (opQue A g w) s' := by
  have bI := hI
  obtain ⟨hT, ⟨⟨b0, b0'⟩, ⟨b1, b1'⟩, b2, ⟨b3, b3'⟩, ⟨b4, b4'⟩, ⟨b5, b5'⟩, b6, b7⟩, hRw, hNs, hQu, hPr, hVm⟩ := id hI
  obtain ⟨hf, hcc, hkk, hr, hq, hp, hl⟩ := id hM
  have k12 : s (12 + g) = nI (Hq A g).length := hkk.2 g hg
  have k14 : s (14 + g) = Hc A (10 + g) := hcc.2 g 0 hg (by decide)
  have hlen : (Hq A g ++ [w]).length = (Hq A g).length + 1 := by rw [List.length_append]; rfl
  have h222 : 222 + 13 * (8 * g + (Hq A g).length) + 13 ≤ 430 := by omega
  refine ⟨upd (upd (va_cpy (t.2 9) s 0 (222 + 13 * (8 * g + (Hq A g).length)) 13) (12 + g) (nI ((Hq A g).length + 1))) (14 + g) (Hc A (10 + g) + 1), ?_, ?_⟩
  · unfold F_X11_messageNow F_X11_waitingAt
    have v12 : vpb (12 + nI g) 760 = true := by rw [L12, Z_add, Z_vpb (by omega)]; omega
    have a12 : ag (sA t 0 s) 0 (12 + nI g) = nI (Hq A g).length := by rw [L12, Z_add, Z_ag0 (by omega), k12]
    rw [if_pos v12, a12, if_neg (by rw [L8, Z_eq (by omega) (by omega)]; omega), if_pos v12, L8, Z_mul, Z_add, L13, Z_mul, L222, Z_add, L0, show (nI 0, sA t 0 s) = (nI (0 + 0), sA t 0 s) from rfl]
    refine lp_cpy (n := 13) (c := 9) (d := 0) (from_ := 0) (to := 222 + 13 * (8 * g + (Hq A g).length)) (j0 := 0) (t := sA t 0 s) (by omega) (fun q => absurd q (by decide)) (fun i t' hi e => ?_) (fun t' e => ?_)
    · subst e
      simp only [sAA, sA2s, sA_2n (show (9 : Nat) ≠ 0 by decide)]
      show st_X11_messageNow_32 N (nI g) (nI (222 + 13 * (8 * g + (Hq A g).length))) (nI (0 + i)) (sA t 0 _) = _
      unfold st_X11_messageNow_32
      have a9 : ∀ x : Nat → Int32, ag (sA t 0 x) 9 (nI i) = t.2 9 i := fun x => by rw [Z_ag (by omega), sA_2n (by decide)]
      simp (disch := omega) only [L1, L13, L760, Nat.zero_add, Z_le, Z_add, Z_vpb, if_neg, if_pos, a9, Z_aw0, lt_d, sAA]
    · subst e
      simp only [sAA, sA2s, sA_2n (show (9 : Nat) ≠ 0 by decide)]
      show st_X11_messageNow_32 N (nI g) (nI (222 + 13 * (8 * g + (Hq A g).length))) (nI (0 + 13)) (sA t 0 _) = _
      unfold st_X11_messageNow_32
      have z12 : va_cpy (t.2 9) s 0 (222 + 13 * (8 * g + (Hq A g).length)) 13 (12 + g) = nI (Hq A g).length := by rw [pk_cpy_out (by omega)]; exact k12
      have z14 : upd (va_cpy (t.2 9) s 0 (222 + 13 * (8 * g + (Hq A g).length)) 13) (12 + g) (nI ((Hq A g).length + 1)) (14 + g) = Hc A (10 + g) := by rw [pk_un (by omega), pk_cpy_out (by omega)]; exact k14
      have z12' : ∀ v, upd (upd (va_cpy (t.2 9) s 0 (222 + 13 * (8 * g + (Hq A g).length)) 13) (12 + g) (nI ((Hq A g).length + 1))) (14 + g) v (12 + g) = nI ((Hq A g).length + 1) := fun v => by rw [pk_un (by omega), pk_us]
      rw [show (0 : Nat) + 13 = 13 from rfl, L13, if_pos (by decide), L12, L14]
      simp (disch := omega) only [Z_add, Z_vpb, if_pos, Z_ag0, Z_aw0, lt_d, z12, sAA]
      rw [L1, Z_add, z14, z12']
      rfl
  · have hS : ∀ j, (j < 12 ∨ 430 ≤ j) → upd (upd (va_cpy (t.2 9) s 0 (222 + 13 * (8 * g + (Hq A g).length)) 13) (12 + g) (nI ((Hq A g).length + 1))) (14 + g) (Hc A (10 + g) + 1) j = s j := fun j hj => by rw [pk_un (by omega), pk_un (by omega), pk_cpy_out (by omega)]
    refine ⟨RMf_c hf (fun j a => hS j (by omega)), ?_, ⟨(hS 11 (by omega)).trans hkk.1, fun g' hg' => ?_⟩, RMr_c hr (fun j a b => by rw [pk_un (by omega), pk_un (by omega), pk_cpy_out (by omega)]), fun g' k hg' hk => ?_, RMp_c hp (fun g hg => (Inv_pl bI hg).1) (fun j a b => hS j (by omega)), (show RMl (Hl A) _ from RMl_c hl (RMl_ok bI) (fun j a b => hS j (by omega)))⟩
    · refine RMc_setg (c := 0) (RMc_c hcc (fun j a b c d e => ?_)) hg (by decide) _
      rw [pk_un (by omega), pk_cpy_out (by omega)]
    · show _ = nI (up (Hq A) g _ g').length
      by_cases e : g' = g
      · subst e
        rw [pk_un (by omega), pk_us, up_s, hlen]
      · rw [pk_un (by omega), pk_un (by omega), pk_cpy_out (by omega), up_n e]
        exact hkk.2 g' hg'
    · have hk' : k < (up (Hq A) g (Hq A g ++ [w]) g').length := hk
      show wAt _ _ ((up (Hq A) g (Hq A g ++ [w]) g').getD k [])
      by_cases e : g' = g
      · subst e
        rw [up_s] at hk' ⊢
        rw [hlen] at hk'
        rw [gD_app]
        by_cases c : k < (Hq A g').length
        · rw [if_pos c]
          have := (Inv_qw bI hg c).2.1
          exact wAt_c (hq g' k hg c) (fun j a b => by rw [pk_un (by omega), pk_un (by omega), pk_cpy_out (by omega)])
        · have ek : k = (Hq A g').length := by omega
          rw [if_neg c, ek, Nat.sub_self]
          show wAt _ _ w
          have ec : ∀ j, j < 13 → upd (upd (va_cpy (t.2 9) s 0 (222 + 13 * (8 * g' + (Hq A g').length)) 13) (12 + g') (nI ((Hq A g').length + 1))) (14 + g') (Hc A (10 + g') + 1) (222 + 13 * (8 * g' + (Hq A g').length) + j) = t.2 9 j := fun j hj => by
            rw [pk_un (by omega), pk_un (by omega), pk_cpy_in (by omega) (by omega)]
            exact congrArg (t.2 9) (by omega)
          refine ⟨(ec 0 (by omega)).trans hw.1, fun x hx => ?_⟩
          rw [Nat.add_assoc (222 + 13 * (8 * g' + (Hq A g').length)), ec (1 + x) (by omega)]
          have := hw.2 x hx
          rwa [Nat.zero_add] at this
      · rw [up_n e] at hk' ⊢
        have h8' := (hQu g' hg').1
        have := (Inv_qw bI hg' hk').2.1
        exact wAt_c (hq g' k hg' hk') (fun j a b => by rw [pk_un (by omega), pk_un (by omega), pk_cpy_out (by omega)])
theorem M_msgN {A : AS} {t : HV} {s : Nat → Int32} (hM : RM A s) {g N : Nat} (hg : g < 2) (h8 : (Hq A g).length = 8) : F_X11_messageNow N (nI g) (sA t 0 s) = some (false, sA t 0 s) := by
  have k12 : s (12 + g) = nI (Hq A g).length := hM.2.2.1.2 g hg
  unfold F_X11_messageNow
  rw [if_pos (by rw [L12, Z_add, Z_vpb (by omega)]; omega), show ag (sA t 0 s) 0 (12 + nI g) = nI (Hq A g).length by rw [L12, Z_add, Z_ag0 (by omega), k12], h8, if_pos (show nI 8 = 8 from rfl)]
