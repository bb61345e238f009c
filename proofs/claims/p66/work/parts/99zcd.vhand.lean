/-! ===== vhand: what a gardener does by hand keeps the balances ===== -/
theorem wr_p {A : AS} {T g x : Nat} (hI : Inv A T) (hg : g < 2) (hx : x < (Hp A g).1) : 0 < Hr A 4 ((Hp A g).2.1 + x) := by
  by_cases w : (Hp A g).2.2 = []
  · rw [(hI.2.2.2.2.2.1 g hg).1 w] at hx
    exact absurd hx (Nat.not_lt_zero _)
  · have ho := prg_ok hI hg w
    have hl := ((hI.2.2.2.2.2.1 g hg).2 w).1
    have h4 : Hr A 4 ((Hp A g).2.1 + x) = (Hp A g).2.2.getD x 0 := ho.2.2.2 x (show x < (Hp A g).2.2.length by omega)
    have h97 := (ho.2.1.2.2 x (show x < (Hp A g).2.2.length by omega)).1
    simp only at h97
    omega
theorem wr_m {A : AS} {T x : Nat} (hI : Inv A T) {m : Msg} (hm : m ∈ Hl A) (hx : x < m.2.2.length) : 0 < Hr A 4 (m.2.1 + x) := by
  have ho := okl hI hm
  have h4 := ho.2.2.2 x hx
  have h97 := (ho.2.1.2.2 x hx).1
  omega
theorem Jxl_loc {A B : AS} {T k : Nat} (hI : Inv A T) (hx : Jx A) (hl : Jl A) (h4 : Hr A 4 k = 0) (ep : Hp B = Hp A) (el : Hl B = Hl A) (er : ∀ a j, j ≠ k → Hr B a j = Hr A a j) : Jx B ∧ Jl B := by
  obtain ⟨h3, h5⟩ := hx
  obtain ⟨h6, h7⟩ := hl
  have np : ∀ g x, g < 2 → x < (Hp A g).1 → (Hp A g).2.1 + x ≠ k := fun g x hg hx e => by
    have := wr_p hI hg hx
    rw [e, h4] at this
    exact absurd this (Nat.lt_irrefl _)
  have nm : ∀ m x, m ∈ Hl A → x < m.2.2.length → m.2.1 + x ≠ k := fun m x hm hx e => by
    have := wr_m hI hm hx
    rw [e, h4] at this
    exact absurd this (Nat.lt_irrefl _)
  refine ⟨⟨fun g hg => ?_, fun m hm => ?_⟩, ⟨fun g hg => ?_, fun m hm => ?_⟩⟩
  · rw [ep]
    exact gdW_e (h3 g hg) (fun x hx => ⟨er 0 _ (np g x hg hx), er 1 _ (np g x hg hx), er 4 _ (np g x hg hx)⟩)
  · rw [el] at hm
    exact gdW_e (h5 m hm) (fun x hx => ⟨er 0 _ (nm m x hm hx), er 1 _ (nm m x hm hx), er 4 _ (nm m x hm hx)⟩)
  · rw [ep]
    exact lvW_e (h6 g hg) (fun x hx q => by rw [er 2 _ (np g x hg hx)]; exact q)
  · rw [el] at hm
    exact lvW_e (h7 m hm) (fun x hx q => by rw [er 2 _ (nm m x hm hx)]; exact q)
theorem act_0 {A : AS} : Hn (act A) 0 = Hn A 0 := up_n (f := Hn A) (v := Hn A 7 - 1) (show (0 : Nat) ≠ 7 by decide)
theorem Jk_act {A : AS} (h : Jk A) : Jk (act A) := Jk_e h act_0 rfl rfl rfl rfl (fun _ => Iff.rfl) (fun _ _ _ => rfl)
theorem Jk_pl {A : AS} {T k c : Nat} (hI : Inv A T) (h : Jk A) (hk : k < Hn A 0) (h2 : Hr A 2 k = 0) (h4 : Hr A 4 k = 0) : Jk (opPl A k c) := by
  obtain ⟨j1, j2, j3, j4⟩ := h
  have hx := Jxl_loc (B := opTw A k c (Hn A 6 % 2) 1) hI j3 j4 h4 rfl rfl (fun a j hj => twR_2n hj a)
  exact Jk_act ⟨Jt_tw j1 hk h2 (by decide), fun g hg => Jm_e (j2 g hg) rfl (fun i hi => up_n (show i ≠ 0 by omega)), hx.1, hx.2⟩
theorem Jk_rem {A : AS} {T k : Nat} (hI : Inv A T) (h : Jk A) (hk : k < Hn A 0) (h2 : 0 < Hr A 2 k) (h4 : Hr A 4 k = 0) : Jk (opRem A k) := by
  obtain ⟨j1, j2, j3, j4⟩ := h
  have hx := Jxl_loc (B := opRem A k) hI j3 j4 h4 rfl rfl (fun a j hj => rowS_k hj a)
  exact ⟨Jt_rem j1 hk h2, fun g hg => Jm_e (j2 g hg) rfl (fun i hi => up_n (show i ≠ 2 by omega)), hx.1, hx.2⟩
theorem Jk_trm {A : AS} {k c : Nat} (h : Jk A) (h2 : 0 < Hr A 2 k) : Jk (opTrm A k c) := by
  refine Jk_act (Jk_e h rfl rfl rfl rfl rfl (fun j => ?_) (fun a j ha => rowS_a (by omega) j))
  show 0 < rowS (Hr A) 2 k (trmV (Hr A 2 k) c) 2 j ↔ _
  by_cases e : j = k
  · rw [e, rowS_at]
    exact ⟨fun _ => h2, fun _ => trmV_pos⟩
  · rw [rowS_k e]
theorem Jk_nst {A : AS} {k d : Nat} (h : Jk A) : Jk (opNst A k d) :=
  Jk_e h rfl rfl rfl rfl rfl (fun j => by show 0 < rowS (Hr A) 3 k d 2 j ↔ _; rw [rowS_a (by decide)]) (fun a j ha => rowS_a (by omega) j)
theorem Jk_lim {A : AS} {l : Nat} (h : Jk A) : Jk (limA A l) := Jk_e h (up_n (f := Hn A) (v := l) (show (0 : Nat) ≠ 1 by decide)) rfl rfl rfl rfl (fun _ => Iff.rfl) (fun _ _ _ => rfl)
theorem Jk_que {A : AS} {g : Nat} {w : List Nat} (h : Jk A) (hg : g < 2) : Jk (opQue A g w) := by
  obtain ⟨j1, j2, j3, j4⟩ := h
  refine ⟨Jt_e j1 rfl (fun _ => Iff.rfl) (fun i hi => up_n (show i ≠ 10 + g by omega)), fun g' hg' => ?_, j3, j4⟩
  have hj := j2 g' hg'
  unfold Jm at hj ⊢
  rw [msgs_cnt hg'] at hj ⊢
  show ((up (Hc A) (10 + g) (Hc A (10 + g) + 1) (10 + g') - up (Hc A) (10 + g) (Hc A (10 + g) + 1) (12 + g')) - up (Hc A) (10 + g) (Hc A (10 + g) + 1) (16 + g')) = nI ((up (Hq A) g (Hq A g ++ [w]) g').length + ((if (Hp A g').2.2 ≠ [] then 1 else 0) + cntM g' (Hl A)))
  rw [up_n (show 12 + g' ≠ 10 + g by omega), up_n (show 16 + g' ≠ 10 + g by omega)]
  by_cases e : g' = g
  · subst e
    rw [up_s, up_s, List.length_append, show [w].length = 1 from rfl, show (Hq A g').length + 1 + ((if (Hp A g').2.2 ≠ [] then 1 else 0) + cntM g' (Hl A)) = (Hq A g').length + ((if (Hp A g').2.2 ≠ [] then 1 else 0) + cntM g' (Hl A)) + 1 by omega, ← nI_s, ← hj]
    have hx : ∀ a b c : Int32, (a + 1) - b - c = (a - b - c) + 1 := fun a b c => by grind
    exact hx _ _ _
  · rw [up_n (show 10 + g' ≠ 10 + g by omega), up_n e]
    exact hj
theorem eraseIdx_len {α : Type} {L : List α} {m : Nat} (h : m < L.length) : (L.eraseIdx m).length + 1 = L.length := by
  rw [List.length_eraseIdx, if_pos h]
  omega
theorem Jk_can {A : AS} {g m : Nat} (h : Jk A) (hg : g < 2) (hm : m < (Hq A g).length) : Jk (opCan A g m) := by
  obtain ⟨j1, j2, j3, j4⟩ := h
  refine ⟨Jt_e j1 rfl (fun _ => Iff.rfl) (fun i hi => up_n (show i ≠ 16 + g by omega)), fun g' hg' => ?_, j3, j4⟩
  have hj := j2 g' hg'
  unfold Jm at hj ⊢
  rw [msgs_cnt hg'] at hj ⊢
  show ((up (Hc A) (16 + g) (Hc A (16 + g) + 1) (10 + g') - up (Hc A) (16 + g) (Hc A (16 + g) + 1) (12 + g')) - up (Hc A) (16 + g) (Hc A (16 + g) + 1) (16 + g')) = nI ((up (Hq A) g ((Hq A g).eraseIdx m) g').length + ((if (Hp A g').2.2 ≠ [] then 1 else 0) + cntM g' (Hl A)))
  rw [up_n (show 10 + g' ≠ 16 + g by omega), up_n (show 12 + g' ≠ 16 + g by omega)]
  by_cases e : g' = g
  · subst e
    rw [up_s, up_s]
    rw [← eraseIdx_len hm, show ((Hq A g').eraseIdx m).length + 1 + ((if (Hp A g').2.2 ≠ [] then 1 else 0) + cntM g' (Hl A)) = ((Hq A g').eraseIdx m).length + ((if (Hp A g').2.2 ≠ [] then 1 else 0) + cntM g' (Hl A)) + 1 by omega, ← nI_s] at hj
    have hx : ∀ a b c n : Int32, a - b - c = n + 1 → a - b - (c + 1) = n := fun a b c n h => by grind
    exact hx _ _ _ _ hj
  · rw [up_n (show 16 + g' ≠ 16 + g by omega), up_n e]
    exact hj
