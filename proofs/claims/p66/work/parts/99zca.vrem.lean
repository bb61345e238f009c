/-! ===== vrem: a posted message goes: delivered or failed ===== -/
theorem dis_l {A : AS} {T : Nat} (hI : Inv A T) {m : Msg} {K M : List Msg} (e : Hl A = K ++ m :: M) : ∀ m' ∈ K ++ M, m'.2.1 + m'.2.2.length < m.2.1 ∨ m.2.1 + m.2.2.length < m'.2.1 := by
  have hp := hI.2.2.2.2.2.2.2.2
  unfold msgs at hp
  obtain ⟨_, h2, _⟩ := List.pairwise_append.mp hp
  obtain ⟨_, h4, _⟩ := List.pairwise_append.mp h2
  rw [e] at h4
  obtain ⟨_, h6, h7⟩ := List.pairwise_append.mp h4
  obtain ⟨h8, _⟩ := List.pairwise_cons.mp h6
  intro m' hm'
  rcases List.mem_append.mp hm' with h | h
  · exact h7 m' h m List.mem_cons_self
  · exact (h8 m' h).symm
theorem gdW_clr {R : Nat → Nat → Nat} {g s n s0 n0 : Nat} (h : gdW R g s n) (hd : s + n ≤ s0 ∨ s0 + n0 ≤ s) : gdW (clrR R s0 n0) g s n :=
  gdW_e h (fun x hx => ⟨if_neg (fun q => by omega), if_neg (fun q => by omega), if_neg (fun q => by omega)⟩)
theorem lvW_clr {R : Nat → Nat → Nat} {s n s0 n0 : Nat} (h : lvW R s n) (hd : s + n ≤ s0 ∨ s0 + n0 ≤ s) : lvW (clrR R s0 n0) s n :=
  lvW_e h (fun x hx q => by rw [show clrR R s0 n0 2 (s + x) = R 2 (s + x) from if_neg (fun q => by omega)]; exact q)
theorem prg_far {A : AS} {T g : Nat} (hI : Inv A T) (hg : g < 2) {m : Msg} (hm : m ∈ Hl A) : (Hp A g).1 = 0 ∨ (Hp A g).2.1 + (Hp A g).1 ≤ m.2.1 ∨ m.2.1 + m.2.2.length ≤ (Hp A g).2.1 := by
  by_cases w : (Hp A g).2.2 = []
  · rw [(hI.2.2.2.2.2.1 g hg).1 w]
    exact Or.inl rfl
  · have ha := apt_pl hI hg w hm
    have hl := ((hI.2.2.2.2.2.1 g hg).2 w).1
    unfold apt at ha
    dsimp only at ha
    omega
/-- the written letters, without m -/
theorem rem_x {A : AS} {T : Nat} (hI : Inv A T) {m : Msg} {K M : List Msg} (e : Hl A = K ++ m :: M) (h : Jx A) : (∀ g, g < 2 → gdW (clrR (Hr A) m.2.1 m.2.2.length) g (Hp A g).2.1 (Hp A g).1) ∧ ∀ m' ∈ K ++ M, gdW (clrR (Hr A) m.2.1 m.2.2.length) m'.1 m'.2.1 m'.2.2.length := by
  have hmem : m ∈ Hl A := by rw [e]; exact List.mem_append_right _ List.mem_cons_self
  refine ⟨fun g hg => ?_, fun m' hm' => ?_⟩
  · rcases prg_far hI hg hmem with h0 | h0
    · rw [h0]; exact fun x hx => absurd hx (Nat.not_lt_zero _)
    · exact gdW_clr (h.1 g hg) h0
  · refine gdW_clr (h.2 m' ?_) ?_
    · rw [e]
      exact (List.mem_append.mp hm').elim (fun q => List.mem_append_left _ q) (fun q => List.mem_append_right _ (List.mem_cons_of_mem _ q))
    · have := dis_l hI e m' hm'
      omega
theorem rem_l1 {A : AS} {T : Nat} (hI : Inv A T) {m : Msg} (hmem : m ∈ Hl A) (h : ∀ g, g < 2 → lvW (Hr A) (Hp A g).2.1 (Hp A g).1) : ∀ g, g < 2 → lvW (clrR (Hr A) m.2.1 m.2.2.length) (Hp A g).2.1 (Hp A g).1 := fun g hg => by
  rcases prg_far hI hg hmem with h0 | h0
  · rw [h0]; exact fun x hx => absurd hx (Nat.not_lt_zero _)
  · exact lvW_clr (h g hg) h0
theorem rem_l2 {A : AS} {T : Nat} (hI : Inv A T) {m : Msg} {K M : List Msg} (e : Hl A = K ++ m :: M) {m' : Msg} (hm' : m' ∈ K ++ M) (h : lvW (Hr A) m'.2.1 m'.2.2.length) : lvW (clrR (Hr A) m.2.1 m.2.2.length) m'.2.1 m'.2.2.length := by
  refine lvW_clr h ?_
  have := dis_l hI e m' hm'
  omega
theorem cntM_rem {g : Nat} {m : Msg} {K M : List Msg} : cntM g (K ++ m :: M) = cntM g (K ++ M) + if m.1 = g then 1 else 0 := by
  rw [cntM_app, cntM_app]
  show cntM g K + ((if m.1 = g then 1 else 0) + cntM g M) = _
  omega
theorem okl {A : AS} {T : Nat} (hI : Inv A T) {m : Msg} (hm : m ∈ Hl A) : okMs (Hr A) (Hn A 0) m := hI.2.2.2.2.2.2.1 m (List.mem_append_right _ (List.mem_append_right _ hm))
theorem Jk_del {A : AS} {T g : Nat} {m : Msg} {K M : List Msg} {B : AS} (hI : Inv A T) (h : Jk A) (e : Hl A = K ++ m :: M) (hf : fDel g A m = some B) : Jk (Sl B (K ++ M)) := by
  have hmem : m ∈ Hl A := by rw [e]; exact List.mem_append_right _ List.mem_cons_self
  have ho := okl hI hmem
  have hB : B = opDel A m := by
    unfold fDel at hf
    by_cases c : m.1 = g
    · rw [if_pos c] at hf; exact (Option.some.inj hf).symm
    · rw [if_neg c] at hf; cases hf
  subst hB
  obtain ⟨h1, h2, h3, h4⟩ := h
  have hc : Hc (Sl (opDel A m) (K ++ M)) = up (Hc (opClr A m.2.1 m.2.2.length)) (12 + m.1) (Hc (opClr A m.2.1 m.2.2.length) (12 + m.1) + 1) := rfl
  have hcc : Hc (opClr A m.2.1 m.2.2.length) = up (Hc A) 2 (Hc A 2 + nI (cntT (Hr A) m.2.1 m.2.2.length)) := rfl
  refine ⟨Jt_e (Jt_clr h1 ho.2.2.1) rfl (fun j => Iff.rfl) (fun i hi => by rw [hc, up_n (by omega)]), fun g' hg' => ?_, rem_x hI e h3, rem_l1 hI hmem h4.1, fun m' hm' => rem_l2 hI e hm' (h4.2 m' ?_)⟩
  · have hj := h2 g' hg'
    unfold Jm at hj ⊢
    rw [msgs_cnt hg'] at hj ⊢
    rw [hc, up_n (show 10 + g' ≠ 12 + m.1 by have := ho.1; omega), up_n (show 16 + g' ≠ 12 + m.1 by have := ho.1; omega), hcc, up_n (show 10 + g' ≠ 2 by omega), up_n (show 16 + g' ≠ 2 by omega), up_n (show 12 + m.1 ≠ 2 by omega)]
    show _ = nI ((Hq A g').length + ((if (Hp A g').2.2 ≠ [] then 1 else 0) + cntM g' (K ++ M)))
    rw [e, cntM_rem] at hj
    by_cases c : m.1 = g'
    · rw [c, up_s]
      rw [if_pos c, ← Nat.add_assoc, ← Nat.add_assoc, ← nI_s] at hj
      rw [← Nat.add_assoc]
      have hg2 : ∀ a b c n : Int32, a - b - c = n + 1 → a - (b + 1) - c = n := fun a b c n h => by grind
      exact hg2 _ _ _ _ hj
    · rw [up_n (show 12 + g' ≠ 12 + m.1 by omega), up_n (show 12 + g' ≠ 2 by omega)]
      rw [if_neg c] at hj
      exact hj
  · rw [e]
    exact (List.mem_append.mp hm').elim (fun q => List.mem_append_left _ q) (fun q => List.mem_append_right _ (List.mem_cons_of_mem _ q))
theorem Jk_sift {f : AS → Msg → Option AS} {T : Nat} (hi : ∀ A m K M B, Inv A T → Hl A = K ++ m :: M → f A m = some B → Inv (Sl B (K ++ M)) T) (hj : ∀ A m K M B, Inv A T → Jk A → Hl A = K ++ m :: M → f A m = some B → Jk (Sl B (K ++ M))) : ∀ (L K : List Msg) (A : AS), Inv A T → Jk A → Hl A = K ++ L → Jk (sift f L K A)
  | [], _, _, _, h, _ => h
  | m :: L, K, A, hI, h, e => by
    unfold sift
    cases hf : f A m with
    | some B => exact Jk_sift hi hj L K _ (hi A m K L B hI e hf) (hj A m K L B hI h e hf) rfl
    | none => exact Jk_sift hi hj L (K ++ [m]) A hI h (by rw [e, List.append_assoc]; rfl)
