/-! ===== vwr: writing a letter keeps the balances ===== -/
theorem apt_pl {A : AS} {T g : Nat} (hI : Inv A T) (hg : g < 2) (hw : (Hp A g).2.2 ≠ []) {m : Msg} (hm : m ∈ Hl A) : apt (g, (Hp A g).2.1, (Hp A g).2.2) m := by
  have hp := hI.2.2.2.2.2.2.2.2
  unfold msgs at hp
  obtain ⟨_, h2, h3⟩ := List.pairwise_append.mp hp
  obtain ⟨_, _, h5⟩ := List.pairwise_append.mp h2
  rcases (show g = 0 ∨ g = 1 by omega) with rfl | rfl
  · exact h3 _ (by unfold prg; rw [if_neg hw]; exact List.mem_singleton.mpr rfl) _ (List.mem_append_right _ hm)
  · exact h5 _ (by unfold prg; rw [if_neg hw]; exact List.mem_singleton.mpr rfl) _ hm
theorem apt_pp {A : AS} {T g g' : Nat} (hI : Inv A T) (hg : g < 2) (hg' : g' < 2) (hne : g' ≠ g) (hw : (Hp A g).2.2 ≠ []) (hw' : (Hp A g').2.2 ≠ []) : apt (g, (Hp A g).2.1, (Hp A g).2.2) (g', (Hp A g').2.1, (Hp A g').2.2) :=
  pw_ne hI.2.2.2.2.2.2.2.2 (msgs_p hg hw) (msgs_p hg' hw') (fun e => hne (congrArg Prod.fst e).symm)
theorem gdW_tw {R : Nat → Nat → Nat} {k c o l g s n : Nat} (h : gdW R g s n) (hk : ∀ x, x < n → s + x ≠ k) : gdW (twR R k c o l) g s n :=
  gdW_e h (fun x hx => ⟨twR_2n (hk x hx) 0, twR_2n (hk x hx) 1, twR_2n (hk x hx) 4⟩)
theorem lvW_tw {R : Nat → Nat → Nat} {k c o l s n : Nat} (h : lvW R s n) (hk : ∀ x, x < n → s + x ≠ k) : lvW (twR R k c o l) s n :=
  lvW_e h (fun x hx q => by rw [twR_2n (hk x hx)]; exact q)
theorem twR_at {R : Nat → Nat → Nat} {k c o l : Nat} : twR R k c o l 0 k = c ∧ twR R k c o l 1 k = o ∧ twR R k c o l 2 k = l ∧ twR R k c o l 4 k = R 4 k := by
  refine ⟨?_, ?_, ?_, twR_34 (by decide) k⟩ <;> unfold twR rowS <;> simp
theorem msgs_wr {A : AS} {g : Nat} (hg : g < 2) (hw : (Hp A g).2.2 ≠ []) : List.Perm (msgs A) (msgs (opWr A g)) := by
  unfold opWr
  by_cases c : (Hp A g).1 + 1 < (Hp A g).2.2.length
  · rw [if_pos c]
    have e : ∀ g', prg (Sp (opTw A ((Hp A g).2.1 + (Hp A g).1) ((Hp A g).2.2.getD (Hp A g).1 0) g 1) (up (Hp A) g ((Hp A g).1 + 1, (Hp A g).2.1, (Hp A g).2.2))) g' = prg A g' := fun g' => by
      unfold prg
      show (if (up (Hp A) g _ g').2.2 = [] then [] else [(g', (up (Hp A) g _ g').2.1, (up (Hp A) g _ g').2.2)]) = _
      by_cases e : g' = g
      · subst e; rw [up_s]
      · rw [up_n e]
    unfold msgs
    rw [e, e]
    exact List.Perm.refl _
  · rw [if_neg c]
    have e : ∀ g', g' ≠ g → prg (Sl (Sp (opTw A ((Hp A g).2.1 + (Hp A g).1) ((Hp A g).2.2.getD (Hp A g).1 0) g 1) (up (Hp A) g bare)) (Hl A ++ [(g, (Hp A g).2.1, (Hp A g).2.2)])) g' = prg A g' := fun g' h => by
      unfold prg
      show (if (up (Hp A) g bare g').2.2 = [] then [] else [(g', (up (Hp A) g bare g').2.1, (up (Hp A) g bare g').2.2)]) = _
      rw [up_n h]
    have e2 : prg (Sl (Sp (opTw A ((Hp A g).2.1 + (Hp A g).1) ((Hp A g).2.2.getD (Hp A g).1 0) g 1) (up (Hp A) g bare)) (Hl A ++ [(g, (Hp A g).2.1, (Hp A g).2.2)])) g = [] := by
      unfold prg
      show (if (up (Hp A) g bare g).2.2 = [] then [] else _) = _
      rw [up_s]
      exact if_pos rfl
    unfold msgs
    match g, hg with
    | 0, _ =>
      rw [e2, e 1 (by omega), prg_1 hw]
      show List.Perm (_ :: (prg A 1 ++ Hl A)) (prg A 1 ++ (Hl A ++ [_]))
      rw [← List.append_assoc]
      exact (List.perm_append_singleton _ _).symm
    | 1, _ =>
      rw [e2, e 0 (by omega), prg_1 hw]
      refine List.Perm.append_left _ ?_
      exact (List.perm_append_singleton _ _).symm
theorem Jk_wr {A : AS} {T g : Nat} (h : Jk A) (hI : Inv A T) (hg : g < 2) (hw : (Hp A g).2.2 ≠ []) : Jk (act (opWr A g)) := by
  obtain ⟨h1, h2, ⟨h3, h4⟩, ⟨h5, h6⟩⟩ := h
  have hpr := hI.2.2.2.2.2.1
  obtain ⟨k1, k2⟩ := (hpr g hg).2 hw
  have ho := prg_ok hI hg hw
  have hn : (Hp A g).2.1 + (Hp A g).2.2.length ≤ Hn A 0 := ho.2.2.1
  have hw4 : Hr A 4 ((Hp A g).2.1 + (Hp A g).1) = (Hp A g).2.2.getD (Hp A g).1 0 := ho.2.2.2 _ k1
  obtain ⟨K, hK⟩ : ∃ K, K = (Hp A g).2.1 + (Hp A g).1 := ⟨_, rfl⟩
  obtain ⟨W, hW⟩ : ∃ W, W = (Hp A g).2.2.getD (Hp A g).1 0 := ⟨_, rfl⟩
  have hr : Hr (act (opWr A g)) = twR (Hr A) K W g 1 := by
    rw [hK, hW]
    show Hr (opWr A g) = _
    unfold opWr
    split <;> rfl
  have hc : Hc (act (opWr A g)) = up (Hc A) 0 (Hc A 0 + 1) := by
    show Hc (opWr A g) = _
    unfold opWr
    split <;> rfl
  have hq : Hq (act (opWr A g)) = Hq A := by
    show Hq (opWr A g) = _
    unfold opWr
    split <;> rfl
  have hn0 : Hn (act (opWr A g)) 0 = Hn A 0 := by
    show up (Hn (opWr A g)) 7 (Hn (opWr A g) 7 - 1) 0 = _
    rw [up_n (by decide)]
    unfold opWr
    split <;> rfl
  have t := @twR_at (Hr A) K W g 1
  have ownG : gdW (twR (Hr A) K W g 1) g (Hp A g).2.1 ((Hp A g).1 + 1) := by
    intro x hx
    by_cases e : x = (Hp A g).1
    · rw [e, ← hK, t.1, t.2.2.2, t.2.1, hK, hw4, ← hW]
      exact ⟨rfl, rfl⟩
    · exact gdW_tw (n := (Hp A g).1) (h3 g hg) (fun x _ => by omega) x (by omega)
  have ownL : lvW (twR (Hr A) K W g 1) (Hp A g).2.1 ((Hp A g).1 + 1) := by
    intro x hx
    by_cases e : x = (Hp A g).1
    · rw [e, ← hK, t.2.2.1]
      decide
    · exact lvW_tw (n := (Hp A g).1) (h5 g hg) (fun x _ => by omega) x (by omega)
  have othG : ∀ g', g' < 2 → g' ≠ g → gdW (twR (Hr A) K W g 1) g' (Hp A g').2.1 (Hp A g').1 ∧ lvW (twR (Hr A) K W g 1) (Hp A g').2.1 (Hp A g').1 := fun g' hg' hne => by
    by_cases w' : (Hp A g').2.2 = []
    · rw [(hpr g' hg').1 w']
      exact ⟨fun x hx => absurd hx (Nat.not_lt_zero _), fun x hx => absurd hx (Nat.not_lt_zero _)⟩
    · have ha := apt_pp hI hg hg' hne hw w'
      have hl := ((hpr g' hg').2 w').1
      unfold apt at ha
      dsimp only at ha
      exact ⟨gdW_tw (h3 g' hg') (fun x hx => by omega), lvW_tw (h5 g' hg') (fun x hx => by omega)⟩
  have othM : ∀ m ∈ Hl A, gdW (twR (Hr A) K W g 1) m.1 m.2.1 m.2.2.length ∧ lvW (twR (Hr A) K W g 1) m.2.1 m.2.2.length := fun m hm => by
    have ha := apt_pl hI hg hw hm
    unfold apt at ha
    dsimp only at ha
    exact ⟨gdW_tw (h4 m hm) (fun x hx => by omega), lvW_tw (h6 m hm) (fun x hx => by omega)⟩
  refine ⟨?_, fun g' hg' => ?_, ?_, ?_⟩
  · refine Jt_e (A := opTw A K W g 1) (Jt_tw h1 (by omega) (by rw [hK]; exact k2 _ (Nat.le_refl _) k1) (by decide)) hn0 (fun j => by rw [hr]; exact Iff.rfl) (fun i _ => by rw [hc]; rfl)
  · refine Jm_e (h2 g' hg') ?_ (fun i hi => by rw [hc, up_n (by omega)])
    rw [hq, show msgs (act (opWr A g)) = msgs (opWr A g) from rfl, cntM_perm (msgs_wr hg hw)]
  · unfold Jx
    rw [hr]
    show (∀ g', g' < 2 → gdW _ g' (Hp (opWr A g) g').2.1 (Hp (opWr A g) g').1) ∧ ∀ m ∈ Hl (opWr A g), gdW _ m.1 m.2.1 m.2.2.length
    unfold opWr
    by_cases c : (Hp A g).1 + 1 < (Hp A g).2.2.length
    · rw [if_pos c]
      refine ⟨fun g' hg' => ?_, fun m hm => (othM m hm).1⟩
      show gdW _ g' (up (Hp A) g _ g').2.1 (up (Hp A) g _ g').1
      by_cases e : g' = g
      · subst e; rw [up_s]; exact ownG
      · rw [up_n e]; exact (othG g' hg' e).1
    · rw [if_neg c]
      refine ⟨fun g' hg' => ?_, fun m hm => ?_⟩
      · show gdW _ g' (up (Hp A) g bare g').2.1 (up (Hp A) g bare g').1
        by_cases e : g' = g
        · subst e; rw [up_s]; exact fun x hx => absurd hx (Nat.not_lt_zero _)
        · rw [up_n e]; exact (othG g' hg' e).1
      · rcases List.mem_append.mp hm with hm | hm
        · exact (othM m hm).1
        · rw [List.mem_singleton.mp hm]
          show gdW _ g (Hp A g).2.1 (Hp A g).2.2.length
          rw [show (Hp A g).2.2.length = (Hp A g).1 + 1 by omega]
          exact ownG
  · unfold Jl
    rw [hr]
    show (∀ g', g' < 2 → lvW _ (Hp (opWr A g) g').2.1 (Hp (opWr A g) g').1) ∧ ∀ m ∈ Hl (opWr A g), lvW _ m.2.1 m.2.2.length
    unfold opWr
    by_cases c : (Hp A g).1 + 1 < (Hp A g).2.2.length
    · rw [if_pos c]
      refine ⟨fun g' hg' => ?_, fun m hm => (othM m hm).2⟩
      show lvW _ (up (Hp A) g _ g').2.1 (up (Hp A) g _ g').1
      by_cases e : g' = g
      · subst e; rw [up_s]; exact ownL
      · rw [up_n e]; exact (othG g' hg' e).2
    · rw [if_neg c]
      refine ⟨fun g' hg' => ?_, fun m hm => ?_⟩
      · show lvW _ (up (Hp A) g bare g').2.1 (up (Hp A) g bare g').1
        by_cases e : g' = g
        · subst e; rw [up_s]; exact fun x hx => absurd hx (Nat.not_lt_zero _)
        · rw [up_n e]; exact (othG g' hg' e).2
      · rcases List.mem_append.mp hm with hm | hm
        · exact (othM m hm).2
        · rw [List.mem_singleton.mp hm]
          show lvW _ (Hp A g).2.1 (Hp A g).2.2.length
          rw [show (Hp A g).2.2.length = (Hp A g).1 + 1 by omega]
          exact ownL
