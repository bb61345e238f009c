/-! ===== vbeg: beginning a message, writing on; deliveries ===== -/
theorem eraseIdx0_len {α : Type} {L : List α} (h : 0 < L.length) : (L.eraseIdx 0).length + 1 = L.length := by
  rw [List.length_eraseIdx, if_pos h]
  omega
theorem Jk_beg {A : AS} {T g k : Nat} (h : Jk A) (hI : Inv A T) (hg : g < 2) (hw : (Hp A g).2.2 = []) (hf : fStart (Hr A) (Hn A 0) ((Hq A g).getD 0 []).length = some k) : Jk (opBeg A g k ((Hq A g).getD 0 [])) := by
  obtain ⟨h1, h2, ⟨h3, h4⟩, ⟨h5, h6⟩⟩ := h
  have hpr := hI.2.2.2.2.2.1
  obtain ⟨f0, f1, f2, f3, f4⟩ := fSt hf
  have hq0 : 0 < (Hq A g).length := by
    by_cases c : 0 < (Hq A g).length
    · exact c
    · rw [gD_no (by omega)] at f0
      exact absurd f0 (Nat.not_lt_zero _)
  generalize hwd : (Hq A g).getD 0 [] = w at f0 f1 f2 f3 f4
  have hbn : ∀ a j, a ≠ 4 → bookR (Hr A) k w a j = Hr A a j := fun a j ha => bookR_n ha j
  -- a written letter's slot is not among the free ones
  have hfar : ∀ s n, (∀ x, x < n → 0 < Hr A 2 (s + x)) → ∀ x, x < n → bookR (Hr A) k w 4 (s + x) = Hr A 4 (s + x) := fun s n hl x hx => by
    refine bookR_out 4 (fun q => ?_)
    have := (fre (f2 (s + x - k) (by omega))).1
    rw [show k + (s + x - k) = s + x by omega] at this
    have := hl x hx
    omega
  refine ⟨Jt_e h1 rfl (fun j => by show 0 < bookR (Hr A) k w 2 j ↔ _; rw [hbn 2 j (by decide)]) (fun _ _ => rfl), fun g' hg' => ?_, ⟨fun g' hg' => ?_, fun m hm => ?_⟩, ⟨fun g' hg' => ?_, fun m hm => ?_⟩⟩
  · refine Jm_e (h2 g' hg') ?_ (fun _ _ => rfl)
    rw [msgs_cnt hg', msgs_cnt hg']
    show (up (Hq A) g ((Hq A g).eraseIdx 0) g').length + ((if (up (Hp A) g (0, k, w) g').2.2 ≠ [] then 1 else 0) + cntM g' (Hl A)) = _
    by_cases e : g' = g
    · subst e
      rw [up_s, up_s, if_pos (show ((0, k, w) : Nat × Nat × List Nat).2.2 ≠ [] from fun e => by simp only at e; rw [e] at f0; exact absurd f0 (by decide)), if_neg (fun q => q hw)]
      have := eraseIdx0_len hq0
      omega
    · rw [up_n e, up_n e]
  · show gdW (bookR (Hr A) k w) g' (up (Hp A) g (0, k, w) g').2.1 (up (Hp A) g (0, k, w) g').1
    by_cases e : g' = g
    · subst e; rw [up_s]; exact fun x hx => absurd hx (Nat.not_lt_zero _)
    · rw [up_n e]
      exact gdW_e (h3 g' hg') (fun x hx => ⟨hbn 0 _ (by decide), hbn 1 _ (by decide), hfar _ _ (h5 g' hg') x hx⟩)
  · exact gdW_e (h4 m hm) (fun x hx => ⟨hbn 0 _ (by decide), hbn 1 _ (by decide), hfar _ _ (h6 m hm) x hx⟩)
  · show lvW (bookR (Hr A) k w) (up (Hp A) g (0, k, w) g').2.1 (up (Hp A) g (0, k, w) g').1
    by_cases e : g' = g
    · subst e; rw [up_s]; exact fun x hx => absurd hx (Nat.not_lt_zero _)
    · rw [up_n e]
      exact lvW_e (h5 g' hg') (fun x hx q => by rw [hbn 2 _ (by decide)]; exact q)
  · exact lvW_e (h6 m hm) (fun x hx q => by show 0 < bookR (Hr A) k w 2 _; rw [hbn 2 _ (by decide)]; exact q)
theorem Jk_wrAll {T g : Nat} (hg : g < 2) : ∀ (n : Nat) (A : AS), Jk A → Inv A T → Jk (wrAll g n A)
  | 0, A, h, _ => h
  | n + 1, A, h, hI => by
    unfold wrAll
    by_cases c : (Hp A g).2.2 ≠ []
    · rw [if_pos c]
      exact Jk_wrAll hg n _ (Jk_wr h hI hg c) (Inv_act (Inv_wr hI hg c))
    · rw [if_neg c]
      have c2 : (Hp A g).2.2 = [] := Classical.byContradiction c
      cases e : fStart (Hr A) (Hn A 0) ((Hq A g).getD 0 []).length with
      | none => exact h
      | some k =>
        obtain ⟨i1, i2, _⟩ := Inv_beg hI hg c2 e
        exact Jk_wrAll hg n _ (Jk_wr (Jk_beg h hI hg c2 e) i1 hg i2) (Inv_act (Inv_wr i1 hg i2))
