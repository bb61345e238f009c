/-! ===== vday: an inspection, a day, days keep the balances ===== -/
theorem J3_fip {A : AS} {T g : Nat} (hI : Inv A T) (h : J3 A) (hg : g < 2) : J3 (opFIP A g) := by
  unfold opFIP
  by_cases c : lostB (Hr A) (Hp A g).2.1 (Hp A g).1 = true
  · rw [if_pos c]
    have hw := lost_ne hI hg c
    have ho := prg_ok hI hg hw
    obtain ⟨h1, h2, h3, h4⟩ := h
    refine ⟨Jt_e (Jt_fail (m := (g, (Hp A g).2.1, (Hp A g).2.2)) h1 ho.2.2.1) rfl (fun j => Iff.rfl) (fun _ _ => rfl), fun g' hg' => Jm_fail (m := (g, (Hp A g).2.1, (Hp A g).2.2)) hg hg' (h2 g' hg') rfl rfl ?_, ?_⟩
    · rw [msgs_cnt hg', msgs_cnt hg']
      show (if (up (Hp A) g bare g').2.2 ≠ [] then 1 else 0) + cntM g' (Hl (opFail A _)) + (if g = g' then 1 else 0) = _
      rw [opFail_l]
      by_cases e : g' = g
      · subst e
        rw [up_s, if_pos rfl, if_pos hw, if_neg (show ¬ bare.2.2 ≠ [] from fun q => q rfl)]
        omega
      · rw [up_n e, if_neg (show ¬ g = g' from fun q => e q.symm)]
        omega
    · unfold Jx
      show (∀ g', g' < 2 → gdW (Hr (opFail A (g, (Hp A g).2.1, (Hp A g).2.2))) g' (up (Hp A) g bare g').2.1 (up (Hp A) g bare g').1) ∧ ∀ m' ∈ Hl (opFail A (g, (Hp A g).2.1, (Hp A g).2.2)), gdW (Hr (opFail A (g, (Hp A g).2.1, (Hp A g).2.2))) m'.1 m'.2.1 m'.2.2.length
      rw [opFail_r, opFail_l]
      refine ⟨fun g' hg' => ?_, fun m' hm' => ?_⟩
      · by_cases e : g' = g
        · subst e
          rw [up_s]
          exact fun x hx => absurd hx (Nat.not_lt_zero _)
        · rw [up_n e]
          by_cases w' : (Hp A g').2.2 = []
          · rw [(hI.2.2.2.2.2.1 g' hg').1 w']
            exact fun x hx => absurd hx (Nat.not_lt_zero _)
          · have ha := apt_pp hI hg hg' e hw w'
            have hl := ((hI.2.2.2.2.2.1 g' hg').2 w').1
            unfold apt at ha
            dsimp only at ha
            exact gdW_clr (h3 g' hg') (by dsimp only; omega)
      · have ha := apt_pl hI hg hw hm'
        unfold apt at ha
        dsimp only at ha
        exact gdW_clr (h4 m' hm') (by dsimp only; omega)
  · rw [if_neg c]
    exact h
theorem Jp_fip {A : AS} {T g : Nat} (hg : g < 2) : Jp (opFIP A g) g := by
  unfold opFIP
  by_cases c : lostB (Hr A) (Hp A g).2.1 (Hp A g).1 = true
  · rw [if_pos c]
    unfold Jp
    show lvW _ (up (Hp A) g bare g).2.1 (up (Hp A) g bare g).1
    rw [up_s]
    exact fun x hx => absurd hx (Nat.not_lt_zero _)
  · rw [if_neg c]
    exact lost_lv c
theorem Jp_fip2 {A : AS} {T g g' : Nat} (hI : Inv A T) (hg : g < 2) (hg' : g' < 2) (hne : g' ≠ g) (h : Jp A g') : Jp (opFIP A g) g' := by
  unfold opFIP
  by_cases c : lostB (Hr A) (Hp A g).2.1 (Hp A g).1 = true
  · rw [if_pos c]
    have hw := lost_ne hI hg c
    unfold Jp
    show lvW (Hr (opFail A (g, (Hp A g).2.1, (Hp A g).2.2))) (up (Hp A) g bare g').2.1 (up (Hp A) g bare g').1
    rw [opFail_r, up_n hne]
    by_cases w' : (Hp A g').2.2 = []
    · rw [(hI.2.2.2.2.2.1 g' hg').1 w']
      exact fun x hx => absurd hx (Nat.not_lt_zero _)
    · have ha := apt_pp hI hg hg' hne hw w'
      have hl := ((hI.2.2.2.2.2.1 g' hg').2 w').1
      unfold apt at ha
      dsimp only at ha
      exact lvW_clr h (by dsimp only; omega)
  · rw [if_neg c]
    exact h
theorem sF_live {T : Nat} : ∀ (L K : List Msg) (A : AS), Inv A T → J3 A → (∀ g, g < 2 → Jp A g) → Hl A = K ++ L → (∀ m ∈ K, lvW (Hr A) m.2.1 m.2.2.length) → Jk (sift fFail L K A)
  | [], K, A, _, h, hp, e, hk => ⟨h.1, h.2.1, h.2.2, hp, fun m hm => hk m (by have h9 : m ∈ Hl A := hm; rw [e, List.append_nil] at h9; exact h9)⟩
  | m :: L, K, A, hI, h, hp, e, hk => by
    have hmem : m ∈ Hl A := by rw [e]; exact List.mem_append_right _ List.mem_cons_self
    unfold sift fFail
    by_cases c : lostB (Hr A) m.2.1 m.2.2.length = true
    · rw [if_pos c]
      refine sF_live L K _ (Inv_failP hI e) (J3_failP hI h e) (fun g hg => ?_) rfl (fun m' hm' => ?_)
      · show lvW (Hr (opFail A m)) (Hp (opFail A m) g).2.1 (Hp (opFail A m) g).1
        rw [opFail_r, opFail_p]
        exact rem_l1 hI hmem hp g hg
      · show lvW (Hr (opFail A m)) _ _
        rw [opFail_r]
        exact rem_l2 hI e (List.mem_append_left _ hm') (hk m' hm')
    · rw [if_neg c]
      refine sF_live L (K ++ [m]) A hI h hp (by rw [e, List.append_assoc]; rfl) (fun m' hm' => ?_)
      rcases List.mem_append.mp hm' with q | q
      · exact hk m' q
      · rw [List.mem_singleton.mp q]
        exact lost_lv c
theorem J3_pru {A : AS} (h : Jk A) : J3 (opPrune A) := by
  obtain ⟨h1, h2, ⟨h3, h4⟩, _⟩ := h
  have hb : ∀ a k, a ≠ 2 → Hr (opPrune A) a k = Hr A a k := fun a k ha => pruR_n ha k
  refine ⟨Jt_pru h1, fun g hg => Jm_e (h2 g hg) rfl (fun i hi => up_n (show i ≠ 1 by omega)), fun g hg => gdW_e (h3 g hg) (fun x _ => ⟨hb 0 _ (by decide), hb 1 _ (by decide), hb 4 _ (by decide)⟩), fun m hm => gdW_e (h4 m hm) (fun x _ => ⟨hb 0 _ (by decide), hb 1 _ (by decide), hb 4 _ (by decide)⟩)⟩
theorem Jk_insp {A : AS} {T : Nat} (hI : Inv A T) (hI2 : Inv (opPrune A) T) (h : Jk A) : Jk (opInsp A) := by
  have i1 := Inv_fip hI2 (g := 0) (by decide)
  have i2 := Inv_fip i1 (g := 1) (by decide)
  have j1 := J3_fip hI2 (J3_pru h) (g := 0) (by decide)
  have j2 := J3_fip i1 j1 (g := 1) (by decide)
  have p0 : Jp (opFIP (opPrune A) 0) 0 := Jp_fip (T := T) (by decide)
  refine sF_live _ [] _ i2 j2 (fun g hg => ?_) rfl (fun m hm => absurd hm (List.not_mem_nil))
  rcases (show g = 0 ∨ g = 1 by omega) with rfl | rfl
  · exact Jp_fip2 i1 (by decide) (by decide) (by decide) p0
  · exact Jp_fip (T := T) (by decide)
theorem Jk_e {A B : AS} (h : Jk A) (e0 : Hn B 0 = Hn A 0) (ec : Hc B = Hc A) (eq : Hq B = Hq A) (ep : Hp B = Hp A) (el : Hl B = Hl A) (e2 : ∀ j, 0 < Hr B 2 j ↔ 0 < Hr A 2 j) (er : ∀ a j, a = 0 ∨ a = 1 ∨ a = 4 → Hr B a j = Hr A a j) : Jk B := by
  obtain ⟨h1, h2, ⟨h3, h4⟩, ⟨h5, h6⟩⟩ := h
  have hgd : ∀ {g s n}, gdW (Hr A) g s n → gdW (Hr B) g s n := fun h => gdW_e h (fun x _ => ⟨er 0 _ (Or.inl rfl), er 1 _ (Or.inr (Or.inl rfl)), er 4 _ (Or.inr (Or.inr rfl))⟩)
  have hlv : ∀ {s n}, lvW (Hr A) s n → lvW (Hr B) s n := fun h => lvW_e h (fun x _ q => (e2 _).mpr q)
  refine ⟨Jt_e h1 e0 e2 (fun _ _ => by rw [ec]), fun g hg => Jm_e (h2 g hg) (by rw [eq, msgs_cnt hg, msgs_cnt hg, ep, el]) (fun _ _ => by rw [ec]), ⟨fun g hg => by rw [ep]; exact hgd (h3 g hg), fun m hm => hgd (h4 m (by rw [← el]; exact hm))⟩, ⟨fun g hg => by rw [ep]; exact hlv (h5 g hg), fun m hm => hlv (h6 m (by rw [← el]; exact hm))⟩⟩
theorem Jk_grow {A : AS} (h : Jk A) : Jk (opGrow A) := by
  refine Jk_e h rfl rfl rfl rfl rfl (fun j => ?_) (fun a j ha => ?_)
  · show 0 < growR (Hr A) (Hn A 2) 2 j ↔ _
    unfold growR
    rw [if_pos rfl]
    by_cases c : 0 < Hr A 2 j
    · rw [if_pos c]; omega
    · rw [if_neg c]; omega
  · show growR (Hr A) (Hn A 2) a j = _
    unfold growR
    rw [if_neg (by omega), if_neg (by omega)]
theorem Jk_next {A : AS} (h : Jk A) : Jk (opNext A) := Jk_e h (by show up (up (Hn A) 6 (Hn A 6 + 1)) 7 (Hn A 1) 0 = _; rw [up_n (by decide), up_n (by decide)]) rfl rfl rfl rfl (fun _ => Iff.rfl) (fun _ _ _ => rfl)
theorem Jk_day {A : AS} {T : Nat} (hI : Inv A T) (hT2 : T + 1 < 2 ^ 20) (h : Jk A) : Jk (opDay A) := by
  have i1 := Inv_deliver hI (g := 1 - Hn A 6 % 2)
  have j1 : Jk (sift (fDel (1 - Hn A 6 % 2)) (Hl A) [] A) := Jk_sift (T := T) (fun A m K M B hI e hf => by
    unfold fDel at hf
    split at hf
    · cases hf; exact Inv_del hI e
    · cases hf) (fun A m K M B hI h e hf => Jk_del hI h e hf) (Hl A) [] A hI h rfl
  have i2 := Inv_wrAll (g := Hn A 6 % 2) (by omega) (Hn A 7) _ i1
  have j2 := Jk_wrAll (T := T) (g := Hn A 6 % 2) (by omega) (Hn A 7) _ j1 i1
  have i3 := Inv_next i2 hT2
  have j3 : Jk (opD3 A) := Jk_next (Jk_grow j2)
  unfold opDay
  by_cases c : Hn (opD3 A) 6 % Hn (opD3 A) 4 = 0
  · rw [if_pos c]
    have hpr : Inv (opPrune (opD3 A)) (T + 1) := Inv_c (Inv_pru (A := opD3 A) i3 _) _
    exact Jk_insp i3 hpr j3
  · rw [if_neg c]
    exact j3
theorem Jk_days {A : AS} {T : Nat} (hI : Inv A T) (h : Jk A) : ∀ n, T + n < 2 ^ 20 → Jk (days n A)
  | 0, _ => h
  | n + 1, hn => Jk_day (Inv_days hI n (by omega)) (by omega) (Jk_days hI h n (by omega))
