/-! ===== writing letters: the other side, the whole ===== -/
theorem RM_act {A : AS} {s : Nat → Int32} (hM : RM A s) (hq : okQu (Hq A)) (hP : ∀ g, g < 2 → (Hp A g).2.2.length ≤ 12) (hL : ∀ k, k < (Hl A).length → k < 20 ∧ ((Hl A).getD k bare).2.2.length ≤ 12) : RM (act A) (upd s 7 (nI (Hn A 7 - 1))) := by
  obtain ⟨h1, h2, h3, h4, h5, h6, h7⟩ := hM
  exact ⟨RMf_set h1 _, RMc_c h2 (fun j a b _ _ _ => pk_un (by omega)), RMk_c h3 (fun j a b => pk_un (by omega)), RMr_c h4 (fun j a b => pk_un (by omega)), RMq_c h5 hq (fun j a b => pk_un (by omega)), RMp_c h6 hP (fun j a b => pk_un (by omega)), (show RMl (Hl A) _ from RMl_c h7 hL (fun j a b => pk_un (by omega)))⟩
