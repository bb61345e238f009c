/-! ===== load ===== -/
theorem RM_at {A : AS} {T : Nat} {s : Nat → Int32} (hM : RM A s) (hI : Inv A T) : RM (atA A) (upd s 7 (nI (Hn A 1))) := by
  obtain ⟨h1, h2, h3, h4, h5, h6, h7⟩ := hM
  exact ⟨RMf_set h1 _, RMc_c h2 (fun j a b _ _ _ => pk_un (by omega)), RMk_c h3 (fun j a b => pk_un (by omega)), RMr_c h4 (fun j a b => pk_un (by omega)), RMq_c h5 hI.2.2.2.2.1 (fun j a b => pk_un (by omega)), RMp_c h6 (fun g hg => (Inv_pl hI hg).1) (fun j a b => pk_un (by omega)), (show RMl (Hl A) _ from RMl_c h7 (RMl_ok hI) (fun j a b => pk_un (by omega)))⟩
