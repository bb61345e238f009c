/-! ===== what the relations give; and how they bear a change ===== -/
theorem rz {R : Nat → Nat → Nat} {n D : Nat} (hR : okRw R n D) (hn : n ≤ 40) {a k : Nat} (ha : a < 5) (hk : 40 ≤ k) : R a k = 0 := by
  obtain ⟨h1, h2, _⟩ := hR k
  have h3 := h1 (by omega)
  have h4 := h2 hk
  match a, ha with
  | 0, _ => exact h4.1
  | 1, _ => exact h4.2
  | 2, _ => exact h3.1
  | 3, _ => exact h3.2.1
  | 4, _ => exact h3.2.2
theorem Inv_b {A : AS} {T : Nat} (hI : Inv A T) {a : Nat} (k : Nat) (ha : a < 5) : Hr A a k < 2 ^ 24 := by
  obtain ⟨hT, ⟨⟨b0, b0'⟩, ⟨b1, b1'⟩, b2, ⟨b3, b3'⟩, ⟨b4, b4'⟩, ⟨b5, b5'⟩, b6, b7⟩, hRw, hNs, hQu, hPr, hVm⟩ := id hI
  obtain ⟨_, _, _, r0, r1, r2, r3, r4⟩ := hRw k
  match a, ha with
  | 0, _ => omega
  | 1, _ => omega
  | 2, _ => omega
  | 3, _ => omega
  | 4, _ => omega
theorem Inv_z {A : AS} {T : Nat} (hI : Inv A T) {a k : Nat} (ha : a < 5) (hk : 40 ≤ k) : Hr A a k = 0 := by
  obtain ⟨hT, ⟨⟨b0, b0'⟩, ⟨b1, b1'⟩, b2, ⟨b3, b3'⟩, ⟨b4, b4'⟩, ⟨b5, b5'⟩, b6, b7⟩, hRw, hNs, hQu, hPr, hVm⟩ := id hI
  exact rz hRw b0' ha hk
/-- behind the last slot nothing stands -/
theorem Inv_s {A : AS} {T : Nat} (hI : Inv A T) {k : Nat} (hk : Hn A 0 ≤ k) : Hr A 2 k = 0 ∧ Hr A 3 k = 0 ∧ Hr A 4 k = 0 := by
  obtain ⟨hT, ⟨⟨b0, b0'⟩, ⟨b1, b1'⟩, b2, ⟨b3, b3'⟩, ⟨b4, b4'⟩, ⟨b5, b5'⟩, b6, b7⟩, hRw, hNs, hQu, hPr, hVm⟩ := id hI
  exact (hRw k).1 hk
theorem rb {R : Nat → Nat → Nat} {n D : Nat} (hO : okRw R n D) (hD : D < 2 ^ 20) {a : Nat} (k : Nat) (ha : a < 5) : R a k < 2 ^ 24 := by
  obtain ⟨_, _, _, r0, r1, r2, r3, r4⟩ := hO k
  match a, ha with
  | 0, _ => omega
  | 1, _ => omega
  | 2, _ => omega
  | 3, _ => omega
  | 4, _ => omega
theorem RHr_get {R : Nat → Nat → Nat} {u : HV} (h : RHr R u) {a k : Nat} (ha : a < 5) (hk : k < 40) : rget 40 (u.2 a) (nI k) = nI (R a k) := by
  rw [Z_rget (by omega) (by decide), if_pos hk]
  exact h a k ha hk
theorem C_row {A : AS} {T : Nat} {u : HV} (hH : RHr (Hr A) u) (hI : Inv A T) {a k : Nat} (ha : a < 5) (hk : k < 2 ^ 31) : rget 40 (u.2 a) (nI k) = nI (Hr A a k) := by
  rw [Z_rget hk (by decide)]
  by_cases c : k < 40
  · rw [if_pos c]; exact hH a k ha c
  · rw [if_neg c, Inv_z hI ha (by omega)]
theorem C_rowm {A : AS} {T : Nat} {u : HV} (hH : RHr (Hr A) u) (hI : Inv A T) {a k : Nat} (ha : a < 5) (hk : k < 2 ^ 31) : rget 40 (u.2 a) (nI k - 1) = nI (if k = 0 then 0 else Hr A a (k - 1)) := by
  by_cases c : k = 0
  · subst c
    rw [if_pos rfl]
    exact Z_rgetm
  · rw [if_neg c, show (1 : Int32) = nI 1 from rfl, Z_sub (by omega), C_row hH hI ha (by omega)]
theorem C_rowp {A : AS} {T : Nat} {u : HV} (hH : RHr (Hr A) u) (hI : Inv A T) {a k : Nat} (ha : a < 5) (hk : k < 2 ^ 31 - 1) : rget 40 (u.2 a) (nI k + 1) = nI (Hr A a (k + 1)) := by
  rw [show (1 : Int32) = nI 1 from rfl, Z_add, C_row hH hI ha (by omega)]
def rowS (R : Nat → Nat → Nat) (a k v : Nat) : Nat → Nat → Nat := fun b j => if b = a ∧ j = k then v else R b j
theorem RHr_set {R : Nat → Nat → Nat} {u : HV} (h : RHr R u) {a k : Nat} (v : Nat) (hk : k < 40) : RHr (rowS R a k v) (sA u a (rset 40 (u.2 a) (nI k) (nI v))) := by
  intro b j hb hj
  rw [Z_rset (by omega) (by decide), if_pos hk]
  unfold rowS
  by_cases c : b = a
  · subst c
    rw [sA2s]
    by_cases c2 : j = k
    · subst c2
      rw [pk_us, if_pos ⟨rfl, rfl⟩]
    · rw [pk_un c2, if_neg (fun q => c2 q.2)]
      exact h b j hb hj
  · rw [sA_2n c, if_neg (fun q => c q.1)]
    exact h b j hb hj
theorem RHr_eq {R R' : Nat → Nat → Nat} {u : HV} (h : RHr R u) (e : ∀ a k, a < 5 → k < 40 → R a k = R' a k) : RHr R' u := fun a k ha hk => by rw [← e a k ha hk]; exact h a k ha hk
theorem RHr_2 {R : Nat → Nat → Nat} {u u' : HV} (h : RHr R u) (e : u'.2 = u.2) : RHr R u' := fun a k ha hk => by rw [e]; exact h a k ha hk
theorem RHn_1 {f : Nat → Nat} {u u' : HV} (h : RHn f u) (e : u'.1 = u.1) : RHn f u' := fun i hi => by rw [e]; exact h i hi
theorem RHc_1 {c : Nat → Int32} {u u' : HV} (h : RHc c u) (e : u'.1 = u.1) : RHc c u' := fun i hi => by rw [e]; exact h i hi
theorem RHn_set {f : Nat → Nat} {u : HV} (h : RHn f u) {i : Nat} (v : Nat) : RHn (up f i v) (sS u i (nI v)) := by
  intro j hj
  by_cases c : j = i
  · subst c; rw [sS_1, up_s]
  · rw [sS_1n c, up_n c]; exact h j hj
theorem RHn_oth {f : Nat → Nat} {u : HV} (h : RHn f u) {i : Nat} (v : Int32) (hi : 8 ≤ i) : RHn f (sS u i v) := fun j hj => by rw [sS_1n (by omega)]; exact h j hj
theorem RHc_set {c : Nat → Int32} {u : HV} (h : RHc c u) {i : Nat} (v : Int32) : RHc (up c i v) (sS u (16 + i) v) := by
  intro j hj
  by_cases e : j = i
  · subst e; rw [sS_1, up_s]
  · rw [sS_1n (by omega), up_n e]; exact h j hj
theorem RHc_oth {c : Nat → Int32} {u : HV} (h : RHc c u) {i : Nat} (v : Int32) (hi : i < 16) : RHc c (sS u i v) := fun j hj => by rw [sS_1n (by omega)]; exact h j hj
theorem RHc_up {c : Nat → Int32} {u : HV} (h : RHc c u) {i : Nat} (v : Int32) (hi : 3 ≤ i) : RHc (up c i v) u := fun j hj => by rw [up_n (by omega)]; exact h j hj
theorem RGc_up {c : Nat → Int32} {g : Nat} {u : HV} (h : RGc c g u) {i : Nat} (v : Int32) (hi : ∀ q, q < 4 → i ≠ 10 + 2 * q + g) : RGc (up c i v) g u := fun j hj => by rw [up_n (fun e => hi j hj e.symm)]; exact h j hj
theorem RGc_set {c : Nat → Int32} {g : Nat} {u : HV} (h : RGc c g u) {i : Nat} (v : Int32) : RGc (up c (10 + 2 * i + g) v) g (sS u (6 + i) v) := by
  intro j hj
  by_cases e : j = i
  · subst e; rw [sS_1, up_s]
  · rw [sS_1n (by omega), up_n (by omega)]; exact h j hj
theorem RGc_1 {c : Nat → Int32} {g : Nat} {u u' : HV} (h : RGc c g u) (e : ∀ i, 6 ≤ i → i < 10 → u'.1 i = u.1 i) : RGc c g u' := fun j hj => by rw [e _ (by omega) (by omega)]; exact h j hj
theorem RGp_1 {p : Nat × Nat × List Nat} {u u' : HV} (h : RGp p u) (e : ∀ i, 3 ≤ i → i < 6 → u'.1 i = u.1 i) : RGp p u' := ⟨by rw [e _ (by omega) (by omega)]; exact h.1, by rw [e _ (by omega) (by omega)]; exact h.2.1, by rw [e _ (by omega) (by omega)]; exact h.2.2⟩
theorem RGq_1 {q : List (List Nat)} {u u' : HV} (h : RGq q u) (e : u'.1 2 = u.1 2) (e2 : u'.2 = u.2) : RGq q u' := ⟨by rw [e]; exact h.1, by rw [e2]; exact h.2.1, by rw [e2]; exact h.2.2⟩
/-! the other side -/
theorem RMf_c {f : Nat → Nat} {s s' : Nat → Int32} (h : RMf f s) (e : ∀ k, k < 8 → s' k = s k) : RMf f s' := fun i hi => by rw [e i hi]; exact h i hi
theorem RMf_set {f : Nat → Nat} {s : Nat → Int32} (h : RMf f s) {i : Nat} (v : Nat) : RMf (up f i v) (upd s i (nI v)) := by
  intro j hj
  by_cases c : j = i
  · subst c; rw [pk_us, up_s]
  · rw [pk_un c, up_n c]; exact h j hj
theorem RMc_c {C : Nat → Int32} {s s' : Nat → Int32} (h : RMc C s) (e : ∀ k, 8 ≤ k → k < 22 → k ≠ 11 → k ≠ 12 → k ≠ 13 → s' k = s k) : RMc C s' := ⟨fun i hi => by rw [e _ (by omega) (by omega) (by omega) (by omega) (by omega)]; exact h.1 i hi, fun g c hg hc => by rw [e _ (by omega) (by omega) (by omega) (by omega) (by omega)]; exact h.2 g c hg hc⟩
theorem RMc_set3 {C : Nat → Int32} {s : Nat → Int32} (h : RMc C s) {i : Nat} (hi : i < 3) (v : Int32) : RMc (up C i v) (upd s (8 + i) v) := by
  refine ⟨fun j hj => ?_, fun g c hg hc => ?_⟩
  · by_cases e : j = i
    · subst e; rw [pk_us, up_s]
    · rw [pk_un (by omega), up_n e]; exact h.1 j hj
  · rw [pk_un (by omega), up_n (by omega)]; exact h.2 g c hg hc
theorem RMc_setg {C : Nat → Int32} {s : Nat → Int32} (h : RMc C s) {g c : Nat} (hg : g < 2) (hc : c < 4) (v : Int32) : RMc (up C (10 + 2 * c + g) v) (upd s (14 + 2 * c + g) v) := by
  refine ⟨fun j hj => ?_, fun g' c' hg' hc' => ?_⟩
  · rw [pk_un (by omega), up_n (by omega)]; exact h.1 j hj
  · by_cases e : c' = c ∧ g' = g
    · obtain ⟨rfl, rfl⟩ := e; rw [pk_us, up_s]
    · rw [pk_un (by omega), up_n (by omega)]; exact h.2 g' c' hg' hc'
theorem RMk_c {q : Nat → List (List Nat)} {L : List Msg} {s s' : Nat → Int32} (h : RMk q L s) (e : ∀ k, 11 ≤ k → k < 14 → s' k = s k) : RMk q L s' := ⟨by rw [e _ (by omega) (by omega)]; exact h.1, fun g hg => by rw [e _ (by omega) (by omega)]; exact h.2 g hg⟩
theorem RMr_c {R : Nat → Nat → Nat} {s s' : Nat → Int32} (h : RMr R s) (e : ∀ k, 22 ≤ k → k < 222 → s' k = s k) : RMr R s' := fun a k ha hk => by rw [e _ (by omega) (by omega)]; exact h a k ha hk
theorem wAt_c {s s' : Nat → Int32} {p : Nat} {w : List Nat} (h : wAt s p w) (e : ∀ k, p ≤ k → k < p + 1 + w.length → s' k = s k) : wAt s' p w := ⟨by rw [e _ (by omega) (by omega)]; exact h.1, fun x hx => by rw [e _ (by omega) (by omega)]; exact h.2 x hx⟩
theorem RMq_c {q : Nat → List (List Nat)} {s s' : Nat → Int32} (h : RMq q s) (hq : okQu q) (e : ∀ k, 222 ≤ k → k < 430 → s' k = s k) : RMq q s' := fun g k hg hk => by
  have h1 := (hq g hg).1
  have h2 : okW ((q g).getD k []) := by
    rw [List.getD_eq_getElem?_getD, List.getElem?_eq_getElem hk]
    exact (hq g hg).2 _ (List.getElem_mem hk)
  have h3 := h2.2.1
  exact wAt_c (h g k hg hk) (fun j h4 h5 => e j (by omega) (by omega))
theorem RMp_c {P : Nat → Nat × Nat × List Nat} {s s' : Nat → Int32} (h : RMp P s) (hP : ∀ g, g < 2 → (P g).2.2.length ≤ 12) (e : ∀ k, 430 ≤ k → k < 460 → s' k = s k) : RMp P s' := fun g hg => by
  have h1 := hP g hg
  refine ⟨by rw [e _ (by omega) (by omega)]; exact (h g hg).1, fun h2 => ?_⟩
  obtain ⟨h3, h4, h5⟩ := (h g hg).2 h2
  exact ⟨wAt_c h3 (fun j h4 h5 => e j (by omega) (by omega)), by rw [e _ (by omega) (by omega)]; exact h4, by rw [e _ (by omega) (by omega)]; exact h5⟩
theorem RMl_c {L : List Msg} {s s' : Nat → Int32} (h : RMl L s) (hL : ∀ k, k < L.length → k < 20 ∧ (L.getD k bare).2.2.length ≤ 12) (e : ∀ k, 460 ≤ k → k < 760 → s' k = s k) : RMl L s' := fun k hk => by
  obtain ⟨h1, h2⟩ := hL k hk
  obtain ⟨h3, h4, h5⟩ := h k hk
  exact ⟨wAt_c h3 (fun j h4 h5 => e j (by omega) (by omega)), by rw [e _ (by omega) (by omega)]; exact h4, by rw [e _ (by omega) (by omega)]; exact h5⟩
/-! lists -/
theorem gD_mem {α : Type} {L : List α} {k : Nat} {d : α} (h : k < L.length) : L.getD k d ∈ L := by
  rw [List.getD_eq_getElem?_getD, List.getElem?_eq_getElem h]
  exact List.getElem_mem h
theorem gD_of {α : Type} {L : List α} {m : α} {d : α} (h : m ∈ L) : ∃ k, k < L.length ∧ L.getD k d = m := by
  obtain ⟨k, hk, e⟩ := List.getElem_of_mem h
  exact ⟨k, hk, by rw [List.getD_eq_getElem?_getD, List.getElem?_eq_getElem hk]; exact e⟩
theorem gD_app {α : Type} {L M : List α} {k : Nat} {d : α} : (L ++ M).getD k d = if k < L.length then L.getD k d else M.getD (k - L.length) d := by
  rw [List.getD_eq_getElem?_getD, List.getElem?_append]
  split <;> rw [List.getD_eq_getElem?_getD]
theorem gD_del {α : Type} {L : List α} {m k : Nat} {d : α} : (L.eraseIdx m).getD k d = if k < m then L.getD k d else L.getD (k + 1) d := by
  rw [List.getD_eq_getElem?_getD, List.getElem?_eraseIdx]
  split <;> rw [List.getD_eq_getElem?_getD]
theorem gD_0 {α : Type} {m : α} {L : List α} {d : α} : (m :: L).getD 0 d = m := rfl
theorem gD_s {α : Type} {m : α} {L : List α} {d : α} {k : Nat} : (m :: L).getD (k + 1) d = L.getD k d := rfl
theorem gD_no {α : Type} {L : List α} {k : Nat} {d : α} (h : L.length ≤ k) : L.getD k d = d := by
  rw [List.getD_eq_getElem?_getD, List.getElem?_eq_none h]
  rfl
/-! messages -/
theorem apt_sy {m m' : Msg} (h : apt m m') : apt m' m := Or.symm h
theorem vM_perm {R : Nat → Nat → Nat} {n : Nat} {L L' : List Msg} (h : vM R n L) (p : List.Perm L L') : vM R n L' := by
  obtain ⟨h1, h2, h3⟩ := h
  refine ⟨fun m hm => h1 m (p.mem_iff.mpr hm), fun k hk => ?_, (p.pairwise_iff apt_sy).mp h3⟩
  obtain ⟨m, hm, hi⟩ := h2 k hk
  exact ⟨m, p.mem_iff.mp hm, hi⟩
theorem vM_len {R : Nat → Nat → Nat} {n : Nat} {L : List Msg} (h : vM R n L) (hn : n ≤ 40) : L.length ≤ 20 := by
  obtain ⟨h1, _, h3⟩ := h
  have hnd : (L.map (fun m => m.2.1 / 2)).Nodup := by
    unfold List.Nodup
    rw [List.pairwise_map]
    refine List.Pairwise.imp_of_mem ?_ h3
    intro a b ha hb hab
    have qa := (h1 a ha).2.1.1
    have qb := (h1 b hb).2.1.1
    unfold apt at hab
    intro e
    omega
  have hs : L.map (fun m => m.2.1 / 2) ⊆ List.range 20 := by
    intro x hx
    obtain ⟨m, hm, rfl⟩ := List.mem_map.mp hx
    have q1 := (h1 m hm).2.1.1
    have q2 := (h1 m hm).2.2.1
    rw [List.mem_range]
    omega
  have h4 := hnd.length_le_of_subset hs
  rw [List.length_map, List.length_range] at h4
  exact h4
theorem prg_0 {A : AS} {g : Nat} (h : (Hp A g).2.2 = []) : prg A g = [] := if_pos h
theorem prg_1 {A : AS} {g : Nat} (h : (Hp A g).2.2 ≠ []) : prg A g = [(g, (Hp A g).2.1, (Hp A g).2.2)] := if_neg h
theorem msgs_l {A : AS} {m : Msg} (h : m ∈ Hl A) : m ∈ msgs A := List.mem_append_right _ (List.mem_append_right _ h)
theorem msgs_p {A : AS} {g : Nat} (hg : g < 2) (h : (Hp A g).2.2 ≠ []) : (g, (Hp A g).2.1, (Hp A g).2.2) ∈ msgs A := by
  match g, hg with
  | 0, _ => exact List.mem_append_left _ (by rw [prg_1 h]; exact List.mem_singleton.mpr rfl)
  | 1, _ => exact List.mem_append_right _ (List.mem_append_left _ (by rw [prg_1 h]; exact List.mem_singleton.mpr rfl))
theorem Inv_l {A : AS} {T : Nat} (hI : Inv A T) : (Hl A).length ≤ 20 := by
  obtain ⟨hT, ⟨⟨b0, b0'⟩, ⟨b1, b1'⟩, b2, ⟨b3, b3'⟩, ⟨b4, b4'⟩, ⟨b5, b5'⟩, b6, b7⟩, hRw, hNs, hQu, hPr, hVm⟩ := id hI
  have h := vM_len hVm b0'
  unfold msgs at h
  rw [List.length_append, List.length_append] at h
  omega
theorem Inv_m {A : AS} {T : Nat} (hI : Inv A T) {m : Msg} (h : m ∈ msgs A) : okMs (Hr A) (Hn A 0) m := by
  obtain ⟨hT, ⟨⟨b0, b0'⟩, ⟨b1, b1'⟩, b2, ⟨b3, b3'⟩, ⟨b4, b4'⟩, ⟨b5, b5'⟩, b6, b7⟩, hRw, hNs, hQu, hPr, hVm⟩ := id hI
  exact hVm.1 m h
theorem Inv_lk {A : AS} {T : Nat} (hI : Inv A T) {k : Nat} (h : k < (Hl A).length) : okMs (Hr A) (Hn A 0) ((Hl A).getD k bare) := Inv_m hI (msgs_l (gD_mem h))
theorem Inv_pl {A : AS} {T : Nat} (hI : Inv A T) {g : Nat} (hg : g < 2) : (Hp A g).2.2.length ≤ 12 ∧ (Hp A g).2.1 + (Hp A g).2.2.length ≤ 40 ∧ (Hp A g).1 ≤ (Hp A g).2.2.length := by
  obtain ⟨hT, ⟨⟨b0, b0'⟩, ⟨b1, b1'⟩, b2, ⟨b3, b3'⟩, ⟨b4, b4'⟩, ⟨b5, b5'⟩, b6, b7⟩, hRw, hNs, hQu, hPr, hVm⟩ := id hI
  by_cases c : (Hp A g).2.2 = []
  · rw [(hPr g hg).1 c]; exact ⟨by decide, by decide, by decide⟩
  · have h := Inv_m hI (msgs_p hg c)
    have h2 := ((hPr g hg).2 c).1
    exact ⟨h.2.1.2.1, Nat.le_trans h.2.2.1 b0', Nat.le_of_lt h2⟩
theorem Inv_qw {A : AS} {T : Nat} (hI : Inv A T) {g k : Nat} (hg : g < 2) (hk : k < (Hq A g).length) : okW ((Hq A g).getD k []) := by
  obtain ⟨hT, ⟨⟨b0, b0'⟩, ⟨b1, b1'⟩, b2, ⟨b3, b3'⟩, ⟨b4, b4'⟩, ⟨b5, b5'⟩, b6, b7⟩, hRw, hNs, hQu, hPr, hVm⟩ := id hI
  exact (hQu g hg).2 _ (gD_mem hk)
theorem RMl_ok {A : AS} {T : Nat} (hI : Inv A T) : ∀ k, k < (Hl A).length → k < 20 ∧ ((Hl A).getD k bare).2.2.length ≤ 12 := fun k hk => by
  have h1 := Inv_l hI
  have h2 := (Inv_lk hI hk).2.1.2.1
  exact ⟨by omega, h2⟩
