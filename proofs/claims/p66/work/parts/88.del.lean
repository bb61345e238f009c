/-! ===== delivering ===== -/
def opDel (A : AS) (m : Msg) : AS := Sc (opClr A m.2.1 m.2.2.length) (up (Hc (opClr A m.2.1 m.2.2.length)) (12 + m.1) (Hc (opClr A m.2.1 m.2.2.length) (12 + m.1) + 1))
def sift (f : AS → Msg → Option AS) : List Msg → List Msg → AS → AS
  | [], _, A => A
  | m :: L, K, A => match f A m with
    | some B => sift f L K (Sl B (K ++ L))
    | none => sift f L (K ++ [m]) A
def fDel (g : Nat) (A : AS) (m : Msg) : Option AS := if m.1 = g then some (opDel A m) else none
theorem gD_drop {L : List Msg} {i : Nat} (h : i < L.length) : L.drop i = L.getD i bare :: L.drop (i + 1) := by
  rw [List.drop_eq_getElem_cons h, List.getD_eq_getElem?_getD, List.getElem?_eq_getElem h]
  rfl
theorem vM_drop {R : Nat → Nat → Nat} {n : Nat} {m : Msg} {L : List Msg} (h : vM R n (m :: L)) : vM (clrR R m.2.1 m.2.2.length) n L := by
  obtain ⟨h1, h2, h3⟩ := h
  rw [List.pairwise_cons] at h3
  refine ⟨fun m' hm => ?_, fun k hk => ?_, h3.2⟩
  · obtain ⟨q1, q2, q3, q4⟩ := h1 m' (List.mem_cons_of_mem _ hm)
    have q5 := h3.1 m' hm
    refine ⟨q1, q2, q3, fun x hx => ?_⟩
    rw [← q4 x hx]
    unfold apt at q5
    exact clrR_out (by omega)
  · have hk2 : ¬ (m.2.1 ≤ k ∧ k < m.2.1 + m.2.2.length) := fun q => by
      unfold clrR at hk
      rw [if_pos ⟨Or.inr rfl, q⟩] at hk
      omega
    rw [clrR_out hk2] at hk
    obtain ⟨m', hm, hi⟩ := h2 k hk
    rcases List.mem_cons.mp hm with e | hm
    · subst e; exact absurd hi hk2
    · exact ⟨m', hm, hi⟩
theorem Inv_rm {A B : AS} {T : Nat} {m : Msg} (hI : Inv A T) (eN : Hn B = Hn A) (eR : Hr B = clrR (Hr A) m.2.1 m.2.2.length) (hq : okQu (Hq B)) (hp : ∀ g, g < 2 → okPr (Hr A) (Hp B g)) (p : List.Perm (msgs A) (m :: msgs B)) : Inv B T := by
  have bI := hI
  obtain ⟨hT, ⟨⟨b0, b0'⟩, ⟨b1, b1'⟩, b2, ⟨b3, b3'⟩, ⟨b4, b4'⟩, ⟨b5, b5'⟩, b6, b7⟩, hRw, hNs, hQu, hPr, hVm⟩ := id hI
  refine ⟨hT, by rw [eN]; exact bI.2.1, by rw [eN, eR]; exact clrR_ok hRw _ _, ?_, hq, fun g hg => ?_, ?_⟩
  · rw [eN, eR]
    refine Nat.le_trans (Nat.le_of_eq (cnt_congr _ (fun k _ => ?_))) hNs
    unfold nstB
    rw [clrR_3]
  · rw [eR]
    obtain ⟨h1, h2⟩ := hp g hg
    refine ⟨h1, fun h => ⟨(h2 h).1, fun x hx hx2 => ?_⟩⟩
    have h3 := (h2 h).2 x hx hx2
    unfold clrR
    rw [h3]
    split <;> rfl
  · rw [eN, eR]
    exact vM_drop (vM_perm hVm p)
theorem pm_l {P0 P1 K M : List Msg} {m : Msg} : List.Perm (P0 ++ (P1 ++ (K ++ m :: M))) (m :: (P0 ++ (P1 ++ (K ++ M)))) := by
  rw [← List.append_assoc, ← List.append_assoc, ← List.append_assoc P0, ← List.append_assoc (P0 ++ P1)]
  exact List.perm_middle
theorem Inv_del {A : AS} {T : Nat} {m : Msg} {K M : List Msg} (hI : Inv A T) (e : Hl A = K ++ m :: M) : Inv (Sl (opDel A m) (K ++ M)) T := by
  refine Inv_rm (m := m) hI rfl rfl hI.2.2.2.2.1 hI.2.2.2.2.2.1 ?_
  unfold msgs
  rw [e]
  exact pm_l
/-- the list of posted ones while it is sifted: K kept, of L those behind i still to come -/
def RPx (K : List Msg) (i : Nat) (L : List Msg) (u : HV) : Prop := u.1 3 = nI K.length ∧ K.length ≤ i ∧ (∀ k, k < K.length → u.2 0 k = nI (K.getD k bare).1 ∧ u.2 1 k = nI (K.getD k bare).2.1 ∧ u.2 2 k = nI (K.getD k bare).2.2.length) ∧ ∀ k, i ≤ k → k < L.length → u.2 0 k = nI (L.getD k bare).1 ∧ u.2 1 k = nI (L.getD k bare).2.1 ∧ u.2 2 k = nI (L.getD k bare).2.2.length
theorem C_post {u : HV} {c : Nat} {x y z : Int32} (h : u.1 3 = nI c) (hc : c < 20) : (F_X7_post x y z u).1 3 = nI (c + 1) ∧ (F_X7_post x y z u).2 0 = upd (u.2 0) c x ∧ (F_X7_post x y z u).2 1 = upd (u.2 1) c y ∧ (F_X7_post x y z u).2 2 = upd (u.2 2) c z := by
  unfold F_X7_post
  simp only [lt_d]
  have e : ∀ r : Nat → Int32, ∀ v : Int32, rset 20 r (nI c) v = upd r c v := fun r v => by rw [Z_rset (by omega) (by decide), if_pos hc]
  refine ⟨?_, ?_, ?_, ?_⟩
  · rw [sS_1]
    show u.1 3 + 1 = _
    rw [h, L1, Z_add]
  · show rset 20 (u.2 0) (u.1 3) x = _
    rw [h, e]
  · show rset 20 (u.2 1) (u.1 3) y = _
    rw [h, e]
  · show rset 20 (u.2 2) (u.1 3) z = _
    rw [h, e]
theorem C_keep {K L : List Msg} {i : Nat} {u : HV} (h : RPx K i L u) (hi : i < L.length) (hL : L.length ≤ 20) : RPx (K ++ [L.getD i bare]) (i + 1) L (F_X7_keep (nI i) u) := by
  obtain ⟨h1, h2, h3, h4⟩ := h
  obtain ⟨a1, a2, a3⟩ := h4 i (Nat.le_refl _) hi
  have e : ∀ r : Nat → Int32, rget 20 r (nI i) = r i := fun r => by rw [Z_rget (by omega) (by decide), if_pos (by omega)]
  have hk : F_X7_keep (nI i) u = F_X7_post (nI (L.getD i bare).1) (nI (L.getD i bare).2.1) (nI (L.getD i bare).2.2.length) u := by
    unfold F_X7_keep
    rw [e, e, e, a1, a2, a3]
    rfl
  rw [hk]
  obtain ⟨p1, p2, p3, p4⟩ := C_post (u := u) (x := nI (L.getD i bare).1) (y := nI (L.getD i bare).2.1) (z := nI (L.getD i bare).2.2.length) h1 (by omega)
  refine ⟨?_, ?_, fun k hk => ?_, fun k hk1 hk2 => ?_⟩
  · rw [p1, List.length_append]; rfl
  · rw [List.length_append]; show K.length + 1 ≤ _; omega
  · rw [List.length_append] at hk
    have hk' : k < K.length + 1 := hk
    rw [p2, p3, p4, gD_app]
    by_cases c : k < K.length
    · rw [if_pos c, pk_un (by omega), pk_un (by omega), pk_un (by omega)]
      exact h3 k c
    · have c2 : k = K.length := by omega
      rw [if_neg c, c2, pk_us, pk_us, pk_us, Nat.sub_self]
      exact ⟨rfl, rfl, rfl⟩
  · rw [p2, p3, p4, pk_un (by omega), pk_un (by omega), pk_un (by omega)]
    exact h4 k (by omega) hk2
/-- counting for a gardener, beside the hedge's own -/
theorem RC0_cnt {A : AS} {h : Nat → HV} (hH : RC0 A h) {g c : Nat} (hg : g < 2) (hc : c < 4) (v : Int32) : RC0 (Sc A (up (Hc A) (10 + 2 * c + g) v)) (up h (1 + g) (sS (h (1 + g)) (6 + c) v)) := by
  obtain ⟨⟨h1, h2, h3⟩, h4⟩ := hH
  refine ⟨?_, fun g' hg' => ?_⟩
  · rw [up_n (by omega)]
    exact ⟨h1, RHc_up h2 v (by omega), h3⟩
  · by_cases e : g' = g
    · subst e
      rw [up_s]
      obtain ⟨q1, q2, q3⟩ := h4 g' hg'
      exact ⟨RGc_set q1 v, RGp_1 q2 (fun i i1 i2 => sS_1n (by omega)), RGq_1 q3 (sS_1n (by omega)) rfl⟩
    · rw [up_n (by omega)]
      obtain ⟨q1, q2, q3⟩ := h4 g' hg'
      exact ⟨RGc_up q1 v (fun q hq => by omega), q2, q3⟩
theorem RC0_clr {A : AS} {h h' : Nat → HV} {s n : Nat} (hH : RC0 A h) (h0 : RH (opClr A s n) (h' 0)) (hf : ∀ j, j ≠ 0 → h' j = h j) : RC0 (opClr A s n) h' := by
  refine ⟨h0, fun g hg => ?_⟩
  rw [hf (1 + g) (by omega)]
  obtain ⟨q1, q2, q3⟩ := hH.2 g hg
  exact ⟨RGc_up q1 _ (fun q hq => by omega), q2, q3⟩
theorem C_deliver {A : AS} {T : Nat} {h : Nat → HV} (hH : RC A h) (hI : Inv A T) {N g : Nat} (hg : g < 2) (hN : 40 < N) : ∃ h', F_X5_deliverPosted N (nI g) h = some h' ∧ RC (sift (fDel g) (Hl A) [] A) h' ∧ Inv (sift (fDel g) (Hl A) [] A) T := by
  have hL := Inv_l hI
  have h5 := hI.2.1.1.2
  unfold F_X5_deliverPosted F_X7_startSifting
  simp only [lt_d, lt2_d]
  rw [hH.2.1]
  refine lpN_up (fun i x => ∃ K B, x.1 = nI i ∧ RC0 B x.2 ∧ RPx K i (Hl A) (x.2 3) ∧ Hl B = K ++ (Hl A).drop i ∧ Inv B T ∧ sift (fDel g) ((Hl A).drop i) K B = sift (fDel g) (Hl A) [] A) _ (n := (Hl A).length) (by omega) ⟨[], A, rfl, ?_, ?_, rfl, hI, rfl⟩ (fun i x hi hP => ?_) (fun x hP => ?_)
  · refine ⟨?_, fun g hg => ?_⟩
    · exact hH.1.1
    · show RG A g (up h 3 _ (1 + g))
      rw [up_n (by omega)]
      exact hH.1.2 g hg
  · show RPx [] 0 (Hl A) (up h 3 _ 3)
    rw [up_s]
    exact ⟨sS_1, Nat.le_refl _, fun k hk => absurd hk (Nat.not_lt_zero k), fun k _ hk => hH.2.2 k hk⟩
  · obtain ⟨K, B, e1, hB, hX, hE, hJ, hS⟩ := hP
    obtain ⟨x1, x2⟩ := x
    dsimp only at e1 hB hX
    cases e1
    have hd := gD_drop hi
    have hm : (Hl A).getD i bare ∈ Hl B := by
      rw [hE, hd]
      exact List.mem_append_right _ (List.mem_cons_self)
    have hok := Inv_m hJ (msgs_l hm)
    have h6 := hJ.2.1.1.2
    obtain ⟨a1, a2, a3⟩ := hX.2.2.2 i (Nat.le_refl _) hi
    have e : ∀ r : Nat → Int32, rget 20 r (nI i) = r i := fun r => by rw [Z_rget (by omega) (by decide), if_pos (by omega)]
    by_cases c : ((Hl A).getD i bare).1 = g
    · obtain ⟨h8, e8, hc1, hc2⟩ := C_clr hB.1 hJ (N := N) (s := ((Hl A).getD i bare).2.1) (n := ((Hl A).getD i bare).2.2.length) (by have := hok.2.2.1; omega) hN
      have hB8 := RC0_clr hB hc1 hc2
      have hG8 := (hB8.2 g hg).1 1 (by decide)
      refine ⟨(nI (i + 1), up h8 (1 + g) (sS (h8 (1 + g)) 7 ((h8 (1 + g)).1 7 + 1))), ?_, K, Sl (opDel B ((Hl A).getD i bare)) (K ++ (Hl A).drop (i + 1)), rfl, ?_, ?_, rfl, ?_, ?_⟩
      · show st_X5_deliverPosted_10 N (nI g) (nI (Hl A).length) (nI i) x2 = _
        unfold st_X5_deliverPosted_10
        rw [e, e, e, a1, a2, a3, Z_gsel hg]
        simp (disch := omega) only [L1, Z_le, Z_add, Z_eq, c, ↓reduceIte, if_pos, if_neg, ob1_s, lt_d, e8]
      · have h7 := RC0_cnt hB8 (g := g) (c := 1) hg (by decide) ((h8 (1 + g)).1 7 + 1)
        have h9 : (h8 (1 + g)).1 7 = Hc (opClr B ((Hl A).getD i bare).2.1 ((Hl A).getD i bare).2.2.length) (12 + g) := hG8
        have e9 : opDel B ((Hl A).getD i bare) = Sc (opClr B ((Hl A).getD i bare).2.1 ((Hl A).getD i bare).2.2.length) (up (Hc (opClr B ((Hl A).getD i bare).2.1 ((Hl A).getD i bare).2.2.length)) (10 + 2 * 1 + g) ((h8 (1 + g)).1 7 + 1)) := by
          unfold opDel
          rw [c, h9]
        rw [e9]
        exact h7
      · show RPx K (i + 1) (Hl A) (up h8 (1 + g) _ 3)
        rw [up_n (by omega), hc2 3 (by decide)]
        exact ⟨hX.1, by have := hX.2.1; omega, hX.2.2.1, fun k hk1 hk2 => hX.2.2.2 k (by omega) hk2⟩
      · exact Inv_del hJ (by rw [hE, hd])
      · rw [← hS, hd]
        show _ = match fDel g B ((Hl A).getD i bare) with
          | some B' => sift (fDel g) ((Hl A).drop (i + 1)) K (Sl B' (K ++ (Hl A).drop (i + 1)))
          | none => _
        unfold fDel
        rw [if_pos c]
    · refine ⟨(nI (i + 1), up x2 3 (F_X7_keep (nI i) (x2 3))), ?_, K ++ [(Hl A).getD i bare], B, rfl, ?_, ?_, ?_, hJ, ?_⟩
      · show st_X5_deliverPosted_10 N (nI g) (nI (Hl A).length) (nI i) x2 = _
        unfold st_X5_deliverPosted_10
        have hlt := hok.1
        rw [e, a1]
        simp (disch := omega) only [L1, Z_le, Z_add, Z_eq, c, ↓reduceIte, if_neg, lt_d]
      · refine ⟨hB.1, fun g' hg' => ?_⟩
        show RG B g' (up x2 3 _ (1 + g'))
        rw [up_n (by omega)]
        exact hB.2 g' hg'
      · show RPx _ (i + 1) (Hl A) (up x2 3 _ 3)
        rw [up_s]
        exact C_keep hX hi hL
      · rw [hE, hd, List.append_assoc]
        rfl
      · rw [← hS, hd]
        show _ = match fDel g B ((Hl A).getD i bare) with
          | some B' => sift (fDel g) ((Hl A).drop (i + 1)) K (Sl B' (K ++ (Hl A).drop (i + 1)))
          | none => sift (fDel g) ((Hl A).drop (i + 1)) (K ++ [(Hl A).getD i bare]) B
        unfold fDel
        rw [if_neg c]
  · obtain ⟨K, B, e1, hB, hX, hE, hJ, hS⟩ := hP
    obtain ⟨x1, x2⟩ := x
    dsimp only at e1 hB hX
    cases e1
    rw [List.drop_length] at hE hS
    rw [List.append_nil] at hE
    refine ⟨x2, ?_, ?_, ?_⟩
    · show st_X5_deliverPosted_10 N (nI g) (nI (Hl A).length) (nI (Hl A).length) x2 = _
      unfold st_X5_deliverPosted_10
      simp (disch := omega) only [Z_le, if_pos]
    · rw [← hS]
      refine ⟨hB, ?_⟩
      show RP (Hl B) (x2 3)
      rw [hE]
      exact ⟨hX.1, hX.2.2.1⟩
    · rw [← hS]
      exact hJ
