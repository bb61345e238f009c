/-! ===== forms: arrays of references, the command forms, the states of the history ===== -/
theorem wmSame : Cond.sameMethod "HedgeMessages$CommandForm" "java/lang/Enum" "ordinal" "()I" ∈ lw_tbl := in_t4 (List.mem_of_getElem? (i := 157) rfl)
theorem wmDecl : Cond.declares yJx29ce0_ordinal_8abf5 ∈ lw_tbl := in_t4 (List.mem_of_getElem? (i := 158) rfl)
theorem cfW_lt : ∀ k, k < 8 → cfW.getD k 0 < 46 := by decide
def fv (w : WP) (x : Int32) : Value := va_rf (dForm w x)
theorem dF_0 {w : WP} {x : Int32} (h : x = 0) : dForm w x = none := if_pos h
theorem dF_s {w : WP} {x : Int32} (h : ¬ x = 0) : dForm w x = some (fAd w (x - 1).toNatClampNeg) := if_neg h
theorem dF_k {w : WP} {k : Nat} (h : k < 8) : dForm w (nI (k + 1)) = some (fAd w k) := by
  have e : nI (k + 1) - 1 = nI k := nI_pred k
  rw [dF_s (nI_ne0 (by omega) (by omega)), e, nI_clamp (by omega)]
theorem clN {x : Int32} {n : Nat} (h : vp_in x n) : x.toNatClampNeg < n := Nat.not_le.mp fun q => h (Or.inr q)
theorem gX_inj {w : WP} {X : CX} (h : gX w X (EXe w)) {j k : Nat} (hj : j < 8) (hk : k < 8) (e : fAd w j = fAd w k) : j = k := by
  obtain ⟨p, e9, R, s, m, args, below, meth, c, n, A⟩ := X
  exact h.2.2.2.2.2.2 j k hj hk e
def dHist (w : WP) (x : Int32) : Option Nat := if x < 0 then none else if nI 8 ≤ x then none else some (wAd w (0, 3 + x.toNatClampNeg, 0, 0))
theorem dH_s {w : WP} {x : Int32} (h : vpb x 8 = true) : dHist w x = some (wAd w (0, 3 + x.toNatClampNeg, 0, 0)) := by
  obtain ⟨j, hj, rfl⟩ := vp_in_of (vpb_in h) (by decide)
  unfold dHist
  rw [if_neg (nI_pos (by omega)), if_neg (nI_ge hj (by decide))]
theorem dH_n {w : WP} {x : Int32} (h : ¬ vpb x 8 = true) : dHist w x = none := by
  unfold dHist
  split
  · rfl
  · split
    · rfl
    · rename_i h1 h2
      exact absurd (in_vpb (ixOf (by decide) h1 h2)) h
theorem dH_le {x : Int32} (h : vpb x 8 = true) : 3 + x.toNatClampNeg ≤ 10 := by
  have := clN (vpb_in h)
  omega
section FORMS
variable {w : WP} {X : CX} {cc : ByteArray} {own : String} {ret : Option FieldType} {d nL : Nat} {Q : QT} {ct : CT} {pc : Nat} {lo : List (Nat × Value)} {st : List Value} {Ω Ω' : OM}
theorem r_lq {lo' : List (Nat × Value)} (h : lo = lo') (k : gU w X Q ct pc lo' st) : gU w X Q ct pc lo st := h ▸ k
theorem r_null (C : gC w X cc own ret d nL) (hd : decode cc pc = .ok (.aconst_null, 1)) (kk : gU w X Q ct (pc + 1) lo (.null :: st)) : gU w X Q ct pc lo st := by
  obtain ⟨p, e, R, s, m, args, below, meth, c, n, A⟩ := X
  exact fun H locs ls hP hS hl => lv_null C.1 C.2.1 hd (kk H locs ls hP hS hl)
theorem r_ifnullN (C : gC w X cc own ret d nL) {off : Int} {tgt : Nat} (ht : (pc : Int) + off = (tgt : Int)) (hd : decode cc pc = .ok (.ifnull off, 3)) (kk : gU w X Q ct tgt lo st) : gU w X Q ct pc lo (.null :: st) := by
  obtain ⟨p, e, R, s, m, args, below, meth, c, n, A⟩ := X
  exact fun H locs ls hP hS hl => lv_ifnullN C.1 C.2.1 hd ht (kk H locs ls hP hS hl)
theorem r_ifnull (C : gC w X cc own ret d nL) {off : Int} {q : Nat} (hd : decode cc pc = .ok (.ifnull off, 3)) (kk : gU w X Q ct (pc + 3) lo st) : gU w X Q ct pc lo (.ref q :: st) := by
  obtain ⟨p, e, R, s, m, args, below, meth, c, n, A⟩ := X
  exact fun H locs ls hP hS hl => lv_ifnull C.1 C.2.1 hd (kk H locs ls hP hS hl)
theorem r_ifnonnullN (C : gC w X cc own ret d nL) {off : Int} (hd : decode cc pc = .ok (.ifnonnull off, 3)) (kk : gU w X Q ct (pc + 3) lo st) : gU w X Q ct pc lo (.null :: st) := by
  obtain ⟨p, e, R, s, m, args, below, meth, c, n, A⟩ := X
  exact fun H locs ls hP hS hl => lv_ifnonnullN C.1 C.2.1 hd (kk H locs ls hP hS hl)
theorem r_ifnonnull (C : gC w X cc own ret d nL) {off : Int} {tgt q : Nat} (ht : (pc : Int) + off = (tgt : Int)) (hd : decode cc pc = .ok (.ifnonnull off, 3)) (kk : gU w X Q ct tgt lo st) : gU w X Q ct pc lo (.ref q :: st) := by
  obtain ⟨p, e, R, s, m, args, below, meth, c, n, A⟩ := X
  exact fun H locs ls hP hS hl => lv_ifnonnull C.1 C.2.1 hd ht (kk H locs ls hP hS hl)
theorem r_astoreq_n (C : gC w X cc own ret d nL) {i : Nat} {o : Option Nat} {f : Fin 4} {lo' : List (Nat × Value)} (hi : (f : Nat) = i) (hn : i < nL) (hl : (i, va_rf o) :: lo.filter (fun q => !(q.1 == i) && !(q.1 + 1 == i && q.2.category == 2)) = lo') (hd : decode cc pc = .ok (.astore_n f, 1)) (k : gU w X Q ct (pc + 1) lo' st) : gU w X Q ct pc lo (va_rf o :: st) := by
  cases o with
  | some x => exact r_astore_n C hi hn hl hd k
  | none =>
    obtain ⟨p, e, R, s, m, args, below, meth, c, n, A⟩ := X
    exact fun H locs ls hP hS hl9 => lv_astore_nN C.1 C.2.1 hd hi hl9 (by rw [C.2.2.2.2.2.2.2.2.1]; exact hn) hl (fun ls9 h9 => k H locs ls9 hP hS h9)
theorem r_aloadq_n (C : gC w X cc own ret d nL) {i k : Nat} {o : Option Nat} {f : Fin 4} (hl : lo[k]? = some (i, va_rf o)) (hi : (f : Nat) = i) (hd : decode cc pc = .ok (.aload_n f, 1)) (kk : gU w X Q ct (pc + 1) lo (va_rf o :: st)) : gU w X Q ct pc lo st := by
  cases o with
  | some x => exact r_aload_n C hl hi hd kk
  | none =>
    obtain ⟨p, e, R, s, m, args, below, meth, c, n, A⟩ := X
    exact fun H locs ls hP hS hl9 => lv_aload_nN C.1 C.2.1 hd hi (lv_at hl9 k hl) (kk H locs ls hP hS hl9)
theorem r_acmp_ne (C : gC w X cc own ret d nL) {off : Int} {tgt a b : Nat} (ht : (pc : Int) + off = (tgt : Int)) (hd : decode cc pc = .ok (.if_acmp .ne off, 3)) (kt : ¬ a = b → gU w X Q ct tgt lo st) (kf : a = b → gU w X Q ct (pc + 3) lo st) : gU w X Q ct pc lo (.ref b :: .ref a :: st) := by
  obtain ⟨p, e, R, s, m, args, below, meth, c, n, A⟩ := X
  exact fun H locs ls hP hS hl => lv_acmp_ne (rx := some a) (ry := some b) C.1 C.2.1 hd ht (fun h => kt (fun e => h (by rw [e])) H locs ls hP hS hl) (fun h => kf (Option.some.inj h) H locs ls hP hS hl)
theorem r_aald (C : gC w X cc own ret d nL) (i : ID) (hi : wOk w i) (t0 : Nat) {cA9 : ClassId} {E : String} {n : Nat} {f : Nat → Option Nat} (hct : ct i = .inl (cA9, n, .inr (.inr (.inr (.inr f))))) (ht : (wTy w)[t0]? = some (cA9, .object E)) {j : Int32} (hin : vp_in j n) (hd : decode cc pc = .ok (.aaload, 1)) (kk : gU w X Q ct (pc + 1) lo (va_rf (f j.toNatClampNeg) :: st)) : gU w X Q ct pc lo (.int j :: .ref (wAd w i) :: st) := by
  obtain ⟨p, e, R, s, m, args, below, meth, c, n, A⟩ := X
  intro H locs ls hP hS hl
  have h1 := hP i hi
  rw [hct] at h1
  exact va_aldq C.1 C.2.1 C.2.2.2.2.1.2 (one_P h1) 0 t0 rfl ht hin hd (kk H locs ls hP hS hl)
theorem r_alenq (C : gC w X cc own ret d nL) (i : ID) (hi : wOk w i) (t0 : Nat) {cA9 : ClassId} {x : vp_A} (hct : ct i = .inl (cA9, x)) {ty : FieldType} (ht : (wTy w)[t0]? = some (cA9, ty)) {n : Nat} (hn : x.1 = n) (hd : decode cc pc = .ok (.arraylength, 1)) (kk : gU w X Q ct (pc + 1) lo (.int (nI n) :: st)) : gU w X Q ct pc lo (.ref (wAd w i) :: st) := by
  subst hn
  exact r_alen C i hi t0 hct ht rfl hd kk
/-- a reference out of a table -/
theorem r_ta (C : gC w X cc own ret d nL) {E : String} {t N : Nat} {f : Nat → Nat} (hX : gX w X (va_T (.object E) t N (fun j => .ref (f j)))) {x : Int32} (hin : vp_in x N) (hd : decode cc pc = .ok (.aaload, 1)) (kk : gU w X Q ct (pc + 1) lo (.ref (f x.toNatClampNeg) :: st)) : gU w X Q ct pc lo (.int x :: .ref t :: st) := by
  obtain ⟨p, e, R, s, m, args, below, meth, c, n, A⟩ := X
  have hA := C.2.2.2.2.2.2.2.2.2.1
  subst hA
  intro H locs ls hP hS hl
  obtain ⟨cell, h1, h2, h3, h4, h5, h6, h7⟩ := va_T.kept hX hS.2.1
  have hlt : x.toNatClampNeg < N := Nat.not_le.mp fun q => hin (Or.inr q)
  exact W.aald (v := .ref (f x.toNatClampNeg)) (ty := .object E) C.1 C.2.1 h1 h2 rfl h3 (fun q => hin (q.elim Or.inl (fun z => Or.inr (Nat.le_trans h4 z)))) (h6 _ hlt) rfl rfl hd (kk H locs ls hP hS hl)
theorem r_aast (C : gC w X cc own ret d nL) (i : ID) (hi : wFr w i) (t0 : Nat) {cA9 : ClassId} {E : String} {n : Nat} {f : Nat → Option Nat} (hct : ct i = .inl (cA9, n, .inr (.inr (.inr (.inr f))))) (ht : (wTy w)[t0]? = some (cA9, .object E)) {j : Int32} (hin : vp_in j n) {v : Nat} (hv : gX w X (va_O E v)) (hd : decode cc pc = .ok (.aastore, 1)) {ct' : CT} (hct' : ∀ q, wOk w q → upE ct i (.inl (cA9, n, .inr (.inr (.inr (.inr (va_up f j.toNatClampNeg (some v))))))) q = ct' q) (kk : gU w X Q ct' (pc + 1) lo st) : gU w X Q ct pc lo (.ref v :: .int j :: .ref (wAd w i) :: st) := by
  obtain ⟨p, e, R, s, m, args, below, meth, c, n9, A⟩ := X
  intro H locs ls hP hS hl
  have hA : A = gA w s.heap.size := C.2.2.2.2.2.2.2.2.2.1
  subst hA
  have hlt : j.toNatClampNeg < n := Nat.not_le.mp fun q => hin (Or.inr q)
  have h0 : ¬ j < 0 := fun q => hin (Or.inl q)
  have hoi := C.2.2.2.2.2.1.2.1 i hi
  have h1 := hP i hoi
  rw [hct] at h1
  obtain ⟨cellV, g1, g3, g2, -⟩ := va_O.kept hv hS.2.1
  obtain ⟨kA, comp, k1, k2, k3, -⟩ := (C.2.2.2.2.1.2.2 t0 _ ht).2
  have hcomp : comp = cellV.cls := Option.some.inj (k3.symm.trans g2)
  subst hcomp
  obtain ⟨kC, hkC, -⟩ := Vm.findClass_spec k3
  refine W.aast C.1 C.2.1 h1 (fun q h => by cases h) (fun h => by cases h) k1 k2 rfl hkC ⟨h0, by show _ < (arrV _ _ _).slots.size; rw [arrV_size]; exact hlt⟩ g1 (fun q h => by rw [h] at g3; cases g3) hkC (va_asg s.vm cellV.cls) rfl rfl hd fun H1 e z oq => ?_
  refine kk H1 _ ls (gP_cong hct' <| gP_put C.2.2.2.2.2.1 hoi hP ?_ oq) (hS.put z oq (Or.inl ⟨i, hi, rfl⟩)) hl
  show H1[wAd w i]? = some (vp_cell _ _)
  rw [e]
  rw [vp_cell_q, vp_cell_q, arrV_store]
  congr 2
  funext q
  by_cases hq : q = j.toNatClampNeg
  · subst hq
    simp [updV, va_up, va_rf]
  · simp [updV, va_up, hq]
theorem dF_up {g : Nat → Int32} {k i : Nat} (hk : k < 8) : va_up (fun q => dForm w (g q)) i (some (fAd w k)) = fun q => dForm w (upd g i (nI (k + 1)) q) := by
  funext q
  unfold va_up upd
  by_cases h : q = i
  · rw [if_pos h, if_pos h, dF_k hk]
  · rw [if_neg h, if_neg h]
/-- a form laid into the list -/
theorem r_fast (C : gC w X cc own ret d nL) (hW : gW w) (hS9 : gS w) {k : Nat} (hk : k < 8) {g : HV} (e : Ω.1 11 5 = g) {x : Int32} (hin : vpb x 30 = true) (hd : decode cc pc = .ok (.aastore, 1)) (e2 : sP Ω 11 5 (sA g 0 (upd (g.2 0) x.toNatClampNeg (nI (k + 1)))) = Ω') (kk : gU w X Q (cA w Ω') (pc + 1) lo st) : gU w X Q (cA w Ω) pc lo (.ref (fAd w k) :: .int x :: .ref (wAd w (10, 11, 5, 0)) :: st) := by
  have hE := hS9.e C
  subst e
  subst e2
  refine r_aast C (10, 11, 5, 0) (hW.fr k10) 2 (n := 30) (f := fun q => dForm w ((Ω.1 11 5).2 0 q)) rfl rfl (vpb_in hin) (hE.imp fun _ _ _ h => (h.2.2.2.2.1 k hk).1) hd (fun q hq => ?_) kk
  rw [dF_up hk]
  exact putF q (hW.x q hq)
theorem r_callO (C : gC w X cc own ret d nL) (hS9 : gS w) (hdd : 1 ≤ d) {idx k : Nat} (hk : k < 8) (hli : Cond.methodLink own idx ({ cls := "HedgeMessages$CommandForm", name := "ordinal", desc := "()I" } : Jvm.MethodName) ∈ lw_tbl) (hst : (st.map fun v => v.category).sum ≤ 8) (hd : decode cc pc = .ok (.invokevirtual idx, 3)) (kk : gU w X Q ct (pc + 3) lo (.int (nI k) :: st)) (hq : qOk X Q := by first | exact qOk0 rfl rfl | assumption) : gU w X Q ct pc lo (.ref (fAd w k) :: st) := by
  have hE := hS9.e C
  refine g_on (v := some (.int (nI k))) C kk ?_
  obtain ⟨p, e, R, s, m, args, below, meth, c, n, A⟩ := X
  intro H locs ls hP hS hl
  have hA0 := C.2.2.2.2.2.2.2.2.2.1
  subst hA0
  have hR := C.2.2.2.2.2.2.2.2.2.2.1
  have hcd : Cond.code yJx29ce0_ordinal_8abf5 cJx29ce0_ordinal_8abf5 1 (some .int) ∈ lw_tbl := wm4_161
  refine ⟨_, va_runU (x := ({ cls := "HedgeMessages$CommandForm", name := "ordinal", desc := "()I" } : Jvm.MethodName)) (y := yJx29ce0_ordinal_8abf5) (bytes := cJx29ce0_ordinal_8abf5) (maxL := 1) (ret := some .int) (C := "HedgeMessages$CommandForm") (owner := "java/lang/Enum") (As := []) (n := 0) (mc := 0) (ms := 0) (rest := st) (Ts := []) (own := own) (b := fAd w k) ⟨C.1, C.2.1, C.2.2.1, C.2.2.2.1, fun _ h => by cases h⟩ (c_ordinal hS9 (ct := ct) hk H.size)
    ⟨⟨rfl, rfl, Nat.le_trans hdd hR.1, ?_, ?_, List.mem_cons_self⟩, C.2.2.2.2.1.1.use hcd rfl, C.2.2.2.2.1.1.use wm1_22 rfl, ⟨by decide, by decide⟩, fun sig h => ?_, C.2.2.2.2.1.1.use hli rfl, C.2.2.2.2.1.1.use wmSame rfl, ?_, C.2.2.2.2.1.1.use wm4_159 rfl, C.2.2.2.2.1.1.use wm4_160 rfl⟩
    ⟨(gPc C.2.2.2.2.1 C.2.2.2.2.2.1 hP C.2.2.2.2.2.2.2.2.2.2.2 hS).1, ?_, (gPc C.2.2.2.2.1 C.2.2.2.2.2.1 hP C.2.2.2.2.2.2.2.2.2.2.2 hS).2⟩ rfl rfl ?_ rfl (lv_room hst) hd hq⟩
  · show 8 + (1 + 11) + 40 * 0 ≤ R.locals
    have := hR.2
    omega
  · intro c9 hc a' U hW
    rw [List.mem_singleton.mp hc]
    exact (C.2.2.2.2.1.1.warm hW).use hcd rfl
  · have h2 : (parseMethodDescriptor "()I").map (fun d => d.parameters.length) = some 0 := by decide +kernel
    rw [h] at h2
    exact (Option.some.inj h2).symm
  · exact va_Decl.of (C.2.2.2.2.1.1.use (args := args) wm4_160 rfl) (C.2.2.2.2.1.1.use (args := args) hcd rfl)
  · obtain ⟨cell, h1, h2, h3, -⟩ := va_O.kept (hE.2.2.2.2.1 k hk).1 hS.2.1
    exact ⟨cell, h1, h2, h3⟩
  · rw [hl.1]
    exact C.2.2.2.2.2.2.2.2.1
end FORMS
theorem dX2_formOf_0 : decode cX2_formOf 0 = .ok (.iload_n 1, 1) := by decide +kernel
theorem dX2_formOf_1 : decode cX2_formOf 1 = .ok (.ifCond .lt 21, 3) := by decide +kernel
theorem dX2_formOf_4 : decode cX2_formOf 4 = .ok (.iload_n 1, 1) := by decide +kernel
theorem dX2_formOf_5 : decode cX2_formOf 5 = .ok (.aload_n 0, 1) := by decide +kernel
theorem dX2_formOf_6 : decode cX2_formOf 6 = .ok (.getfield 11, 3) := by decide +kernel
theorem dX2_formOf_9 : decode cX2_formOf 9 = .ok (.arraylength, 1) := by decide +kernel
theorem dX2_formOf_10 : decode cX2_formOf 10 = .ok (.if_icmp .ge 12, 3) := by decide +kernel
theorem dX2_formOf_13 : decode cX2_formOf 13 = .ok (.aload_n 0, 1) := by decide +kernel
theorem dX2_formOf_14 : decode cX2_formOf 14 = .ok (.getfield 11, 3) := by decide +kernel
theorem dX2_formOf_17 : decode cX2_formOf 17 = .ok (.iload_n 1, 1) := by decide +kernel
theorem dX2_formOf_18 : decode cX2_formOf 18 = .ok (.aaload, 1) := by decide +kernel
theorem dX2_formOf_19 : decode cX2_formOf 19 = .ok (.goto 4, 3) := by decide +kernel
theorem dX2_formOf_22 : decode cX2_formOf 22 = .ok (.aconst_null, 1) := by decide +kernel
theorem dX2_formOf_23 : decode cX2_formOf 23 = .ok (.areturn, 1) := by decide +kernel
theorem dX2_formNamedBy_0 : decode cX2_formNamedBy 0 = .ok (.iconst 0, 1) := by decide +kernel
theorem dX2_formNamedBy_1 : decode cX2_formNamedBy 1 = .ok (.istore_n 1, 1) := by decide +kernel
theorem dX2_formNamedBy_2 : decode cX2_formNamedBy 2 = .ok (.iload_n 1, 1) := by decide +kernel
theorem dX2_formNamedBy_3 : decode cX2_formNamedBy 3 = .ok (.getstatic 63, 3) := by decide +kernel
theorem dX2_formNamedBy_6 : decode cX2_formNamedBy 6 = .ok (.arraylength, 1) := by decide +kernel
theorem dX2_formNamedBy_7 : decode cX2_formNamedBy 7 = .ok (.if_icmp .ge 28, 3) := by decide +kernel
theorem dX2_formNamedBy_10 : decode cX2_formNamedBy 10 = .ok (.getstatic 63, 3) := by decide +kernel
theorem dX2_formNamedBy_13 : decode cX2_formNamedBy 13 = .ok (.iload_n 1, 1) := by decide +kernel
theorem dX2_formNamedBy_14 : decode cX2_formNamedBy 14 = .ok (.aaload, 1) := by decide +kernel
theorem dX2_formNamedBy_15 : decode cX2_formNamedBy 15 = .ok (.astore_n 2, 1) := by decide +kernel
theorem dX2_formNamedBy_16 : decode cX2_formNamedBy 16 = .ok (.aload_n 0, 1) := by decide +kernel
theorem dX2_formNamedBy_17 : decode cX2_formNamedBy 17 = .ok (.aload_n 2, 1) := by decide +kernel
theorem dX2_formNamedBy_18 : decode cX2_formNamedBy 18 = .ok (.getfield 66, 3) := by decide +kernel
theorem dX2_formNamedBy_21 : decode cX2_formNamedBy 21 = .ok (.invokevirtual 70, 3) := by decide +kernel
theorem dX2_formNamedBy_24 : decode cX2_formNamedBy 24 = .ok (.ifCond .eq 5, 3) := by decide +kernel
theorem dX2_formNamedBy_27 : decode cX2_formNamedBy 27 = .ok (.aload_n 2, 1) := by decide +kernel
theorem dX2_formNamedBy_28 : decode cX2_formNamedBy 28 = .ok (.areturn, 1) := by decide +kernel
theorem dX2_formNamedBy_29 : decode cX2_formNamedBy 29 = .ok (.iinc 1 1, 3) := by decide +kernel
theorem dX2_formNamedBy_32 : decode cX2_formNamedBy 32 = .ok (.goto (-30), 3) := by decide +kernel
theorem dX2_formNamedBy_35 : decode cX2_formNamedBy 35 = .ok (.aconst_null, 1) := by decide +kernel
theorem dX2_formNamedBy_36 : decode cX2_formNamedBy 36 = .ok (.areturn, 1) := by decide +kernel
theorem dX6_stateAt_0 : decode cX6_stateAt 0 = .ok (.iload_n 1, 1) := by decide +kernel
theorem dX6_stateAt_1 : decode cX6_stateAt 1 = .ok (.ifCond .lt 21, 3) := by decide +kernel
theorem dX6_stateAt_4 : decode cX6_stateAt 4 = .ok (.iload_n 1, 1) := by decide +kernel
theorem dX6_stateAt_5 : decode cX6_stateAt 5 = .ok (.aload_n 0, 1) := by decide +kernel
theorem dX6_stateAt_6 : decode cX6_stateAt 6 = .ok (.getfield 11, 3) := by decide +kernel
theorem dX6_stateAt_9 : decode cX6_stateAt 9 = .ok (.arraylength, 1) := by decide +kernel
theorem dX6_stateAt_10 : decode cX6_stateAt 10 = .ok (.if_icmp .ge 12, 3) := by decide +kernel
theorem dX6_stateAt_13 : decode cX6_stateAt 13 = .ok (.aload_n 0, 1) := by decide +kernel
theorem dX6_stateAt_14 : decode cX6_stateAt 14 = .ok (.getfield 11, 3) := by decide +kernel
theorem dX6_stateAt_17 : decode cX6_stateAt 17 = .ok (.iload_n 1, 1) := by decide +kernel
theorem dX6_stateAt_18 : decode cX6_stateAt 18 = .ok (.aaload, 1) := by decide +kernel
theorem dX6_stateAt_19 : decode cX6_stateAt 19 = .ok (.goto 4, 3) := by decide +kernel
theorem dX6_stateAt_22 : decode cX6_stateAt 22 = .ok (.aconst_null, 1) := by decide +kernel
theorem dX6_stateAt_23 : decode cX6_stateAt 23 = .ok (.areturn, 1) := by decide +kernel
theorem c_X2_formOf {w : WP} (hW : gW w) {Ω : OM} {g : HV} (e : Ω.1 11 5 = g) (a1 : Int32) : gM w 0 yX2_formOf cX2_formOf 2 (some (.object "HedgeMessages$CommandForm")) [.ref (wAd w (6, 11, 5, 0)), .int a1] (cA w Ω) (some (va_rf (dForm w (rget 30 (g.2 0) a1)))) (cA w Ω) := by
  refine gM_of "HedgeMessages$CommandList" rfl (by decide) (kR rfl) fun X C => ?_
  subst e
  unfold rget
  show gV w X _ _ 0 [(0, .ref (wAd w (6, 11, 5, 0))), (1, .int a1)] []
  refine r_iload_n C (k := 1) rfl rfl dX2_formOf_0 ?_
  refine r_if_lt C (tgt := 22) rfl dX2_formOf_1 (fun h => ?_) (fun h => ?_)
  · rw [if_pos h]
    refine r_null C dX2_formOf_22 ?_
    exact r_areturnN C (Or.inl ⟨_, rfl⟩) dX2_formOf_23
  rw [if_neg h]
  refine r_iload_n C (k := 1) rfl rfl dX2_formOf_4 ?_
  refine r_aload_n C (k := 0) rfl rfl dX2_formOf_5 ?_
  refine og_6_0 C (hW.ok k6) wm2_43 dX2_formOf_6 ?_
  refine r_alenq C (10, 11, 5, 0) (hW.ok k10) 2 rfl rfl (n := 30) rfl dX2_formOf_9 ?_
  refine r_icmp_ge C (tgt := 22) rfl dX2_formOf_10 (fun h2 => ?_) (fun h2 => ?_)
  · rw [if_pos h2]
    refine r_null C dX2_formOf_22 ?_
    exact r_areturnN C (Or.inl ⟨_, rfl⟩) dX2_formOf_23
  rw [if_neg h2]
  refine r_aload_n C (k := 0) rfl rfl dX2_formOf_13 ?_
  refine og_6_0 C (hW.ok k6) wm2_43 dX2_formOf_14 ?_
  refine r_iload_n C (k := 1) rfl rfl dX2_formOf_17 ?_
  refine r_aald C (10, 11, 5, 0) (hW.ok k10) 2 rfl rfl (ixOf (by decide) h h2) dX2_formOf_18 ?_
  refine r_goto C (tgt := 23) rfl dX2_formOf_19 ?_
  generalize dForm w ((Ω.1 11 5).2 0 a1.toNatClampNeg) = o
  cases o with
  | none => exact r_areturnN C (Or.inl ⟨_, rfl⟩) dX2_formOf_23
  | some q => exact r_areturn C (Or.inl ⟨_, rfl⟩) dX2_formOf_23
theorem c_X6_stateAt {w : WP} (hW : gW w) {Ω : OM} (a1 : Int32) : gM w 0 yX6_stateAt cX6_stateAt 2 (some (.object "HedgeMessages$Hedge")) [.ref (wAd w (8, 11, 7, 0)), .int a1] (cA w Ω) (some (va_rf (dHist w a1))) (cA w Ω) := by
  refine gM_of "HedgeMessages$History" rfl (by decide) (kR rfl) fun X C => ?_
  unfold dHist
  show gV w X _ _ 0 [(0, .ref (wAd w (8, 11, 7, 0))), (1, .int a1)] []
  refine r_iload_n C (k := 1) rfl rfl dX6_stateAt_0 ?_
  refine r_if_lt C (tgt := 22) rfl dX6_stateAt_1 (fun h => ?_) (fun h => ?_)
  · rw [if_pos h]
    refine r_null C dX6_stateAt_22 ?_
    exact r_areturnN C (Or.inl ⟨_, rfl⟩) dX6_stateAt_23
  rw [if_neg h]
  refine r_iload_n C (k := 1) rfl rfl dX6_stateAt_4 ?_
  refine r_aload_n C (k := 0) rfl rfl dX6_stateAt_5 ?_
  refine og_8_0 C (hW.ok k8) wm1_215 dX6_stateAt_6 ?_
  refine r_alenq C (9, 11, 7, 0) (hW.ok k9) 1 rfl rfl (n := 8) rfl dX6_stateAt_9 ?_
  refine r_icmp_ge C (tgt := 22) rfl dX6_stateAt_10 (fun h2 => ?_) (fun h2 => ?_)
  · rw [if_pos h2]
    refine r_null C dX6_stateAt_22 ?_
    exact r_areturnN C (Or.inl ⟨_, rfl⟩) dX6_stateAt_23
  rw [if_neg h2]
  refine r_aload_n C (k := 0) rfl rfl dX6_stateAt_13 ?_
  refine og_8_0 C (hW.ok k8) wm1_215 dX6_stateAt_14 ?_
  refine r_iload_n C (k := 1) rfl rfl dX6_stateAt_17 ?_
  refine r_aald C (9, 11, 7, 0) (hW.ok k9) 1 rfl rfl (ixOf (by decide) h h2) dX6_stateAt_18 ?_
  refine r_goto C (tgt := 23) rfl dX6_stateAt_19 ?_
  exact r_areturn C (Or.inl ⟨_, rfl⟩) dX6_stateAt_23
def st_X2_formNamedBy (N : Nat) (i : Int32) (g : HV) : Option (Int32 ⊕ Int32) := if nI 8 ≤ i then some (.inr 0) else if vpb i 8 = true then ob1 (F_X9_isWord N (cfW.getD i.toNatClampNeg 0) g) fun v => if v = true then some (.inr (i + 1)) else some (.inl (i + 1)) else none
def F_X2_formNamedBy (N : Nat) (g : HV) : Option Int32 := lpN N (fun i => st_X2_formNamedBy N i g) 0
theorem c_X2_formNamedBy {w : WP} (hW : gW w) (hS : gS w) {Ω : OM} {g : HV} (e : Ω.1 11 4 = g) (N : Nat) {v : Int32} (hF : F_X2_formNamedBy N g = some v) : gM w 5 yX2_formNamedBy cX2_formNamedBy 3 (some (.object "HedgeMessages$CommandForm")) [.ref (wAd w (5, 11, 4, 0))] (cA w Ω) (some (va_rf (dForm w v))) (cA w Ω) := by
  refine gM_of "HedgeMessages$CommandList" rfl (by decide) (kR rfl) fun X C => ?_
  have hE := hS.e C
  show gV w X _ _ 0 [(0, .ref (wAd w (5, 11, 4, 0)))] []
  have lp : ∀ (n : Nat) (i : Int32), lpN n (fun i => st_X2_formNamedBy N i g) i = some v → gV w X (some (va_rf (dForm w v)), cA w Ω) (cA w Ω) 2 [(1, .int i), (0, .ref (wAd w (5, 11, 4, 0)))] [] := by
    intro n
    induction n with
    | zero => intro i hL; exact lpN_0 hL
    | succ n ih =>
      intro i hL
      obtain ⟨q9, hF, hL⟩ := lpN_e hL
      change st_X2_formNamedBy N i g = some q9 at hF
      unfold st_X2_formNamedBy at hF
      refine r_iload_n C (k := 0) rfl rfl dX2_formNamedBy_2 ?_
      refine r_getsN C (hE.imp fun _ _ _ h => h.1) wm4_124 dX2_formNamedBy_3 ?_
      refine r_tlen C (hE.imp fun _ _ _ h => h.2.1) dX2_formNamedBy_6 ?_
      refine r_icmp_ge C (tgt := 35) rfl dX2_formNamedBy_7 (fun h => ?_) (fun h => ?_)
      · rw [if_pos h] at hF
        cases hF
        change some _ = some _ at hL
        cases hL
        refine r_null C dX2_formNamedBy_35 ?_
        exact r_areturnN C (Or.inl ⟨_, rfl⟩) dX2_formNamedBy_36
      rw [if_neg h] at hF
      obtain ⟨hb, hF⟩ := gd_e hF
      obtain ⟨j, hj, rfl⟩ := vp_in_of (vpb_in hb) (by decide)
      have hcl : (nI j).toNatClampNeg = j := nI_clamp (by omega)
      rw [hcl] at hF
      refine r_getsN C (hE.imp fun _ _ _ h => h.1) wm4_124 dX2_formNamedBy_10 ?_
      refine r_iload_n C (k := 0) rfl rfl dX2_formNamedBy_13 ?_
      refine r_ta C (hE.imp fun _ _ _ h => h.2.1) (vpb_in hb) dX2_formNamedBy_14 ?_
      rw [hcl]
      refine r_astore_n C (lo' := [(2, .ref (fAd w j)), (1, .int (nI j)), (0, .ref (wAd w (5, 11, 4, 0)))]) rfl (by decide) rfl dX2_formNamedBy_15 ?_
      refine r_aload_n C (k := 2) rfl rfl dX2_formNamedBy_16 ?_
      refine r_aload_n C (k := 0) rfl rfl dX2_formNamedBy_17 ?_
      refine r_getON C (hE.imp fun _ _ _ h => (h.2.2.2.2.1 j hj).2.2.1) wm9_198 dX2_formNamedBy_18 ?_
      obtain ⟨b, h1, hF⟩ := ob1_e hF
      refine r_callV C (d' := 4) [.ref (sAd w (cfW.getD j 0))] (c_X9_isWord hW hS e N (cfW.getD j 0) (cfW_lt j hj) h1) myX9_isWord wm4_126 ⟨_, _, _, _, (hW.ok k5), rfl, rfl, rfl, rfl⟩ rfl (kR rfl) (by decide) (kR rfl) rfl dX2_formNamedBy_21 ?_
      refine r_if_eq C (tgt := 29) rfl dX2_formNamedBy_24 (fun hc => ?_) (fun hc => ?_)
      · rw [if_neg (b2i_f hc)] at hF
        cases hF
        change lpN n _ _ = some _ at hL
        refine r_iinc C (k := 1) (v := (nI j + 1)) (lo' := [(1, .int (nI j + 1)), (2, .ref (fAd w j)), (0, .ref (wAd w (5, 11, 4, 0)))]) rfl rfl (by decide) rfl dX2_formNamedBy_29 ?_
        refine r_goto C (tgt := 2) rfl dX2_formNamedBy_32 ?_
        refine r_lo [0, 2] (lo' := [(1, .int (nI j + 1)), (0, .ref (wAd w (5, 11, 4, 0)))]) rfl ?_
        exact ih _ hL
      · rw [if_pos (b2i_t hc)] at hF
        cases hF
        change some _ = some _ at hL
        have hL := Option.some.inj hL
        refine r_aload_n C (k := 0) rfl rfl dX2_formNamedBy_27 ?_
        have hv : dForm w v = some (fAd w j) := by
          rw [← hL, nI_1]
          exact dF_k hj
        rw [hv]
        exact r_areturn C (Or.inl ⟨_, rfl⟩) dX2_formNamedBy_28
  refine r_iconst C (v := 0) rfl dX2_formNamedBy_0 ?_
  refine r_istore_n C (lo' := [(1, .int 0), (0, .ref (wAd w (5, 11, 4, 0)))]) rfl (by decide) rfl dX2_formNamedBy_1 ?_
  exact lp N 0 hF
