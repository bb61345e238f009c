/-! ===== forms: arrays of references, the command forms, the states of the history ===== -/
theorem clN {x : Int32} {n : Nat} (h : vp_in x n) : x.toNatClampNeg < n := Nat.not_le.mp fun q => h (Or.inr q)
def dHist (w : WP) (x : Int32) : Option Nat := if x < 0 then none else if nI 8 ≤ x then none else some (wAd w (0, 3 + x.toNatClampNeg, 0, 0))
theorem dH_s {w : WP} {x : Int32} (h : vpb x 8 = true) : dHist w x = some (wAd w (0, 3 + x.toNatClampNeg, 0, 0)) := by
  obtain ⟨j, hj, rfl⟩ := vp_in_of (vpb_in h) (by decide)
  unfold dHist
  rw [if_neg (nI_pos (by omega)), if_neg (nI_ge hj (by decide))]
theorem dH_n {w : WP} {x : Int32} (h : ¬ vpb x 8 = true) : dHist w x = none := by
  unfold dHist
  split
  · rfl
  · split
    · rfl
    · rename_i h1 h2
      exact absurd (in_vpb (ixOf (by decide) h1 h2)) h
theorem dH_le {x : Int32} (h : vpb x 8 = true) : 3 + x.toNatClampNeg ≤ 10 := by
  have := clN (vpb_in h)
  omega
section FORMS
variable {w : WP} {X : CX} {cc : ByteArray} {own : String} {ret : Option FieldType} {d nL : Nat} {Q : QT} {ct : CT} {pc : Nat} {lo : List (Nat × Value)} {st : List Value} {Ω Ω' : OM}
theorem r_lq {lo' : List (Nat × Value)} (h : lo = lo') (k : gU w X Q ct pc lo' st) : gU w X Q ct pc lo st := h ▸ k
theorem r_null (C : gC w X cc own ret d nL) (hd : decode cc pc = .ok (.aconst_null, 1)) (kk : gU w X Q ct (pc + 1) lo (.null :: st)) : gU w X Q ct pc lo st := by
  obtain ⟨p, e, R, s, m, args, below, meth, c, n, A⟩ := X
  exact fun H locs ls hP hS hl => lv_null C.1 C.2.1 hd (kk H locs ls hP hS hl)
theorem r_ifnullN (C : gC w X cc own ret d nL) {off : Int} {tgt : Nat} (ht : (pc : Int) + off = (tgt : Int)) (hd : decode cc pc = .ok (.ifnull off, 3)) (kk : gU w X Q ct tgt lo st) : gU w X Q ct pc lo (.null :: st) := by
  obtain ⟨p, e, R, s, m, args, below, meth, c, n, A⟩ := X
  exact fun H locs ls hP hS hl => lv_ifnullN C.1 C.2.1 hd ht (kk H locs ls hP hS hl)
theorem r_ifnull (C : gC w X cc own ret d nL) {off : Int} {q : Nat} (hd : decode cc pc = .ok (.ifnull off, 3)) (kk : gU w X Q ct (pc + 3) lo st) : gU w X Q ct pc lo (.ref q :: st) := by
  obtain ⟨p, e, R, s, m, args, below, meth, c, n, A⟩ := X
  exact fun H locs ls hP hS hl => lv_ifnull C.1 C.2.1 hd (kk H locs ls hP hS hl)
theorem r_ifnonnullN (C : gC w X cc own ret d nL) {off : Int} (hd : decode cc pc = .ok (.ifnonnull off, 3)) (kk : gU w X Q ct (pc + 3) lo st) : gU w X Q ct pc lo (.null :: st) := by
  obtain ⟨p, e, R, s, m, args, below, meth, c, n, A⟩ := X
  exact fun H locs ls hP hS hl => lv_ifnonnullN C.1 C.2.1 hd (kk H locs ls hP hS hl)
theorem r_ifnonnull (C : gC w X cc own ret d nL) {off : Int} {tgt q : Nat} (ht : (pc : Int) + off = (tgt : Int)) (hd : decode cc pc = .ok (.ifnonnull off, 3)) (kk : gU w X Q ct tgt lo st) : gU w X Q ct pc lo (.ref q :: st) := by
  obtain ⟨p, e, R, s, m, args, below, meth, c, n, A⟩ := X
  exact fun H locs ls hP hS hl => lv_ifnonnull C.1 C.2.1 hd ht (kk H locs ls hP hS hl)
theorem r_astoreq_n (C : gC w X cc own ret d nL) {i : Nat} {o : Option Nat} {f : Fin 4} {lo' : List (Nat × Value)} (hi : (f : Nat) = i) (hn : i < nL) (hl : (i, va_rf o) :: lo.filter (fun q => !(q.1 == i) && !(q.1 + 1 == i && q.2.category == 2)) = lo') (hd : decode cc pc = .ok (.astore_n f, 1)) (k : gU w X Q ct (pc + 1) lo' st) : gU w X Q ct pc lo (va_rf o :: st) := by
  cases o with
  | some x => exact r_astore_n C hi hn hl hd k
  | none =>
    obtain ⟨p, e, R, s, m, args, below, meth, c, n, A⟩ := X
    exact fun H locs ls hP hS hl9 => lv_astore_nN C.1 C.2.1 hd hi hl9 (by rw [C.2.2.2.2.2.2.2.2.1]; exact hn) hl (fun ls9 h9 => k H locs ls9 hP hS h9)
theorem r_aloadq_n (C : gC w X cc own ret d nL) {i k : Nat} {o : Option Nat} {f : Fin 4} (hl : lo[k]? = some (i, va_rf o)) (hi : (f : Nat) = i) (hd : decode cc pc = .ok (.aload_n f, 1)) (kk : gU w X Q ct (pc + 1) lo (va_rf o :: st)) : gU w X Q ct pc lo st := by
  cases o with
  | some x => exact r_aload_n C hl hi hd kk
  | none =>
    obtain ⟨p, e, R, s, m, args, below, meth, c, n, A⟩ := X
    exact fun H locs ls hP hS hl9 => lv_aload_nN C.1 C.2.1 hd hi (lv_at hl9 k hl) (kk H locs ls hP hS hl9)
theorem r_acmp_ne (C : gC w X cc own ret d nL) {off : Int} {tgt a b : Nat} (ht : (pc : Int) + off = (tgt : Int)) (hd : decode cc pc = .ok (.if_acmp .ne off, 3)) (kt : ¬ a = b → gU w X Q ct tgt lo st) (kf : a = b → gU w X Q ct (pc + 3) lo st) : gU w X Q ct pc lo (.ref b :: .ref a :: st) := by
  obtain ⟨p, e, R, s, m, args, below, meth, c, n, A⟩ := X
  exact fun H locs ls hP hS hl => lv_acmp_ne (rx := some a) (ry := some b) C.1 C.2.1 hd ht (fun h => kt (fun e => h (by rw [e])) H locs ls hP hS hl) (fun h => kf (Option.some.inj h) H locs ls hP hS hl)
theorem r_aald (C : gC w X cc own ret d nL) (i : ID) (hi : wOk w i) (t0 : Nat) {cA9 : ClassId} {E : String} {n : Nat} {f : Nat → Option Nat} (hct : ct i = .inl (cA9, n, .inr (.inr (.inr (.inr f))))) (ht : (wTy w)[t0]? = some (cA9, .object E)) {j : Int32} (hin : vp_in j n) (hd : decode cc pc = .ok (.aaload, 1)) (kk : gU w X Q ct (pc + 1) lo (va_rf (f j.toNatClampNeg) :: st)) : gU w X Q ct pc lo (.int j :: .ref (wAd w i) :: st) := by
  obtain ⟨p, e, R, s, m, args, below, meth, c, n, A⟩ := X
  intro H locs ls hP hS hl
  have h1 := hP i hi
  rw [hct] at h1
  exact va_aldq C.1 C.2.1 C.2.2.2.2.1.2 (one_P h1) 0 t0 rfl ht hin hd (kk H locs ls hP hS hl)
theorem r_alenq (C : gC w X cc own ret d nL) (i : ID) (hi : wOk w i) (t0 : Nat) {cA9 : ClassId} {x : vp_A} (hct : ct i = .inl (cA9, x)) {ty : FieldType} (ht : (wTy w)[t0]? = some (cA9, ty)) {n : Nat} (hn : x.1 = n) (hd : decode cc pc = .ok (.arraylength, 1)) (kk : gU w X Q ct (pc + 1) lo (.int (nI n) :: st)) : gU w X Q ct pc lo (.ref (wAd w i) :: st) := by
  subst hn
  exact r_alen C i hi t0 hct ht rfl hd kk
/-- a reference out of a table -/
theorem r_ta (C : gC w X cc own ret d nL) {E : String} {t N : Nat} {f : Nat → Nat} (hX : gX w X (va_T (.object E) t N (fun j => .ref (f j)))) {x : Int32} (hin : vp_in x N) (hd : decode cc pc = .ok (.aaload, 1)) (kk : gU w X Q ct (pc + 1) lo (.ref (f x.toNatClampNeg) :: st)) : gU w X Q ct pc lo (.int x :: .ref t :: st) := by
  obtain ⟨p, e, R, s, m, args, below, meth, c, n, A⟩ := X
  have hA := C.2.2.2.2.2.2.2.2.2.1
  subst hA
  intro H locs ls hP hS hl
  obtain ⟨cell, h1, h2, h3, h4, h5, h6, h7⟩ := va_T.kept hX hS.2.1
  have hlt : x.toNatClampNeg < N := Nat.not_le.mp fun q => hin (Or.inr q)
  exact W.aald (v := .ref (f x.toNatClampNeg)) (ty := .object E) C.1 C.2.1 h1 h2 rfl h3 (fun q => hin (q.elim Or.inl (fun z => Or.inr (Nat.le_trans h4 z)))) (h6 _ hlt) rfl rfl hd (kk H locs ls hP hS hl)
theorem r_aast (C : gC w X cc own ret d nL) (i : ID) (hi : wFr w i) (t0 : Nat) {cA9 : ClassId} {E : String} {n : Nat} {f : Nat → Option Nat} (hct : ct i = .inl (cA9, n, .inr (.inr (.inr (.inr f))))) (ht : (wTy w)[t0]? = some (cA9, .object E)) {j : Int32} (hin : vp_in j n) {v : Nat} (hv : gX w X (va_O E v)) (hd : decode cc pc = .ok (.aastore, 1)) {ct' : CT} (hct' : ∀ q, wOk w q → upE ct i (.inl (cA9, n, .inr (.inr (.inr (.inr (va_up f j.toNatClampNeg (some v))))))) q = ct' q) (kk : gU w X Q ct' (pc + 1) lo st) : gU w X Q ct pc lo (.ref v :: .int j :: .ref (wAd w i) :: st) := by
  obtain ⟨p, e, R, s, m, args, below, meth, c, n9, A⟩ := X
  intro H locs ls hP hS hl
  have hA : A = gA w s.heap.size := C.2.2.2.2.2.2.2.2.2.1
  subst hA
  have hlt : j.toNatClampNeg < n := Nat.not_le.mp fun q => hin (Or.inr q)
  have h0 : ¬ j < 0 := fun q => hin (Or.inl q)
  have hoi := C.2.2.2.2.2.1.2.1 i hi
  have h1 := hP i hoi
  rw [hct] at h1
  obtain ⟨cellV, g1, g3, g2, -⟩ := va_O.kept hv hS.2.1
  obtain ⟨kA, comp, k1, k2, k3, -⟩ := (C.2.2.2.2.1.2.2 t0 _ ht).2
  have hcomp : comp = cellV.cls := Option.some.inj (k3.symm.trans g2)
  subst hcomp
  obtain ⟨kC, hkC, -⟩ := Vm.findClass_spec k3
  refine W.aast C.1 C.2.1 h1 (fun q h => by cases h) (fun h => by cases h) k1 k2 rfl hkC ⟨h0, by show _ < (arrV _ _ _).slots.size; rw [arrV_size]; exact hlt⟩ g1 (fun q h => by rw [h] at g3; cases g3) hkC (va_asg s.vm cellV.cls) rfl rfl hd fun H1 e z oq => ?_
  refine kk H1 _ ls (gP_cong hct' <| gP_put C.2.2.2.2.2.1 hoi hP ?_ oq) (hS.put z oq (Or.inl ⟨i, hi, rfl⟩)) hl
  show H1[wAd w i]? = some (vp_cell _ _)
  rw [e]
  rw [vp_cell_q, vp_cell_q, arrV_store]
  congr 2
  funext q
  by_cases hq : q = j.toNatClampNeg
  · subst hq
    simp [updV, va_up, va_rf]
  · simp [updV, va_up, hq]
end FORMS
theorem dX6_stateAt_0 : decode cX6_stateAt 0 = .ok (.iload_n 1, 1) := by decide +kernel
theorem dX6_stateAt_1 : decode cX6_stateAt 1 = .ok (.ifCond .lt 21, 3) := by decide +kernel
theorem dX6_stateAt_4 : decode cX6_stateAt 4 = .ok (.iload_n 1, 1) := by decide +kernel
theorem dX6_stateAt_5 : decode cX6_stateAt 5 = .ok (.aload_n 0, 1) := by decide +kernel
theorem dX6_stateAt_6 : decode cX6_stateAt 6 = .ok (.getfield 11, 3) := by decide +kernel
theorem dX6_stateAt_9 : decode cX6_stateAt 9 = .ok (.arraylength, 1) := by decide +kernel
theorem dX6_stateAt_10 : decode cX6_stateAt 10 = .ok (.if_icmp .ge 12, 3) := by decide +kernel
theorem dX6_stateAt_13 : decode cX6_stateAt 13 = .ok (.aload_n 0, 1) := by decide +kernel
theorem dX6_stateAt_14 : decode cX6_stateAt 14 = .ok (.getfield 11, 3) := by decide +kernel
theorem dX6_stateAt_17 : decode cX6_stateAt 17 = .ok (.iload_n 1, 1) := by decide +kernel
theorem dX6_stateAt_18 : decode cX6_stateAt 18 = .ok (.aaload, 1) := by decide +kernel
theorem dX6_stateAt_19 : decode cX6_stateAt 19 = .ok (.goto 4, 3) := by decide +kernel
theorem dX6_stateAt_22 : decode cX6_stateAt 22 = .ok (.aconst_null, 1) := by decide +kernel
theorem dX6_stateAt_23 : decode cX6_stateAt 23 = .ok (.areturn, 1) := by decide +kernel
theorem c_X6_stateAt {w : WP} (hW : gW w) {Ω : OM} (a1 : Int32) : gM w 0 yX6_stateAt cX6_stateAt 2 (some (.object "HedgeMessages$Hedge")) [.ref (wAd w (8, 11, 7, 0)), .int a1] (cA w Ω) (some (va_rf (dHist w a1))) (cA w Ω) := by
  refine gM_of "HedgeMessages$History" rfl (by decide) (kR rfl) fun X C => ?_
  unfold dHist
  show gV w X _ _ 0 [(0, .ref (wAd w (8, 11, 7, 0))), (1, .int a1)] []
  refine r_iload_n C (k := 1) rfl rfl dX6_stateAt_0 ?_
  refine r_if_lt C (tgt := 22) rfl dX6_stateAt_1 (fun h => ?_) (fun h => ?_)
  · rw [if_pos h]
    refine r_null C dX6_stateAt_22 ?_
    exact r_areturnN C (Or.inl ⟨_, rfl⟩) dX6_stateAt_23
  rw [if_neg h]
  refine r_iload_n C (k := 1) rfl rfl dX6_stateAt_4 ?_
  refine r_aload_n C (k := 0) rfl rfl dX6_stateAt_5 ?_
  refine og_8_0 C (hW.ok k8) wm1_216 dX6_stateAt_6 ?_
  refine r_alenq C (9, 11, 7, 0) (hW.ok k9) 1 rfl rfl (n := 8) rfl dX6_stateAt_9 ?_
  refine r_icmp_ge C (tgt := 22) rfl dX6_stateAt_10 (fun h2 => ?_) (fun h2 => ?_)
  · rw [if_pos h2]
    refine r_null C dX6_stateAt_22 ?_
    exact r_areturnN C (Or.inl ⟨_, rfl⟩) dX6_stateAt_23
  rw [if_neg h2]
  refine r_aload_n C (k := 0) rfl rfl dX6_stateAt_13 ?_
  refine og_8_0 C (hW.ok k8) wm1_216 dX6_stateAt_14 ?_
  refine r_iload_n C (k := 1) rfl rfl dX6_stateAt_17 ?_
  refine r_aald C (9, 11, 7, 0) (hW.ok k9) 1 rfl rfl (ixOf (by decide) h h2) dX6_stateAt_18 ?_
  refine r_goto C (tgt := 23) rfl dX6_stateAt_19 ?_
  exact r_areturn C (Or.inl ⟨_, rfl⟩) dX6_stateAt_23
