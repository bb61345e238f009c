/-! ===== obj: fields and arrays by the state ===== -/
theorem mV : ∀ {p q : Prop}, p → (p → q) → q := fun h f => f h
section OBJ
variable {w : WP} {X : CX} {cc : ByteArray} {own : String} {ret : Option FieldType} {d nL : Nat} {Q : QT} {pc : Nat} {lo : List (Nat × Value)} {st : List Value} {Ω Ω' : OM}

theorem og_0_0 (C : gC w X cc own ret d nL) {j p : Nat} (hok : wOk w (0, j, p, 0)) {g : HV} (e : Ω.1 j p = g) {idx : Nat} (hlink : Cond.fieldLink own idx "HedgeMessages$Hedge" "slots" "I" ∈ lw_tbl) (hd : decode cc pc = .ok (.getfield idx, 3)) (kk : gU w X Q (cA w Ω) (pc + 3) lo (.int (g.1 0) :: st)) : gU w X Q (cA w Ω) pc lo (.ref (wAd w (0, j, p, 0)) :: st) := by
  subst e
  exact r_get C F5 0 (0, j, p, 0) hok rfl (by decide) hlink rfl hd kk
theorem op_0_0 (C : gC w X cc own ret d nL) (hX : ∀ i, wOk w i → okX i) {j p : Nat} (hi : okX (0, j, p, 0)) (hfr : wFr w (0, j, p, 0)) {g : HV} (e : Ω.1 j p = g) {idx : Nat} (hlink : Cond.fieldLink own idx "HedgeMessages$Hedge" "slots" "I" ∈ lw_tbl) (hd : decode cc pc = .ok (.putfield idx, 3)) {x : Int32} (e2 : sP Ω j p (sS g 0 x) = Ω') (kk : gU w X Q (cA w Ω') (pc + 3) lo st) : gU w X Q (cA w Ω) pc lo (.int x :: .ref (wAd w (0, j, p, 0)) :: st) := by
  subst e
  subst e2
  exact r_put C F5 0 (0, j, p, 0) hfr rfl (by decide) hlink rfl (vp_nar_int x) rfl (Nat.le_of_ble_eq_true rfl) hd (fun q hq => putS (k := 0) (s := up (Ω.1 j p).1 0 x) (by unfold isOb; omega) hi q (hX q hq)) kk
theorem ogN_0_0 (C : gC w X cc own ret d nL) {j p : Nat} (hok : wOk w (0, j, p, 0)) {g : HV} (e : Ω.1 j p = g) {idx : Nat} {host : String} (hlink : Cond.fieldLinkNest own idx "HedgeMessages$Hedge" "slots" "I" host ∈ lw_tbl) (hd : decode cc pc = .ok (.getfield idx, 3)) (kk : gU w X Q (cA w Ω) (pc + 3) lo (.int (g.1 0) :: st)) : gU w X Q (cA w Ω) pc lo (.ref (wAd w (0, j, p, 0)) :: st) := by
  subst e
  exact r_getN C F5 0 (0, j, p, 0) hok rfl (by decide) hlink rfl hd kk
theorem opN_0_0 (C : gC w X cc own ret d nL) (hX : ∀ i, wOk w i → okX i) {j p : Nat} (hi : okX (0, j, p, 0)) (hfr : wFr w (0, j, p, 0)) {g : HV} (e : Ω.1 j p = g) {idx : Nat} {host : String} (hlink : Cond.fieldLinkNest own idx "HedgeMessages$Hedge" "slots" "I" host ∈ lw_tbl) (hd : decode cc pc = .ok (.putfield idx, 3)) {x : Int32} (e2 : sP Ω j p (sS g 0 x) = Ω') (kk : gU w X Q (cA w Ω') (pc + 3) lo st) : gU w X Q (cA w Ω) pc lo (.int x :: .ref (wAd w (0, j, p, 0)) :: st) := by
  subst e
  subst e2
  exact r_putN C F5 0 (0, j, p, 0) hfr rfl (by decide) hlink rfl (vp_nar_int x) rfl (Nat.le_of_ble_eq_true rfl) hd (fun q hq => putS (k := 0) (s := up (Ω.1 j p).1 0 x) (by unfold isOb; omega) hi q (hX q hq)) kk
theorem og_0_1 (C : gC w X cc own ret d nL) {j p : Nat} (hok : wOk w (0, j, p, 0)) {g : HV} (e : Ω.1 j p = g) {idx : Nat} (hlink : Cond.fieldLink own idx "HedgeMessages$Hedge" "workLimit" "I" ∈ lw_tbl) (hd : decode cc pc = .ok (.getfield idx, 3)) (kk : gU w X Q (cA w Ω) (pc + 3) lo (.int (g.1 1) :: st)) : gU w X Q (cA w Ω) pc lo (.ref (wAd w (0, j, p, 0)) :: st) := by
  subst e
  exact r_get C F5 1 (0, j, p, 0) hok rfl (by decide) hlink rfl hd kk
theorem op_0_1 (C : gC w X cc own ret d nL) (hX : ∀ i, wOk w i → okX i) {j p : Nat} (hi : okX (0, j, p, 0)) (hfr : wFr w (0, j, p, 0)) {g : HV} (e : Ω.1 j p = g) {idx : Nat} (hlink : Cond.fieldLink own idx "HedgeMessages$Hedge" "workLimit" "I" ∈ lw_tbl) (hd : decode cc pc = .ok (.putfield idx, 3)) {x : Int32} (e2 : sP Ω j p (sS g 1 x) = Ω') (kk : gU w X Q (cA w Ω') (pc + 3) lo st) : gU w X Q (cA w Ω) pc lo (.int x :: .ref (wAd w (0, j, p, 0)) :: st) := by
  subst e
  subst e2
  exact r_put C F5 1 (0, j, p, 0) hfr rfl (by decide) hlink rfl (vp_nar_int x) rfl (Nat.le_of_ble_eq_true rfl) hd (fun q hq => putS (k := 0) (s := up (Ω.1 j p).1 1 x) (by unfold isOb; omega) hi q (hX q hq)) kk
theorem ogN_0_1 (C : gC w X cc own ret d nL) {j p : Nat} (hok : wOk w (0, j, p, 0)) {g : HV} (e : Ω.1 j p = g) {idx : Nat} {host : String} (hlink : Cond.fieldLinkNest own idx "HedgeMessages$Hedge" "workLimit" "I" host ∈ lw_tbl) (hd : decode cc pc = .ok (.getfield idx, 3)) (kk : gU w X Q (cA w Ω) (pc + 3) lo (.int (g.1 1) :: st)) : gU w X Q (cA w Ω) pc lo (.ref (wAd w (0, j, p, 0)) :: st) := by
  subst e
  exact r_getN C F5 1 (0, j, p, 0) hok rfl (by decide) hlink rfl hd kk
theorem opN_0_1 (C : gC w X cc own ret d nL) (hX : ∀ i, wOk w i → okX i) {j p : Nat} (hi : okX (0, j, p, 0)) (hfr : wFr w (0, j, p, 0)) {g : HV} (e : Ω.1 j p = g) {idx : Nat} {host : String} (hlink : Cond.fieldLinkNest own idx "HedgeMessages$Hedge" "workLimit" "I" host ∈ lw_tbl) (hd : decode cc pc = .ok (.putfield idx, 3)) {x : Int32} (e2 : sP Ω j p (sS g 1 x) = Ω') (kk : gU w X Q (cA w Ω') (pc + 3) lo st) : gU w X Q (cA w Ω) pc lo (.int x :: .ref (wAd w (0, j, p, 0)) :: st) := by
  subst e
  subst e2
  exact r_putN C F5 1 (0, j, p, 0) hfr rfl (by decide) hlink rfl (vp_nar_int x) rfl (Nat.le_of_ble_eq_true rfl) hd (fun q hq => putS (k := 0) (s := up (Ω.1 j p).1 1 x) (by unfold isOb; omega) hi q (hX q hq)) kk
theorem og_0_2 (C : gC w X cc own ret d nL) {j p : Nat} (hok : wOk w (0, j, p, 0)) {g : HV} (e : Ω.1 j p = g) {idx : Nat} (hlink : Cond.fieldLink own idx "HedgeMessages$Hedge" "growth" "I" ∈ lw_tbl) (hd : decode cc pc = .ok (.getfield idx, 3)) (kk : gU w X Q (cA w Ω) (pc + 3) lo (.int (g.1 2) :: st)) : gU w X Q (cA w Ω) pc lo (.ref (wAd w (0, j, p, 0)) :: st) := by
  subst e
  exact r_get C F5 2 (0, j, p, 0) hok rfl (by decide) hlink rfl hd kk
theorem op_0_2 (C : gC w X cc own ret d nL) (hX : ∀ i, wOk w i → okX i) {j p : Nat} (hi : okX (0, j, p, 0)) (hfr : wFr w (0, j, p, 0)) {g : HV} (e : Ω.1 j p = g) {idx : Nat} (hlink : Cond.fieldLink own idx "HedgeMessages$Hedge" "growth" "I" ∈ lw_tbl) (hd : decode cc pc = .ok (.putfield idx, 3)) {x : Int32} (e2 : sP Ω j p (sS g 2 x) = Ω') (kk : gU w X Q (cA w Ω') (pc + 3) lo st) : gU w X Q (cA w Ω) pc lo (.int x :: .ref (wAd w (0, j, p, 0)) :: st) := by
  subst e
  subst e2
  exact r_put C F5 2 (0, j, p, 0) hfr rfl (by decide) hlink rfl (vp_nar_int x) rfl (Nat.le_of_ble_eq_true rfl) hd (fun q hq => putS (k := 0) (s := up (Ω.1 j p).1 2 x) (by unfold isOb; omega) hi q (hX q hq)) kk
theorem ogN_0_2 (C : gC w X cc own ret d nL) {j p : Nat} (hok : wOk w (0, j, p, 0)) {g : HV} (e : Ω.1 j p = g) {idx : Nat} {host : String} (hlink : Cond.fieldLinkNest own idx "HedgeMessages$Hedge" "growth" "I" host ∈ lw_tbl) (hd : decode cc pc = .ok (.getfield idx, 3)) (kk : gU w X Q (cA w Ω) (pc + 3) lo (.int (g.1 2) :: st)) : gU w X Q (cA w Ω) pc lo (.ref (wAd w (0, j, p, 0)) :: st) := by
  subst e
  exact r_getN C F5 2 (0, j, p, 0) hok rfl (by decide) hlink rfl hd kk
theorem opN_0_2 (C : gC w X cc own ret d nL) (hX : ∀ i, wOk w i → okX i) {j p : Nat} (hi : okX (0, j, p, 0)) (hfr : wFr w (0, j, p, 0)) {g : HV} (e : Ω.1 j p = g) {idx : Nat} {host : String} (hlink : Cond.fieldLinkNest own idx "HedgeMessages$Hedge" "growth" "I" host ∈ lw_tbl) (hd : decode cc pc = .ok (.putfield idx, 3)) {x : Int32} (e2 : sP Ω j p (sS g 2 x) = Ω') (kk : gU w X Q (cA w Ω') (pc + 3) lo st) : gU w X Q (cA w Ω) pc lo (.int x :: .ref (wAd w (0, j, p, 0)) :: st) := by
  subst e
  subst e2
  exact r_putN C F5 2 (0, j, p, 0) hfr rfl (by decide) hlink rfl (vp_nar_int x) rfl (Nat.le_of_ble_eq_true rfl) hd (fun q hq => putS (k := 0) (s := up (Ω.1 j p).1 2 x) (by unfold isOb; omega) hi q (hX q hq)) kk
theorem og_0_3 (C : gC w X cc own ret d nL) {j p : Nat} (hok : wOk w (0, j, p, 0)) {g : HV} (e : Ω.1 j p = g) {idx : Nat} (hlink : Cond.fieldLink own idx "HedgeMessages$Hedge" "legalLength" "I" ∈ lw_tbl) (hd : decode cc pc = .ok (.getfield idx, 3)) (kk : gU w X Q (cA w Ω) (pc + 3) lo (.int (g.1 3) :: st)) : gU w X Q (cA w Ω) pc lo (.ref (wAd w (0, j, p, 0)) :: st) := by
  subst e
  exact r_get C F5 3 (0, j, p, 0) hok rfl (by decide) hlink rfl hd kk
theorem op_0_3 (C : gC w X cc own ret d nL) (hX : ∀ i, wOk w i → okX i) {j p : Nat} (hi : okX (0, j, p, 0)) (hfr : wFr w (0, j, p, 0)) {g : HV} (e : Ω.1 j p = g) {idx : Nat} (hlink : Cond.fieldLink own idx "HedgeMessages$Hedge" "legalLength" "I" ∈ lw_tbl) (hd : decode cc pc = .ok (.putfield idx, 3)) {x : Int32} (e2 : sP Ω j p (sS g 3 x) = Ω') (kk : gU w X Q (cA w Ω') (pc + 3) lo st) : gU w X Q (cA w Ω) pc lo (.int x :: .ref (wAd w (0, j, p, 0)) :: st) := by
  subst e
  subst e2
  exact r_put C F5 3 (0, j, p, 0) hfr rfl (by decide) hlink rfl (vp_nar_int x) rfl (Nat.le_of_ble_eq_true rfl) hd (fun q hq => putS (k := 0) (s := up (Ω.1 j p).1 3 x) (by unfold isOb; omega) hi q (hX q hq)) kk
theorem ogN_0_3 (C : gC w X cc own ret d nL) {j p : Nat} (hok : wOk w (0, j, p, 0)) {g : HV} (e : Ω.1 j p = g) {idx : Nat} {host : String} (hlink : Cond.fieldLinkNest own idx "HedgeMessages$Hedge" "legalLength" "I" host ∈ lw_tbl) (hd : decode cc pc = .ok (.getfield idx, 3)) (kk : gU w X Q (cA w Ω) (pc + 3) lo (.int (g.1 3) :: st)) : gU w X Q (cA w Ω) pc lo (.ref (wAd w (0, j, p, 0)) :: st) := by
  subst e
  exact r_getN C F5 3 (0, j, p, 0) hok rfl (by decide) hlink rfl hd kk
theorem opN_0_3 (C : gC w X cc own ret d nL) (hX : ∀ i, wOk w i → okX i) {j p : Nat} (hi : okX (0, j, p, 0)) (hfr : wFr w (0, j, p, 0)) {g : HV} (e : Ω.1 j p = g) {idx : Nat} {host : String} (hlink : Cond.fieldLinkNest own idx "HedgeMessages$Hedge" "legalLength" "I" host ∈ lw_tbl) (hd : decode cc pc = .ok (.putfield idx, 3)) {x : Int32} (e2 : sP Ω j p (sS g 3 x) = Ω') (kk : gU w X Q (cA w Ω') (pc + 3) lo st) : gU w X Q (cA w Ω) pc lo (.int x :: .ref (wAd w (0, j, p, 0)) :: st) := by
  subst e
  subst e2
  exact r_putN C F5 3 (0, j, p, 0) hfr rfl (by decide) hlink rfl (vp_nar_int x) rfl (Nat.le_of_ble_eq_true rfl) hd (fun q hq => putS (k := 0) (s := up (Ω.1 j p).1 3 x) (by unfold isOb; omega) hi q (hX q hq)) kk
theorem og_0_4 (C : gC w X cc own ret d nL) {j p : Nat} (hok : wOk w (0, j, p, 0)) {g : HV} (e : Ω.1 j p = g) {idx : Nat} (hlink : Cond.fieldLink own idx "HedgeMessages$Hedge" "interval" "I" ∈ lw_tbl) (hd : decode cc pc = .ok (.getfield idx, 3)) (kk : gU w X Q (cA w Ω) (pc + 3) lo (.int (g.1 4) :: st)) : gU w X Q (cA w Ω) pc lo (.ref (wAd w (0, j, p, 0)) :: st) := by
  subst e
  exact r_get C F5 4 (0, j, p, 0) hok rfl (by decide) hlink rfl hd kk
theorem op_0_4 (C : gC w X cc own ret d nL) (hX : ∀ i, wOk w i → okX i) {j p : Nat} (hi : okX (0, j, p, 0)) (hfr : wFr w (0, j, p, 0)) {g : HV} (e : Ω.1 j p = g) {idx : Nat} (hlink : Cond.fieldLink own idx "HedgeMessages$Hedge" "interval" "I" ∈ lw_tbl) (hd : decode cc pc = .ok (.putfield idx, 3)) {x : Int32} (e2 : sP Ω j p (sS g 4 x) = Ω') (kk : gU w X Q (cA w Ω') (pc + 3) lo st) : gU w X Q (cA w Ω) pc lo (.int x :: .ref (wAd w (0, j, p, 0)) :: st) := by
  subst e
  subst e2
  exact r_put C F5 4 (0, j, p, 0) hfr rfl (by decide) hlink rfl (vp_nar_int x) rfl (Nat.le_of_ble_eq_true rfl) hd (fun q hq => putS (k := 0) (s := up (Ω.1 j p).1 4 x) (by unfold isOb; omega) hi q (hX q hq)) kk
theorem ogN_0_4 (C : gC w X cc own ret d nL) {j p : Nat} (hok : wOk w (0, j, p, 0)) {g : HV} (e : Ω.1 j p = g) {idx : Nat} {host : String} (hlink : Cond.fieldLinkNest own idx "HedgeMessages$Hedge" "interval" "I" host ∈ lw_tbl) (hd : decode cc pc = .ok (.getfield idx, 3)) (kk : gU w X Q (cA w Ω) (pc + 3) lo (.int (g.1 4) :: st)) : gU w X Q (cA w Ω) pc lo (.ref (wAd w (0, j, p, 0)) :: st) := by
  subst e
  exact r_getN C F5 4 (0, j, p, 0) hok rfl (by decide) hlink rfl hd kk
theorem opN_0_4 (C : gC w X cc own ret d nL) (hX : ∀ i, wOk w i → okX i) {j p : Nat} (hi : okX (0, j, p, 0)) (hfr : wFr w (0, j, p, 0)) {g : HV} (e : Ω.1 j p = g) {idx : Nat} {host : String} (hlink : Cond.fieldLinkNest own idx "HedgeMessages$Hedge" "interval" "I" host ∈ lw_tbl) (hd : decode cc pc = .ok (.putfield idx, 3)) {x : Int32} (e2 : sP Ω j p (sS g 4 x) = Ω') (kk : gU w X Q (cA w Ω') (pc + 3) lo st) : gU w X Q (cA w Ω) pc lo (.int x :: .ref (wAd w (0, j, p, 0)) :: st) := by
  subst e
  subst e2
  exact r_putN C F5 4 (0, j, p, 0) hfr rfl (by decide) hlink rfl (vp_nar_int x) rfl (Nat.le_of_ble_eq_true rfl) hd (fun q hq => putS (k := 0) (s := up (Ω.1 j p).1 4 x) (by unfold isOb; omega) hi q (hX q hq)) kk
theorem og_0_5 (C : gC w X cc own ret d nL) {j p : Nat} (hok : wOk w (0, j, p, 0)) {g : HV} (e : Ω.1 j p = g) {idx : Nat} (hlink : Cond.fieldLink own idx "HedgeMessages$Hedge" "yardSize" "I" ∈ lw_tbl) (hd : decode cc pc = .ok (.getfield idx, 3)) (kk : gU w X Q (cA w Ω) (pc + 3) lo (.int (g.1 5) :: st)) : gU w X Q (cA w Ω) pc lo (.ref (wAd w (0, j, p, 0)) :: st) := by
  subst e
  exact r_get C F5 5 (0, j, p, 0) hok rfl (by decide) hlink rfl hd kk
theorem op_0_5 (C : gC w X cc own ret d nL) (hX : ∀ i, wOk w i → okX i) {j p : Nat} (hi : okX (0, j, p, 0)) (hfr : wFr w (0, j, p, 0)) {g : HV} (e : Ω.1 j p = g) {idx : Nat} (hlink : Cond.fieldLink own idx "HedgeMessages$Hedge" "yardSize" "I" ∈ lw_tbl) (hd : decode cc pc = .ok (.putfield idx, 3)) {x : Int32} (e2 : sP Ω j p (sS g 5 x) = Ω') (kk : gU w X Q (cA w Ω') (pc + 3) lo st) : gU w X Q (cA w Ω) pc lo (.int x :: .ref (wAd w (0, j, p, 0)) :: st) := by
  subst e
  subst e2
  exact r_put C F5 5 (0, j, p, 0) hfr rfl (by decide) hlink rfl (vp_nar_int x) rfl (Nat.le_of_ble_eq_true rfl) hd (fun q hq => putS (k := 0) (s := up (Ω.1 j p).1 5 x) (by unfold isOb; omega) hi q (hX q hq)) kk
theorem ogN_0_5 (C : gC w X cc own ret d nL) {j p : Nat} (hok : wOk w (0, j, p, 0)) {g : HV} (e : Ω.1 j p = g) {idx : Nat} {host : String} (hlink : Cond.fieldLinkNest own idx "HedgeMessages$Hedge" "yardSize" "I" host ∈ lw_tbl) (hd : decode cc pc = .ok (.getfield idx, 3)) (kk : gU w X Q (cA w Ω) (pc + 3) lo (.int (g.1 5) :: st)) : gU w X Q (cA w Ω) pc lo (.ref (wAd w (0, j, p, 0)) :: st) := by
  subst e
  exact r_getN C F5 5 (0, j, p, 0) hok rfl (by decide) hlink rfl hd kk
theorem opN_0_5 (C : gC w X cc own ret d nL) (hX : ∀ i, wOk w i → okX i) {j p : Nat} (hi : okX (0, j, p, 0)) (hfr : wFr w (0, j, p, 0)) {g : HV} (e : Ω.1 j p = g) {idx : Nat} {host : String} (hlink : Cond.fieldLinkNest own idx "HedgeMessages$Hedge" "yardSize" "I" host ∈ lw_tbl) (hd : decode cc pc = .ok (.putfield idx, 3)) {x : Int32} (e2 : sP Ω j p (sS g 5 x) = Ω') (kk : gU w X Q (cA w Ω') (pc + 3) lo st) : gU w X Q (cA w Ω) pc lo (.int x :: .ref (wAd w (0, j, p, 0)) :: st) := by
  subst e
  subst e2
  exact r_putN C F5 5 (0, j, p, 0) hfr rfl (by decide) hlink rfl (vp_nar_int x) rfl (Nat.le_of_ble_eq_true rfl) hd (fun q hq => putS (k := 0) (s := up (Ω.1 j p).1 5 x) (by unfold isOb; omega) hi q (hX q hq)) kk
theorem og_0_6 (C : gC w X cc own ret d nL) {j p : Nat} (hok : wOk w (0, j, p, 0)) {g : HV} (e : Ω.1 j p = g) {idx : Nat} (hlink : Cond.fieldLink own idx "HedgeMessages$Hedge" "day" "I" ∈ lw_tbl) (hd : decode cc pc = .ok (.getfield idx, 3)) (kk : gU w X Q (cA w Ω) (pc + 3) lo (.int (g.1 6) :: st)) : gU w X Q (cA w Ω) pc lo (.ref (wAd w (0, j, p, 0)) :: st) := by
  subst e
  exact r_get C F5 6 (0, j, p, 0) hok rfl (by decide) hlink rfl hd kk
theorem op_0_6 (C : gC w X cc own ret d nL) (hX : ∀ i, wOk w i → okX i) {j p : Nat} (hi : okX (0, j, p, 0)) (hfr : wFr w (0, j, p, 0)) {g : HV} (e : Ω.1 j p = g) {idx : Nat} (hlink : Cond.fieldLink own idx "HedgeMessages$Hedge" "day" "I" ∈ lw_tbl) (hd : decode cc pc = .ok (.putfield idx, 3)) {x : Int32} (e2 : sP Ω j p (sS g 6 x) = Ω') (kk : gU w X Q (cA w Ω') (pc + 3) lo st) : gU w X Q (cA w Ω) pc lo (.int x :: .ref (wAd w (0, j, p, 0)) :: st) := by
  subst e
  subst e2
  exact r_put C F5 6 (0, j, p, 0) hfr rfl (by decide) hlink rfl (vp_nar_int x) rfl (Nat.le_of_ble_eq_true rfl) hd (fun q hq => putS (k := 0) (s := up (Ω.1 j p).1 6 x) (by unfold isOb; omega) hi q (hX q hq)) kk
theorem ogN_0_6 (C : gC w X cc own ret d nL) {j p : Nat} (hok : wOk w (0, j, p, 0)) {g : HV} (e : Ω.1 j p = g) {idx : Nat} {host : String} (hlink : Cond.fieldLinkNest own idx "HedgeMessages$Hedge" "day" "I" host ∈ lw_tbl) (hd : decode cc pc = .ok (.getfield idx, 3)) (kk : gU w X Q (cA w Ω) (pc + 3) lo (.int (g.1 6) :: st)) : gU w X Q (cA w Ω) pc lo (.ref (wAd w (0, j, p, 0)) :: st) := by
  subst e
  exact r_getN C F5 6 (0, j, p, 0) hok rfl (by decide) hlink rfl hd kk
theorem opN_0_6 (C : gC w X cc own ret d nL) (hX : ∀ i, wOk w i → okX i) {j p : Nat} (hi : okX (0, j, p, 0)) (hfr : wFr w (0, j, p, 0)) {g : HV} (e : Ω.1 j p = g) {idx : Nat} {host : String} (hlink : Cond.fieldLinkNest own idx "HedgeMessages$Hedge" "day" "I" host ∈ lw_tbl) (hd : decode cc pc = .ok (.putfield idx, 3)) {x : Int32} (e2 : sP Ω j p (sS g 6 x) = Ω') (kk : gU w X Q (cA w Ω') (pc + 3) lo st) : gU w X Q (cA w Ω) pc lo (.int x :: .ref (wAd w (0, j, p, 0)) :: st) := by
  subst e
  subst e2
  exact r_putN C F5 6 (0, j, p, 0) hfr rfl (by decide) hlink rfl (vp_nar_int x) rfl (Nat.le_of_ble_eq_true rfl) hd (fun q hq => putS (k := 0) (s := up (Ω.1 j p).1 6 x) (by unfold isOb; omega) hi q (hX q hq)) kk
theorem og_0_7 (C : gC w X cc own ret d nL) {j p : Nat} (hok : wOk w (0, j, p, 0)) {g : HV} (e : Ω.1 j p = g) {idx : Nat} (hlink : Cond.fieldLink own idx "HedgeMessages$Hedge" "actions" "I" ∈ lw_tbl) (hd : decode cc pc = .ok (.getfield idx, 3)) (kk : gU w X Q (cA w Ω) (pc + 3) lo (.int (g.1 7) :: st)) : gU w X Q (cA w Ω) pc lo (.ref (wAd w (0, j, p, 0)) :: st) := by
  subst e
  exact r_get C F5 7 (0, j, p, 0) hok rfl (by decide) hlink rfl hd kk
theorem op_0_7 (C : gC w X cc own ret d nL) (hX : ∀ i, wOk w i → okX i) {j p : Nat} (hi : okX (0, j, p, 0)) (hfr : wFr w (0, j, p, 0)) {g : HV} (e : Ω.1 j p = g) {idx : Nat} (hlink : Cond.fieldLink own idx "HedgeMessages$Hedge" "actions" "I" ∈ lw_tbl) (hd : decode cc pc = .ok (.putfield idx, 3)) {x : Int32} (e2 : sP Ω j p (sS g 7 x) = Ω') (kk : gU w X Q (cA w Ω') (pc + 3) lo st) : gU w X Q (cA w Ω) pc lo (.int x :: .ref (wAd w (0, j, p, 0)) :: st) := by
  subst e
  subst e2
  exact r_put C F5 7 (0, j, p, 0) hfr rfl (by decide) hlink rfl (vp_nar_int x) rfl (Nat.le_of_ble_eq_true rfl) hd (fun q hq => putS (k := 0) (s := up (Ω.1 j p).1 7 x) (by unfold isOb; omega) hi q (hX q hq)) kk
theorem ogN_0_7 (C : gC w X cc own ret d nL) {j p : Nat} (hok : wOk w (0, j, p, 0)) {g : HV} (e : Ω.1 j p = g) {idx : Nat} {host : String} (hlink : Cond.fieldLinkNest own idx "HedgeMessages$Hedge" "actions" "I" host ∈ lw_tbl) (hd : decode cc pc = .ok (.getfield idx, 3)) (kk : gU w X Q (cA w Ω) (pc + 3) lo (.int (g.1 7) :: st)) : gU w X Q (cA w Ω) pc lo (.ref (wAd w (0, j, p, 0)) :: st) := by
  subst e
  exact r_getN C F5 7 (0, j, p, 0) hok rfl (by decide) hlink rfl hd kk
theorem opN_0_7 (C : gC w X cc own ret d nL) (hX : ∀ i, wOk w i → okX i) {j p : Nat} (hi : okX (0, j, p, 0)) (hfr : wFr w (0, j, p, 0)) {g : HV} (e : Ω.1 j p = g) {idx : Nat} {host : String} (hlink : Cond.fieldLinkNest own idx "HedgeMessages$Hedge" "actions" "I" host ∈ lw_tbl) (hd : decode cc pc = .ok (.putfield idx, 3)) {x : Int32} (e2 : sP Ω j p (sS g 7 x) = Ω') (kk : gU w X Q (cA w Ω') (pc + 3) lo st) : gU w X Q (cA w Ω) pc lo (.int x :: .ref (wAd w (0, j, p, 0)) :: st) := by
  subst e
  subst e2
  exact r_putN C F5 7 (0, j, p, 0) hfr rfl (by decide) hlink rfl (vp_nar_int x) rfl (Nat.le_of_ble_eq_true rfl) hd (fun q hq => putS (k := 0) (s := up (Ω.1 j p).1 7 x) (by unfold isOb; omega) hi q (hX q hq)) kk
theorem og_0_8 (C : gC w X cc own ret d nL) {j p : Nat} (hok : wOk w (0, j, p, 0)) {idx : Nat} (hlink : Cond.fieldLink own idx "HedgeMessages$Hedge" "letters" "LHedgeMessages$Row;" ∈ lw_tbl) (hd : decode cc pc = .ok (.getfield idx, 3)) (kk : gU w X Q (cA w Ω) (pc + 3) lo (.ref (wAd w (3, j, 0, 0)) :: st)) : gU w X Q (cA w Ω) pc lo (.ref (wAd w (0, j, p, 0)) :: st) :=
  r_get C F5 8 (0, j, p, 0) hok rfl (by decide) hlink rfl hd kk
theorem ogN_0_8 (C : gC w X cc own ret d nL) {j p : Nat} (hok : wOk w (0, j, p, 0)) {idx : Nat} {host : String} (hlink : Cond.fieldLinkNest own idx "HedgeMessages$Hedge" "letters" "LHedgeMessages$Row;" host ∈ lw_tbl) (hd : decode cc pc = .ok (.getfield idx, 3)) (kk : gU w X Q (cA w Ω) (pc + 3) lo (.ref (wAd w (3, j, 0, 0)) :: st)) : gU w X Q (cA w Ω) pc lo (.ref (wAd w (0, j, p, 0)) :: st) :=
  r_getN C F5 8 (0, j, p, 0) hok rfl (by decide) hlink rfl hd kk
theorem og_0_9 (C : gC w X cc own ret d nL) {j p : Nat} (hok : wOk w (0, j, p, 0)) {idx : Nat} (hlink : Cond.fieldLink own idx "HedgeMessages$Hedge" "owners" "LHedgeMessages$Row;" ∈ lw_tbl) (hd : decode cc pc = .ok (.getfield idx, 3)) (kk : gU w X Q (cA w Ω) (pc + 3) lo (.ref (wAd w (3, j, 0, 1)) :: st)) : gU w X Q (cA w Ω) pc lo (.ref (wAd w (0, j, p, 0)) :: st) :=
  r_get C F5 9 (0, j, p, 0) hok rfl (by decide) hlink rfl hd kk
theorem ogN_0_9 (C : gC w X cc own ret d nL) {j p : Nat} (hok : wOk w (0, j, p, 0)) {idx : Nat} {host : String} (hlink : Cond.fieldLinkNest own idx "HedgeMessages$Hedge" "owners" "LHedgeMessages$Row;" host ∈ lw_tbl) (hd : decode cc pc = .ok (.getfield idx, 3)) (kk : gU w X Q (cA w Ω) (pc + 3) lo (.ref (wAd w (3, j, 0, 1)) :: st)) : gU w X Q (cA w Ω) pc lo (.ref (wAd w (0, j, p, 0)) :: st) :=
  r_getN C F5 9 (0, j, p, 0) hok rfl (by decide) hlink rfl hd kk
theorem og_0_10 (C : gC w X cc own ret d nL) {j p : Nat} (hok : wOk w (0, j, p, 0)) {idx : Nat} (hlink : Cond.fieldLink own idx "HedgeMessages$Hedge" "lengths" "LHedgeMessages$Row;" ∈ lw_tbl) (hd : decode cc pc = .ok (.getfield idx, 3)) (kk : gU w X Q (cA w Ω) (pc + 3) lo (.ref (wAd w (3, j, 0, 2)) :: st)) : gU w X Q (cA w Ω) pc lo (.ref (wAd w (0, j, p, 0)) :: st) :=
  r_get C F5 10 (0, j, p, 0) hok rfl (by decide) hlink rfl hd kk
theorem ogN_0_10 (C : gC w X cc own ret d nL) {j p : Nat} (hok : wOk w (0, j, p, 0)) {idx : Nat} {host : String} (hlink : Cond.fieldLinkNest own idx "HedgeMessages$Hedge" "lengths" "LHedgeMessages$Row;" host ∈ lw_tbl) (hd : decode cc pc = .ok (.getfield idx, 3)) (kk : gU w X Q (cA w Ω) (pc + 3) lo (.ref (wAd w (3, j, 0, 2)) :: st)) : gU w X Q (cA w Ω) pc lo (.ref (wAd w (0, j, p, 0)) :: st) :=
  r_getN C F5 10 (0, j, p, 0) hok rfl (by decide) hlink rfl hd kk
theorem og_0_11 (C : gC w X cc own ret d nL) {j p : Nat} (hok : wOk w (0, j, p, 0)) {idx : Nat} (hlink : Cond.fieldLink own idx "HedgeMessages$Hedge" "nests" "LHedgeMessages$Row;" ∈ lw_tbl) (hd : decode cc pc = .ok (.getfield idx, 3)) (kk : gU w X Q (cA w Ω) (pc + 3) lo (.ref (wAd w (3, j, 0, 3)) :: st)) : gU w X Q (cA w Ω) pc lo (.ref (wAd w (0, j, p, 0)) :: st) :=
  r_get C F5 11 (0, j, p, 0) hok rfl (by decide) hlink rfl hd kk
theorem ogN_0_11 (C : gC w X cc own ret d nL) {j p : Nat} (hok : wOk w (0, j, p, 0)) {idx : Nat} {host : String} (hlink : Cond.fieldLinkNest own idx "HedgeMessages$Hedge" "nests" "LHedgeMessages$Row;" host ∈ lw_tbl) (hd : decode cc pc = .ok (.getfield idx, 3)) (kk : gU w X Q (cA w Ω) (pc + 3) lo (.ref (wAd w (3, j, 0, 3)) :: st)) : gU w X Q (cA w Ω) pc lo (.ref (wAd w (0, j, p, 0)) :: st) :=
  r_getN C F5 11 (0, j, p, 0) hok rfl (by decide) hlink rfl hd kk
theorem og_0_12 (C : gC w X cc own ret d nL) {j p : Nat} (hok : wOk w (0, j, p, 0)) {idx : Nat} (hlink : Cond.fieldLink own idx "HedgeMessages$Hedge" "booked" "LHedgeMessages$Row;" ∈ lw_tbl) (hd : decode cc pc = .ok (.getfield idx, 3)) (kk : gU w X Q (cA w Ω) (pc + 3) lo (.ref (wAd w (3, j, 0, 4)) :: st)) : gU w X Q (cA w Ω) pc lo (.ref (wAd w (0, j, p, 0)) :: st) :=
  r_get C F5 12 (0, j, p, 0) hok rfl (by decide) hlink rfl hd kk
theorem ogN_0_12 (C : gC w X cc own ret d nL) {j p : Nat} (hok : wOk w (0, j, p, 0)) {idx : Nat} {host : String} (hlink : Cond.fieldLinkNest own idx "HedgeMessages$Hedge" "booked" "LHedgeMessages$Row;" host ∈ lw_tbl) (hd : decode cc pc = .ok (.getfield idx, 3)) (kk : gU w X Q (cA w Ω) (pc + 3) lo (.ref (wAd w (3, j, 0, 4)) :: st)) : gU w X Q (cA w Ω) pc lo (.ref (wAd w (0, j, p, 0)) :: st) :=
  r_getN C F5 12 (0, j, p, 0) hok rfl (by decide) hlink rfl hd kk
theorem og_0_13 (C : gC w X cc own ret d nL) {j p : Nat} (hok : wOk w (0, j, p, 0)) {idx : Nat} (hlink : Cond.fieldLink own idx "HedgeMessages$Hedge" "first" "LHedgeMessages$Gardener;" ∈ lw_tbl) (hd : decode cc pc = .ok (.getfield idx, 3)) (kk : gU w X Q (cA w Ω) (pc + 3) lo (.ref (wAd w (1, j, 1, 0)) :: st)) : gU w X Q (cA w Ω) pc lo (.ref (wAd w (0, j, p, 0)) :: st) :=
  r_get C F5 13 (0, j, p, 0) hok rfl (by decide) hlink rfl hd kk
theorem ogN_0_13 (C : gC w X cc own ret d nL) {j p : Nat} (hok : wOk w (0, j, p, 0)) {idx : Nat} {host : String} (hlink : Cond.fieldLinkNest own idx "HedgeMessages$Hedge" "first" "LHedgeMessages$Gardener;" host ∈ lw_tbl) (hd : decode cc pc = .ok (.getfield idx, 3)) (kk : gU w X Q (cA w Ω) (pc + 3) lo (.ref (wAd w (1, j, 1, 0)) :: st)) : gU w X Q (cA w Ω) pc lo (.ref (wAd w (0, j, p, 0)) :: st) :=
  r_getN C F5 13 (0, j, p, 0) hok rfl (by decide) hlink rfl hd kk
theorem og_0_14 (C : gC w X cc own ret d nL) {j p : Nat} (hok : wOk w (0, j, p, 0)) {idx : Nat} (hlink : Cond.fieldLink own idx "HedgeMessages$Hedge" "second" "LHedgeMessages$Gardener;" ∈ lw_tbl) (hd : decode cc pc = .ok (.getfield idx, 3)) (kk : gU w X Q (cA w Ω) (pc + 3) lo (.ref (wAd w (1, j, 2, 0)) :: st)) : gU w X Q (cA w Ω) pc lo (.ref (wAd w (0, j, p, 0)) :: st) :=
  r_get C F5 14 (0, j, p, 0) hok rfl (by decide) hlink rfl hd kk
theorem ogN_0_14 (C : gC w X cc own ret d nL) {j p : Nat} (hok : wOk w (0, j, p, 0)) {idx : Nat} {host : String} (hlink : Cond.fieldLinkNest own idx "HedgeMessages$Hedge" "second" "LHedgeMessages$Gardener;" host ∈ lw_tbl) (hd : decode cc pc = .ok (.getfield idx, 3)) (kk : gU w X Q (cA w Ω) (pc + 3) lo (.ref (wAd w (1, j, 2, 0)) :: st)) : gU w X Q (cA w Ω) pc lo (.ref (wAd w (0, j, p, 0)) :: st) :=
  r_getN C F5 14 (0, j, p, 0) hok rfl (by decide) hlink rfl hd kk
theorem og_0_15 (C : gC w X cc own ret d nL) {j p : Nat} (hok : wOk w (0, j, p, 0)) {idx : Nat} (hlink : Cond.fieldLink own idx "HedgeMessages$Hedge" "posted" "LHedgeMessages$PostedMessages;" ∈ lw_tbl) (hd : decode cc pc = .ok (.getfield idx, 3)) (kk : gU w X Q (cA w Ω) (pc + 3) lo (.ref (wAd w (2, j, 3, 0)) :: st)) : gU w X Q (cA w Ω) pc lo (.ref (wAd w (0, j, p, 0)) :: st) :=
  r_get C F5 15 (0, j, p, 0) hok rfl (by decide) hlink rfl hd kk
theorem ogN_0_15 (C : gC w X cc own ret d nL) {j p : Nat} (hok : wOk w (0, j, p, 0)) {idx : Nat} {host : String} (hlink : Cond.fieldLinkNest own idx "HedgeMessages$Hedge" "posted" "LHedgeMessages$PostedMessages;" host ∈ lw_tbl) (hd : decode cc pc = .ok (.getfield idx, 3)) (kk : gU w X Q (cA w Ω) (pc + 3) lo (.ref (wAd w (2, j, 3, 0)) :: st)) : gU w X Q (cA w Ω) pc lo (.ref (wAd w (0, j, p, 0)) :: st) :=
  r_getN C F5 15 (0, j, p, 0) hok rfl (by decide) hlink rfl hd kk
theorem og_0_16 (C : gC w X cc own ret d nL) {j p : Nat} (hok : wOk w (0, j, p, 0)) {g : HV} (e : Ω.1 j p = g) {idx : Nat} (hlink : Cond.fieldLink own idx "HedgeMessages$Hedge" "planted" "I" ∈ lw_tbl) (hd : decode cc pc = .ok (.getfield idx, 3)) (kk : gU w X Q (cA w Ω) (pc + 3) lo (.int (g.1 16) :: st)) : gU w X Q (cA w Ω) pc lo (.ref (wAd w (0, j, p, 0)) :: st) := by
  subst e
  exact r_get C F5 16 (0, j, p, 0) hok rfl (by decide) hlink rfl hd kk
theorem op_0_16 (C : gC w X cc own ret d nL) (hX : ∀ i, wOk w i → okX i) {j p : Nat} (hi : okX (0, j, p, 0)) (hfr : wFr w (0, j, p, 0)) {g : HV} (e : Ω.1 j p = g) {idx : Nat} (hlink : Cond.fieldLink own idx "HedgeMessages$Hedge" "planted" "I" ∈ lw_tbl) (hd : decode cc pc = .ok (.putfield idx, 3)) {x : Int32} (e2 : sP Ω j p (sS g 16 x) = Ω') (kk : gU w X Q (cA w Ω') (pc + 3) lo st) : gU w X Q (cA w Ω) pc lo (.int x :: .ref (wAd w (0, j, p, 0)) :: st) := by
  subst e
  subst e2
  exact r_put C F5 16 (0, j, p, 0) hfr rfl (by decide) hlink rfl (vp_nar_int x) rfl (Nat.le_of_ble_eq_true rfl) hd (fun q hq => putS (k := 0) (s := up (Ω.1 j p).1 16 x) (by unfold isOb; omega) hi q (hX q hq)) kk
theorem ogN_0_16 (C : gC w X cc own ret d nL) {j p : Nat} (hok : wOk w (0, j, p, 0)) {g : HV} (e : Ω.1 j p = g) {idx : Nat} {host : String} (hlink : Cond.fieldLinkNest own idx "HedgeMessages$Hedge" "planted" "I" host ∈ lw_tbl) (hd : decode cc pc = .ok (.getfield idx, 3)) (kk : gU w X Q (cA w Ω) (pc + 3) lo (.int (g.1 16) :: st)) : gU w X Q (cA w Ω) pc lo (.ref (wAd w (0, j, p, 0)) :: st) := by
  subst e
  exact r_getN C F5 16 (0, j, p, 0) hok rfl (by decide) hlink rfl hd kk
theorem opN_0_16 (C : gC w X cc own ret d nL) (hX : ∀ i, wOk w i → okX i) {j p : Nat} (hi : okX (0, j, p, 0)) (hfr : wFr w (0, j, p, 0)) {g : HV} (e : Ω.1 j p = g) {idx : Nat} {host : String} (hlink : Cond.fieldLinkNest own idx "HedgeMessages$Hedge" "planted" "I" host ∈ lw_tbl) (hd : decode cc pc = .ok (.putfield idx, 3)) {x : Int32} (e2 : sP Ω j p (sS g 16 x) = Ω') (kk : gU w X Q (cA w Ω') (pc + 3) lo st) : gU w X Q (cA w Ω) pc lo (.int x :: .ref (wAd w (0, j, p, 0)) :: st) := by
  subst e
  subst e2
  exact r_putN C F5 16 (0, j, p, 0) hfr rfl (by decide) hlink rfl (vp_nar_int x) rfl (Nat.le_of_ble_eq_true rfl) hd (fun q hq => putS (k := 0) (s := up (Ω.1 j p).1 16 x) (by unfold isOb; omega) hi q (hX q hq)) kk
theorem og_0_17 (C : gC w X cc own ret d nL) {j p : Nat} (hok : wOk w (0, j, p, 0)) {g : HV} (e : Ω.1 j p = g) {idx : Nat} (hlink : Cond.fieldLink own idx "HedgeMessages$Hedge" "pruned" "I" ∈ lw_tbl) (hd : decode cc pc = .ok (.getfield idx, 3)) (kk : gU w X Q (cA w Ω) (pc + 3) lo (.int (g.1 17) :: st)) : gU w X Q (cA w Ω) pc lo (.ref (wAd w (0, j, p, 0)) :: st) := by
  subst e
  exact r_get C F5 17 (0, j, p, 0) hok rfl (by decide) hlink rfl hd kk
theorem op_0_17 (C : gC w X cc own ret d nL) (hX : ∀ i, wOk w i → okX i) {j p : Nat} (hi : okX (0, j, p, 0)) (hfr : wFr w (0, j, p, 0)) {g : HV} (e : Ω.1 j p = g) {idx : Nat} (hlink : Cond.fieldLink own idx "HedgeMessages$Hedge" "pruned" "I" ∈ lw_tbl) (hd : decode cc pc = .ok (.putfield idx, 3)) {x : Int32} (e2 : sP Ω j p (sS g 17 x) = Ω') (kk : gU w X Q (cA w Ω') (pc + 3) lo st) : gU w X Q (cA w Ω) pc lo (.int x :: .ref (wAd w (0, j, p, 0)) :: st) := by
  subst e
  subst e2
  exact r_put C F5 17 (0, j, p, 0) hfr rfl (by decide) hlink rfl (vp_nar_int x) rfl (Nat.le_of_ble_eq_true rfl) hd (fun q hq => putS (k := 0) (s := up (Ω.1 j p).1 17 x) (by unfold isOb; omega) hi q (hX q hq)) kk
theorem ogN_0_17 (C : gC w X cc own ret d nL) {j p : Nat} (hok : wOk w (0, j, p, 0)) {g : HV} (e : Ω.1 j p = g) {idx : Nat} {host : String} (hlink : Cond.fieldLinkNest own idx "HedgeMessages$Hedge" "pruned" "I" host ∈ lw_tbl) (hd : decode cc pc = .ok (.getfield idx, 3)) (kk : gU w X Q (cA w Ω) (pc + 3) lo (.int (g.1 17) :: st)) : gU w X Q (cA w Ω) pc lo (.ref (wAd w (0, j, p, 0)) :: st) := by
  subst e
  exact r_getN C F5 17 (0, j, p, 0) hok rfl (by decide) hlink rfl hd kk
theorem opN_0_17 (C : gC w X cc own ret d nL) (hX : ∀ i, wOk w i → okX i) {j p : Nat} (hi : okX (0, j, p, 0)) (hfr : wFr w (0, j, p, 0)) {g : HV} (e : Ω.1 j p = g) {idx : Nat} {host : String} (hlink : Cond.fieldLinkNest own idx "HedgeMessages$Hedge" "pruned" "I" host ∈ lw_tbl) (hd : decode cc pc = .ok (.putfield idx, 3)) {x : Int32} (e2 : sP Ω j p (sS g 17 x) = Ω') (kk : gU w X Q (cA w Ω') (pc + 3) lo st) : gU w X Q (cA w Ω) pc lo (.int x :: .ref (wAd w (0, j, p, 0)) :: st) := by
  subst e
  subst e2
  exact r_putN C F5 17 (0, j, p, 0) hfr rfl (by decide) hlink rfl (vp_nar_int x) rfl (Nat.le_of_ble_eq_true rfl) hd (fun q hq => putS (k := 0) (s := up (Ω.1 j p).1 17 x) (by unfold isOb; omega) hi q (hX q hq)) kk
theorem og_0_18 (C : gC w X cc own ret d nL) {j p : Nat} (hok : wOk w (0, j, p, 0)) {g : HV} (e : Ω.1 j p = g) {idx : Nat} (hlink : Cond.fieldLink own idx "HedgeMessages$Hedge" "removed" "I" ∈ lw_tbl) (hd : decode cc pc = .ok (.getfield idx, 3)) (kk : gU w X Q (cA w Ω) (pc + 3) lo (.int (g.1 18) :: st)) : gU w X Q (cA w Ω) pc lo (.ref (wAd w (0, j, p, 0)) :: st) := by
  subst e
  exact r_get C F5 18 (0, j, p, 0) hok rfl (by decide) hlink rfl hd kk
theorem op_0_18 (C : gC w X cc own ret d nL) (hX : ∀ i, wOk w i → okX i) {j p : Nat} (hi : okX (0, j, p, 0)) (hfr : wFr w (0, j, p, 0)) {g : HV} (e : Ω.1 j p = g) {idx : Nat} (hlink : Cond.fieldLink own idx "HedgeMessages$Hedge" "removed" "I" ∈ lw_tbl) (hd : decode cc pc = .ok (.putfield idx, 3)) {x : Int32} (e2 : sP Ω j p (sS g 18 x) = Ω') (kk : gU w X Q (cA w Ω') (pc + 3) lo st) : gU w X Q (cA w Ω) pc lo (.int x :: .ref (wAd w (0, j, p, 0)) :: st) := by
  subst e
  subst e2
  exact r_put C F5 18 (0, j, p, 0) hfr rfl (by decide) hlink rfl (vp_nar_int x) rfl (Nat.le_of_ble_eq_true rfl) hd (fun q hq => putS (k := 0) (s := up (Ω.1 j p).1 18 x) (by unfold isOb; omega) hi q (hX q hq)) kk
theorem ogN_0_18 (C : gC w X cc own ret d nL) {j p : Nat} (hok : wOk w (0, j, p, 0)) {g : HV} (e : Ω.1 j p = g) {idx : Nat} {host : String} (hlink : Cond.fieldLinkNest own idx "HedgeMessages$Hedge" "removed" "I" host ∈ lw_tbl) (hd : decode cc pc = .ok (.getfield idx, 3)) (kk : gU w X Q (cA w Ω) (pc + 3) lo (.int (g.1 18) :: st)) : gU w X Q (cA w Ω) pc lo (.ref (wAd w (0, j, p, 0)) :: st) := by
  subst e
  exact r_getN C F5 18 (0, j, p, 0) hok rfl (by decide) hlink rfl hd kk
theorem opN_0_18 (C : gC w X cc own ret d nL) (hX : ∀ i, wOk w i → okX i) {j p : Nat} (hi : okX (0, j, p, 0)) (hfr : wFr w (0, j, p, 0)) {g : HV} (e : Ω.1 j p = g) {idx : Nat} {host : String} (hlink : Cond.fieldLinkNest own idx "HedgeMessages$Hedge" "removed" "I" host ∈ lw_tbl) (hd : decode cc pc = .ok (.putfield idx, 3)) {x : Int32} (e2 : sP Ω j p (sS g 18 x) = Ω') (kk : gU w X Q (cA w Ω') (pc + 3) lo st) : gU w X Q (cA w Ω) pc lo (.int x :: .ref (wAd w (0, j, p, 0)) :: st) := by
  subst e
  subst e2
  exact r_putN C F5 18 (0, j, p, 0) hfr rfl (by decide) hlink rfl (vp_nar_int x) rfl (Nat.le_of_ble_eq_true rfl) hd (fun q hq => putS (k := 0) (s := up (Ω.1 j p).1 18 x) (by unfold isOb; omega) hi q (hX q hq)) kk
theorem og_1_0 (C : gC w X cc own ret d nL) {j p : Nat} (hok : wOk w (1, j, p, 0)) {idx : Nat} (hlink : Cond.fieldLink own idx "HedgeMessages$Gardener" "letters" "LHedgeMessages$Row;" ∈ lw_tbl) (hd : decode cc pc = .ok (.getfield idx, 3)) (kk : gU w X Q (cA w Ω) (pc + 3) lo (.ref (wAd w (3, j, p, 0)) :: st)) : gU w X Q (cA w Ω) pc lo (.ref (wAd w (1, j, p, 0)) :: st) :=
  r_get C F4 0 (1, j, p, 0) hok rfl (by decide) hlink rfl hd kk
theorem ogN_1_0 (C : gC w X cc own ret d nL) {j p : Nat} (hok : wOk w (1, j, p, 0)) {idx : Nat} {host : String} (hlink : Cond.fieldLinkNest own idx "HedgeMessages$Gardener" "letters" "LHedgeMessages$Row;" host ∈ lw_tbl) (hd : decode cc pc = .ok (.getfield idx, 3)) (kk : gU w X Q (cA w Ω) (pc + 3) lo (.ref (wAd w (3, j, p, 0)) :: st)) : gU w X Q (cA w Ω) pc lo (.ref (wAd w (1, j, p, 0)) :: st) :=
  r_getN C F4 0 (1, j, p, 0) hok rfl (by decide) hlink rfl hd kk
theorem og_1_1 (C : gC w X cc own ret d nL) {j p : Nat} (hok : wOk w (1, j, p, 0)) {idx : Nat} (hlink : Cond.fieldLink own idx "HedgeMessages$Gardener" "lengths" "LHedgeMessages$Row;" ∈ lw_tbl) (hd : decode cc pc = .ok (.getfield idx, 3)) (kk : gU w X Q (cA w Ω) (pc + 3) lo (.ref (wAd w (3, j, p, 1)) :: st)) : gU w X Q (cA w Ω) pc lo (.ref (wAd w (1, j, p, 0)) :: st) :=
  r_get C F4 1 (1, j, p, 0) hok rfl (by decide) hlink rfl hd kk
theorem ogN_1_1 (C : gC w X cc own ret d nL) {j p : Nat} (hok : wOk w (1, j, p, 0)) {idx : Nat} {host : String} (hlink : Cond.fieldLinkNest own idx "HedgeMessages$Gardener" "lengths" "LHedgeMessages$Row;" host ∈ lw_tbl) (hd : decode cc pc = .ok (.getfield idx, 3)) (kk : gU w X Q (cA w Ω) (pc + 3) lo (.ref (wAd w (3, j, p, 1)) :: st)) : gU w X Q (cA w Ω) pc lo (.ref (wAd w (1, j, p, 0)) :: st) :=
  r_getN C F4 1 (1, j, p, 0) hok rfl (by decide) hlink rfl hd kk
theorem og_1_2 (C : gC w X cc own ret d nL) {j p : Nat} (hok : wOk w (1, j, p, 0)) {g : HV} (e : Ω.1 j p = g) {idx : Nat} (hlink : Cond.fieldLink own idx "HedgeMessages$Gardener" "pending" "I" ∈ lw_tbl) (hd : decode cc pc = .ok (.getfield idx, 3)) (kk : gU w X Q (cA w Ω) (pc + 3) lo (.int (g.1 2) :: st)) : gU w X Q (cA w Ω) pc lo (.ref (wAd w (1, j, p, 0)) :: st) := by
  subst e
  exact r_get C F4 2 (1, j, p, 0) hok rfl (by decide) hlink rfl hd kk
theorem op_1_2 (C : gC w X cc own ret d nL) (hX : ∀ i, wOk w i → okX i) {j p : Nat} (hi : okX (1, j, p, 0)) (hfr : wFr w (1, j, p, 0)) {g : HV} (e : Ω.1 j p = g) {idx : Nat} (hlink : Cond.fieldLink own idx "HedgeMessages$Gardener" "pending" "I" ∈ lw_tbl) (hd : decode cc pc = .ok (.putfield idx, 3)) {x : Int32} (e2 : sP Ω j p (sS g 2 x) = Ω') (kk : gU w X Q (cA w Ω') (pc + 3) lo st) : gU w X Q (cA w Ω) pc lo (.int x :: .ref (wAd w (1, j, p, 0)) :: st) := by
  subst e
  subst e2
  exact r_put C F4 2 (1, j, p, 0) hfr rfl (by decide) hlink rfl (vp_nar_int x) rfl (Nat.le_of_ble_eq_true rfl) hd (fun q hq => putS (k := 1) (s := up (Ω.1 j p).1 2 x) (by unfold isOb; omega) hi q (hX q hq)) kk
theorem ogN_1_2 (C : gC w X cc own ret d nL) {j p : Nat} (hok : wOk w (1, j, p, 0)) {g : HV} (e : Ω.1 j p = g) {idx : Nat} {host : String} (hlink : Cond.fieldLinkNest own idx "HedgeMessages$Gardener" "pending" "I" host ∈ lw_tbl) (hd : decode cc pc = .ok (.getfield idx, 3)) (kk : gU w X Q (cA w Ω) (pc + 3) lo (.int (g.1 2) :: st)) : gU w X Q (cA w Ω) pc lo (.ref (wAd w (1, j, p, 0)) :: st) := by
  subst e
  exact r_getN C F4 2 (1, j, p, 0) hok rfl (by decide) hlink rfl hd kk
theorem opN_1_2 (C : gC w X cc own ret d nL) (hX : ∀ i, wOk w i → okX i) {j p : Nat} (hi : okX (1, j, p, 0)) (hfr : wFr w (1, j, p, 0)) {g : HV} (e : Ω.1 j p = g) {idx : Nat} {host : String} (hlink : Cond.fieldLinkNest own idx "HedgeMessages$Gardener" "pending" "I" host ∈ lw_tbl) (hd : decode cc pc = .ok (.putfield idx, 3)) {x : Int32} (e2 : sP Ω j p (sS g 2 x) = Ω') (kk : gU w X Q (cA w Ω') (pc + 3) lo st) : gU w X Q (cA w Ω) pc lo (.int x :: .ref (wAd w (1, j, p, 0)) :: st) := by
  subst e
  subst e2
  exact r_putN C F4 2 (1, j, p, 0) hfr rfl (by decide) hlink rfl (vp_nar_int x) rfl (Nat.le_of_ble_eq_true rfl) hd (fun q hq => putS (k := 1) (s := up (Ω.1 j p).1 2 x) (by unfold isOb; omega) hi q (hX q hq)) kk
theorem og_1_3 (C : gC w X cc own ret d nL) {j p : Nat} (hok : wOk w (1, j, p, 0)) {g : HV} (e : Ω.1 j p = g) {idx : Nat} (hlink : Cond.fieldLink own idx "HedgeMessages$Gardener" "start" "I" ∈ lw_tbl) (hd : decode cc pc = .ok (.getfield idx, 3)) (kk : gU w X Q (cA w Ω) (pc + 3) lo (.int (g.1 3) :: st)) : gU w X Q (cA w Ω) pc lo (.ref (wAd w (1, j, p, 0)) :: st) := by
  subst e
  exact r_get C F4 3 (1, j, p, 0) hok rfl (by decide) hlink rfl hd kk
theorem op_1_3 (C : gC w X cc own ret d nL) (hX : ∀ i, wOk w i → okX i) {j p : Nat} (hi : okX (1, j, p, 0)) (hfr : wFr w (1, j, p, 0)) {g : HV} (e : Ω.1 j p = g) {idx : Nat} (hlink : Cond.fieldLink own idx "HedgeMessages$Gardener" "start" "I" ∈ lw_tbl) (hd : decode cc pc = .ok (.putfield idx, 3)) {x : Int32} (e2 : sP Ω j p (sS g 3 x) = Ω') (kk : gU w X Q (cA w Ω') (pc + 3) lo st) : gU w X Q (cA w Ω) pc lo (.int x :: .ref (wAd w (1, j, p, 0)) :: st) := by
  subst e
  subst e2
  exact r_put C F4 3 (1, j, p, 0) hfr rfl (by decide) hlink rfl (vp_nar_int x) rfl (Nat.le_of_ble_eq_true rfl) hd (fun q hq => putS (k := 1) (s := up (Ω.1 j p).1 3 x) (by unfold isOb; omega) hi q (hX q hq)) kk
theorem ogN_1_3 (C : gC w X cc own ret d nL) {j p : Nat} (hok : wOk w (1, j, p, 0)) {g : HV} (e : Ω.1 j p = g) {idx : Nat} {host : String} (hlink : Cond.fieldLinkNest own idx "HedgeMessages$Gardener" "start" "I" host ∈ lw_tbl) (hd : decode cc pc = .ok (.getfield idx, 3)) (kk : gU w X Q (cA w Ω) (pc + 3) lo (.int (g.1 3) :: st)) : gU w X Q (cA w Ω) pc lo (.ref (wAd w (1, j, p, 0)) :: st) := by
  subst e
  exact r_getN C F4 3 (1, j, p, 0) hok rfl (by decide) hlink rfl hd kk
theorem opN_1_3 (C : gC w X cc own ret d nL) (hX : ∀ i, wOk w i → okX i) {j p : Nat} (hi : okX (1, j, p, 0)) (hfr : wFr w (1, j, p, 0)) {g : HV} (e : Ω.1 j p = g) {idx : Nat} {host : String} (hlink : Cond.fieldLinkNest own idx "HedgeMessages$Gardener" "start" "I" host ∈ lw_tbl) (hd : decode cc pc = .ok (.putfield idx, 3)) {x : Int32} (e2 : sP Ω j p (sS g 3 x) = Ω') (kk : gU w X Q (cA w Ω') (pc + 3) lo st) : gU w X Q (cA w Ω) pc lo (.int x :: .ref (wAd w (1, j, p, 0)) :: st) := by
  subst e
  subst e2
  exact r_putN C F4 3 (1, j, p, 0) hfr rfl (by decide) hlink rfl (vp_nar_int x) rfl (Nat.le_of_ble_eq_true rfl) hd (fun q hq => putS (k := 1) (s := up (Ω.1 j p).1 3 x) (by unfold isOb; omega) hi q (hX q hq)) kk
theorem og_1_4 (C : gC w X cc own ret d nL) {j p : Nat} (hok : wOk w (1, j, p, 0)) {g : HV} (e : Ω.1 j p = g) {idx : Nat} (hlink : Cond.fieldLink own idx "HedgeMessages$Gardener" "length" "I" ∈ lw_tbl) (hd : decode cc pc = .ok (.getfield idx, 3)) (kk : gU w X Q (cA w Ω) (pc + 3) lo (.int (g.1 4) :: st)) : gU w X Q (cA w Ω) pc lo (.ref (wAd w (1, j, p, 0)) :: st) := by
  subst e
  exact r_get C F4 4 (1, j, p, 0) hok rfl (by decide) hlink rfl hd kk
theorem op_1_4 (C : gC w X cc own ret d nL) (hX : ∀ i, wOk w i → okX i) {j p : Nat} (hi : okX (1, j, p, 0)) (hfr : wFr w (1, j, p, 0)) {g : HV} (e : Ω.1 j p = g) {idx : Nat} (hlink : Cond.fieldLink own idx "HedgeMessages$Gardener" "length" "I" ∈ lw_tbl) (hd : decode cc pc = .ok (.putfield idx, 3)) {x : Int32} (e2 : sP Ω j p (sS g 4 x) = Ω') (kk : gU w X Q (cA w Ω') (pc + 3) lo st) : gU w X Q (cA w Ω) pc lo (.int x :: .ref (wAd w (1, j, p, 0)) :: st) := by
  subst e
  subst e2
  exact r_put C F4 4 (1, j, p, 0) hfr rfl (by decide) hlink rfl (vp_nar_int x) rfl (Nat.le_of_ble_eq_true rfl) hd (fun q hq => putS (k := 1) (s := up (Ω.1 j p).1 4 x) (by unfold isOb; omega) hi q (hX q hq)) kk
theorem ogN_1_4 (C : gC w X cc own ret d nL) {j p : Nat} (hok : wOk w (1, j, p, 0)) {g : HV} (e : Ω.1 j p = g) {idx : Nat} {host : String} (hlink : Cond.fieldLinkNest own idx "HedgeMessages$Gardener" "length" "I" host ∈ lw_tbl) (hd : decode cc pc = .ok (.getfield idx, 3)) (kk : gU w X Q (cA w Ω) (pc + 3) lo (.int (g.1 4) :: st)) : gU w X Q (cA w Ω) pc lo (.ref (wAd w (1, j, p, 0)) :: st) := by
  subst e
  exact r_getN C F4 4 (1, j, p, 0) hok rfl (by decide) hlink rfl hd kk
theorem opN_1_4 (C : gC w X cc own ret d nL) (hX : ∀ i, wOk w i → okX i) {j p : Nat} (hi : okX (1, j, p, 0)) (hfr : wFr w (1, j, p, 0)) {g : HV} (e : Ω.1 j p = g) {idx : Nat} {host : String} (hlink : Cond.fieldLinkNest own idx "HedgeMessages$Gardener" "length" "I" host ∈ lw_tbl) (hd : decode cc pc = .ok (.putfield idx, 3)) {x : Int32} (e2 : sP Ω j p (sS g 4 x) = Ω') (kk : gU w X Q (cA w Ω') (pc + 3) lo st) : gU w X Q (cA w Ω) pc lo (.int x :: .ref (wAd w (1, j, p, 0)) :: st) := by
  subst e
  subst e2
  exact r_putN C F4 4 (1, j, p, 0) hfr rfl (by decide) hlink rfl (vp_nar_int x) rfl (Nat.le_of_ble_eq_true rfl) hd (fun q hq => putS (k := 1) (s := up (Ω.1 j p).1 4 x) (by unfold isOb; omega) hi q (hX q hq)) kk
theorem og_1_5 (C : gC w X cc own ret d nL) {j p : Nat} (hok : wOk w (1, j, p, 0)) {g : HV} (e : Ω.1 j p = g) {idx : Nat} (hlink : Cond.fieldLink own idx "HedgeMessages$Gardener" "written" "I" ∈ lw_tbl) (hd : decode cc pc = .ok (.getfield idx, 3)) (kk : gU w X Q (cA w Ω) (pc + 3) lo (.int (g.1 5) :: st)) : gU w X Q (cA w Ω) pc lo (.ref (wAd w (1, j, p, 0)) :: st) := by
  subst e
  exact r_get C F4 5 (1, j, p, 0) hok rfl (by decide) hlink rfl hd kk
theorem op_1_5 (C : gC w X cc own ret d nL) (hX : ∀ i, wOk w i → okX i) {j p : Nat} (hi : okX (1, j, p, 0)) (hfr : wFr w (1, j, p, 0)) {g : HV} (e : Ω.1 j p = g) {idx : Nat} (hlink : Cond.fieldLink own idx "HedgeMessages$Gardener" "written" "I" ∈ lw_tbl) (hd : decode cc pc = .ok (.putfield idx, 3)) {x : Int32} (e2 : sP Ω j p (sS g 5 x) = Ω') (kk : gU w X Q (cA w Ω') (pc + 3) lo st) : gU w X Q (cA w Ω) pc lo (.int x :: .ref (wAd w (1, j, p, 0)) :: st) := by
  subst e
  subst e2
  exact r_put C F4 5 (1, j, p, 0) hfr rfl (by decide) hlink rfl (vp_nar_int x) rfl (Nat.le_of_ble_eq_true rfl) hd (fun q hq => putS (k := 1) (s := up (Ω.1 j p).1 5 x) (by unfold isOb; omega) hi q (hX q hq)) kk
theorem ogN_1_5 (C : gC w X cc own ret d nL) {j p : Nat} (hok : wOk w (1, j, p, 0)) {g : HV} (e : Ω.1 j p = g) {idx : Nat} {host : String} (hlink : Cond.fieldLinkNest own idx "HedgeMessages$Gardener" "written" "I" host ∈ lw_tbl) (hd : decode cc pc = .ok (.getfield idx, 3)) (kk : gU w X Q (cA w Ω) (pc + 3) lo (.int (g.1 5) :: st)) : gU w X Q (cA w Ω) pc lo (.ref (wAd w (1, j, p, 0)) :: st) := by
  subst e
  exact r_getN C F4 5 (1, j, p, 0) hok rfl (by decide) hlink rfl hd kk
theorem opN_1_5 (C : gC w X cc own ret d nL) (hX : ∀ i, wOk w i → okX i) {j p : Nat} (hi : okX (1, j, p, 0)) (hfr : wFr w (1, j, p, 0)) {g : HV} (e : Ω.1 j p = g) {idx : Nat} {host : String} (hlink : Cond.fieldLinkNest own idx "HedgeMessages$Gardener" "written" "I" host ∈ lw_tbl) (hd : decode cc pc = .ok (.putfield idx, 3)) {x : Int32} (e2 : sP Ω j p (sS g 5 x) = Ω') (kk : gU w X Q (cA w Ω') (pc + 3) lo st) : gU w X Q (cA w Ω) pc lo (.int x :: .ref (wAd w (1, j, p, 0)) :: st) := by
  subst e
  subst e2
  exact r_putN C F4 5 (1, j, p, 0) hfr rfl (by decide) hlink rfl (vp_nar_int x) rfl (Nat.le_of_ble_eq_true rfl) hd (fun q hq => putS (k := 1) (s := up (Ω.1 j p).1 5 x) (by unfold isOb; omega) hi q (hX q hq)) kk
theorem og_1_6 (C : gC w X cc own ret d nL) {j p : Nat} (hok : wOk w (1, j, p, 0)) {g : HV} (e : Ω.1 j p = g) {idx : Nat} (hlink : Cond.fieldLink own idx "HedgeMessages$Gardener" "queued" "I" ∈ lw_tbl) (hd : decode cc pc = .ok (.getfield idx, 3)) (kk : gU w X Q (cA w Ω) (pc + 3) lo (.int (g.1 6) :: st)) : gU w X Q (cA w Ω) pc lo (.ref (wAd w (1, j, p, 0)) :: st) := by
  subst e
  exact r_get C F4 6 (1, j, p, 0) hok rfl (by decide) hlink rfl hd kk
theorem op_1_6 (C : gC w X cc own ret d nL) (hX : ∀ i, wOk w i → okX i) {j p : Nat} (hi : okX (1, j, p, 0)) (hfr : wFr w (1, j, p, 0)) {g : HV} (e : Ω.1 j p = g) {idx : Nat} (hlink : Cond.fieldLink own idx "HedgeMessages$Gardener" "queued" "I" ∈ lw_tbl) (hd : decode cc pc = .ok (.putfield idx, 3)) {x : Int32} (e2 : sP Ω j p (sS g 6 x) = Ω') (kk : gU w X Q (cA w Ω') (pc + 3) lo st) : gU w X Q (cA w Ω) pc lo (.int x :: .ref (wAd w (1, j, p, 0)) :: st) := by
  subst e
  subst e2
  exact r_put C F4 6 (1, j, p, 0) hfr rfl (by decide) hlink rfl (vp_nar_int x) rfl (Nat.le_of_ble_eq_true rfl) hd (fun q hq => putS (k := 1) (s := up (Ω.1 j p).1 6 x) (by unfold isOb; omega) hi q (hX q hq)) kk
theorem ogN_1_6 (C : gC w X cc own ret d nL) {j p : Nat} (hok : wOk w (1, j, p, 0)) {g : HV} (e : Ω.1 j p = g) {idx : Nat} {host : String} (hlink : Cond.fieldLinkNest own idx "HedgeMessages$Gardener" "queued" "I" host ∈ lw_tbl) (hd : decode cc pc = .ok (.getfield idx, 3)) (kk : gU w X Q (cA w Ω) (pc + 3) lo (.int (g.1 6) :: st)) : gU w X Q (cA w Ω) pc lo (.ref (wAd w (1, j, p, 0)) :: st) := by
  subst e
  exact r_getN C F4 6 (1, j, p, 0) hok rfl (by decide) hlink rfl hd kk
theorem opN_1_6 (C : gC w X cc own ret d nL) (hX : ∀ i, wOk w i → okX i) {j p : Nat} (hi : okX (1, j, p, 0)) (hfr : wFr w (1, j, p, 0)) {g : HV} (e : Ω.1 j p = g) {idx : Nat} {host : String} (hlink : Cond.fieldLinkNest own idx "HedgeMessages$Gardener" "queued" "I" host ∈ lw_tbl) (hd : decode cc pc = .ok (.putfield idx, 3)) {x : Int32} (e2 : sP Ω j p (sS g 6 x) = Ω') (kk : gU w X Q (cA w Ω') (pc + 3) lo st) : gU w X Q (cA w Ω) pc lo (.int x :: .ref (wAd w (1, j, p, 0)) :: st) := by
  subst e
  subst e2
  exact r_putN C F4 6 (1, j, p, 0) hfr rfl (by decide) hlink rfl (vp_nar_int x) rfl (Nat.le_of_ble_eq_true rfl) hd (fun q hq => putS (k := 1) (s := up (Ω.1 j p).1 6 x) (by unfold isOb; omega) hi q (hX q hq)) kk
theorem og_1_7 (C : gC w X cc own ret d nL) {j p : Nat} (hok : wOk w (1, j, p, 0)) {g : HV} (e : Ω.1 j p = g) {idx : Nat} (hlink : Cond.fieldLink own idx "HedgeMessages$Gardener" "delivered" "I" ∈ lw_tbl) (hd : decode cc pc = .ok (.getfield idx, 3)) (kk : gU w X Q (cA w Ω) (pc + 3) lo (.int (g.1 7) :: st)) : gU w X Q (cA w Ω) pc lo (.ref (wAd w (1, j, p, 0)) :: st) := by
  subst e
  exact r_get C F4 7 (1, j, p, 0) hok rfl (by decide) hlink rfl hd kk
theorem op_1_7 (C : gC w X cc own ret d nL) (hX : ∀ i, wOk w i → okX i) {j p : Nat} (hi : okX (1, j, p, 0)) (hfr : wFr w (1, j, p, 0)) {g : HV} (e : Ω.1 j p = g) {idx : Nat} (hlink : Cond.fieldLink own idx "HedgeMessages$Gardener" "delivered" "I" ∈ lw_tbl) (hd : decode cc pc = .ok (.putfield idx, 3)) {x : Int32} (e2 : sP Ω j p (sS g 7 x) = Ω') (kk : gU w X Q (cA w Ω') (pc + 3) lo st) : gU w X Q (cA w Ω) pc lo (.int x :: .ref (wAd w (1, j, p, 0)) :: st) := by
  subst e
  subst e2
  exact r_put C F4 7 (1, j, p, 0) hfr rfl (by decide) hlink rfl (vp_nar_int x) rfl (Nat.le_of_ble_eq_true rfl) hd (fun q hq => putS (k := 1) (s := up (Ω.1 j p).1 7 x) (by unfold isOb; omega) hi q (hX q hq)) kk
theorem ogN_1_7 (C : gC w X cc own ret d nL) {j p : Nat} (hok : wOk w (1, j, p, 0)) {g : HV} (e : Ω.1 j p = g) {idx : Nat} {host : String} (hlink : Cond.fieldLinkNest own idx "HedgeMessages$Gardener" "delivered" "I" host ∈ lw_tbl) (hd : decode cc pc = .ok (.getfield idx, 3)) (kk : gU w X Q (cA w Ω) (pc + 3) lo (.int (g.1 7) :: st)) : gU w X Q (cA w Ω) pc lo (.ref (wAd w (1, j, p, 0)) :: st) := by
  subst e
  exact r_getN C F4 7 (1, j, p, 0) hok rfl (by decide) hlink rfl hd kk
theorem opN_1_7 (C : gC w X cc own ret d nL) (hX : ∀ i, wOk w i → okX i) {j p : Nat} (hi : okX (1, j, p, 0)) (hfr : wFr w (1, j, p, 0)) {g : HV} (e : Ω.1 j p = g) {idx : Nat} {host : String} (hlink : Cond.fieldLinkNest own idx "HedgeMessages$Gardener" "delivered" "I" host ∈ lw_tbl) (hd : decode cc pc = .ok (.putfield idx, 3)) {x : Int32} (e2 : sP Ω j p (sS g 7 x) = Ω') (kk : gU w X Q (cA w Ω') (pc + 3) lo st) : gU w X Q (cA w Ω) pc lo (.int x :: .ref (wAd w (1, j, p, 0)) :: st) := by
  subst e
  subst e2
  exact r_putN C F4 7 (1, j, p, 0) hfr rfl (by decide) hlink rfl (vp_nar_int x) rfl (Nat.le_of_ble_eq_true rfl) hd (fun q hq => putS (k := 1) (s := up (Ω.1 j p).1 7 x) (by unfold isOb; omega) hi q (hX q hq)) kk
theorem og_1_8 (C : gC w X cc own ret d nL) {j p : Nat} (hok : wOk w (1, j, p, 0)) {g : HV} (e : Ω.1 j p = g) {idx : Nat} (hlink : Cond.fieldLink own idx "HedgeMessages$Gardener" "failed" "I" ∈ lw_tbl) (hd : decode cc pc = .ok (.getfield idx, 3)) (kk : gU w X Q (cA w Ω) (pc + 3) lo (.int (g.1 8) :: st)) : gU w X Q (cA w Ω) pc lo (.ref (wAd w (1, j, p, 0)) :: st) := by
  subst e
  exact r_get C F4 8 (1, j, p, 0) hok rfl (by decide) hlink rfl hd kk
theorem op_1_8 (C : gC w X cc own ret d nL) (hX : ∀ i, wOk w i → okX i) {j p : Nat} (hi : okX (1, j, p, 0)) (hfr : wFr w (1, j, p, 0)) {g : HV} (e : Ω.1 j p = g) {idx : Nat} (hlink : Cond.fieldLink own idx "HedgeMessages$Gardener" "failed" "I" ∈ lw_tbl) (hd : decode cc pc = .ok (.putfield idx, 3)) {x : Int32} (e2 : sP Ω j p (sS g 8 x) = Ω') (kk : gU w X Q (cA w Ω') (pc + 3) lo st) : gU w X Q (cA w Ω) pc lo (.int x :: .ref (wAd w (1, j, p, 0)) :: st) := by
  subst e
  subst e2
  exact r_put C F4 8 (1, j, p, 0) hfr rfl (by decide) hlink rfl (vp_nar_int x) rfl (Nat.le_of_ble_eq_true rfl) hd (fun q hq => putS (k := 1) (s := up (Ω.1 j p).1 8 x) (by unfold isOb; omega) hi q (hX q hq)) kk
theorem ogN_1_8 (C : gC w X cc own ret d nL) {j p : Nat} (hok : wOk w (1, j, p, 0)) {g : HV} (e : Ω.1 j p = g) {idx : Nat} {host : String} (hlink : Cond.fieldLinkNest own idx "HedgeMessages$Gardener" "failed" "I" host ∈ lw_tbl) (hd : decode cc pc = .ok (.getfield idx, 3)) (kk : gU w X Q (cA w Ω) (pc + 3) lo (.int (g.1 8) :: st)) : gU w X Q (cA w Ω) pc lo (.ref (wAd w (1, j, p, 0)) :: st) := by
  subst e
  exact r_getN C F4 8 (1, j, p, 0) hok rfl (by decide) hlink rfl hd kk
theorem opN_1_8 (C : gC w X cc own ret d nL) (hX : ∀ i, wOk w i → okX i) {j p : Nat} (hi : okX (1, j, p, 0)) (hfr : wFr w (1, j, p, 0)) {g : HV} (e : Ω.1 j p = g) {idx : Nat} {host : String} (hlink : Cond.fieldLinkNest own idx "HedgeMessages$Gardener" "failed" "I" host ∈ lw_tbl) (hd : decode cc pc = .ok (.putfield idx, 3)) {x : Int32} (e2 : sP Ω j p (sS g 8 x) = Ω') (kk : gU w X Q (cA w Ω') (pc + 3) lo st) : gU w X Q (cA w Ω) pc lo (.int x :: .ref (wAd w (1, j, p, 0)) :: st) := by
  subst e
  subst e2
  exact r_putN C F4 8 (1, j, p, 0) hfr rfl (by decide) hlink rfl (vp_nar_int x) rfl (Nat.le_of_ble_eq_true rfl) hd (fun q hq => putS (k := 1) (s := up (Ω.1 j p).1 8 x) (by unfold isOb; omega) hi q (hX q hq)) kk
theorem og_1_9 (C : gC w X cc own ret d nL) {j p : Nat} (hok : wOk w (1, j, p, 0)) {g : HV} (e : Ω.1 j p = g) {idx : Nat} (hlink : Cond.fieldLink own idx "HedgeMessages$Gardener" "dropped" "I" ∈ lw_tbl) (hd : decode cc pc = .ok (.getfield idx, 3)) (kk : gU w X Q (cA w Ω) (pc + 3) lo (.int (g.1 9) :: st)) : gU w X Q (cA w Ω) pc lo (.ref (wAd w (1, j, p, 0)) :: st) := by
  subst e
  exact r_get C F4 9 (1, j, p, 0) hok rfl (by decide) hlink rfl hd kk
theorem op_1_9 (C : gC w X cc own ret d nL) (hX : ∀ i, wOk w i → okX i) {j p : Nat} (hi : okX (1, j, p, 0)) (hfr : wFr w (1, j, p, 0)) {g : HV} (e : Ω.1 j p = g) {idx : Nat} (hlink : Cond.fieldLink own idx "HedgeMessages$Gardener" "dropped" "I" ∈ lw_tbl) (hd : decode cc pc = .ok (.putfield idx, 3)) {x : Int32} (e2 : sP Ω j p (sS g 9 x) = Ω') (kk : gU w X Q (cA w Ω') (pc + 3) lo st) : gU w X Q (cA w Ω) pc lo (.int x :: .ref (wAd w (1, j, p, 0)) :: st) := by
  subst e
  subst e2
  exact r_put C F4 9 (1, j, p, 0) hfr rfl (by decide) hlink rfl (vp_nar_int x) rfl (Nat.le_of_ble_eq_true rfl) hd (fun q hq => putS (k := 1) (s := up (Ω.1 j p).1 9 x) (by unfold isOb; omega) hi q (hX q hq)) kk
theorem ogN_1_9 (C : gC w X cc own ret d nL) {j p : Nat} (hok : wOk w (1, j, p, 0)) {g : HV} (e : Ω.1 j p = g) {idx : Nat} {host : String} (hlink : Cond.fieldLinkNest own idx "HedgeMessages$Gardener" "dropped" "I" host ∈ lw_tbl) (hd : decode cc pc = .ok (.getfield idx, 3)) (kk : gU w X Q (cA w Ω) (pc + 3) lo (.int (g.1 9) :: st)) : gU w X Q (cA w Ω) pc lo (.ref (wAd w (1, j, p, 0)) :: st) := by
  subst e
  exact r_getN C F4 9 (1, j, p, 0) hok rfl (by decide) hlink rfl hd kk
theorem opN_1_9 (C : gC w X cc own ret d nL) (hX : ∀ i, wOk w i → okX i) {j p : Nat} (hi : okX (1, j, p, 0)) (hfr : wFr w (1, j, p, 0)) {g : HV} (e : Ω.1 j p = g) {idx : Nat} {host : String} (hlink : Cond.fieldLinkNest own idx "HedgeMessages$Gardener" "dropped" "I" host ∈ lw_tbl) (hd : decode cc pc = .ok (.putfield idx, 3)) {x : Int32} (e2 : sP Ω j p (sS g 9 x) = Ω') (kk : gU w X Q (cA w Ω') (pc + 3) lo st) : gU w X Q (cA w Ω) pc lo (.int x :: .ref (wAd w (1, j, p, 0)) :: st) := by
  subst e
  subst e2
  exact r_putN C F4 9 (1, j, p, 0) hfr rfl (by decide) hlink rfl (vp_nar_int x) rfl (Nat.le_of_ble_eq_true rfl) hd (fun q hq => putS (k := 1) (s := up (Ω.1 j p).1 9 x) (by unfold isOb; omega) hi q (hX q hq)) kk
theorem og_2_0 (C : gC w X cc own ret d nL) {j p : Nat} (hok : wOk w (2, j, p, 0)) {idx : Nat} (hlink : Cond.fieldLink own idx "HedgeMessages$PostedMessages" "senders" "LHedgeMessages$Row;" ∈ lw_tbl) (hd : decode cc pc = .ok (.getfield idx, 3)) (kk : gU w X Q (cA w Ω) (pc + 3) lo (.ref (wAd w (3, j, p, 0)) :: st)) : gU w X Q (cA w Ω) pc lo (.ref (wAd w (2, j, p, 0)) :: st) :=
  r_get C F7 0 (2, j, p, 0) hok rfl (by decide) hlink rfl hd kk
theorem ogN_2_0 (C : gC w X cc own ret d nL) {j p : Nat} (hok : wOk w (2, j, p, 0)) {idx : Nat} {host : String} (hlink : Cond.fieldLinkNest own idx "HedgeMessages$PostedMessages" "senders" "LHedgeMessages$Row;" host ∈ lw_tbl) (hd : decode cc pc = .ok (.getfield idx, 3)) (kk : gU w X Q (cA w Ω) (pc + 3) lo (.ref (wAd w (3, j, p, 0)) :: st)) : gU w X Q (cA w Ω) pc lo (.ref (wAd w (2, j, p, 0)) :: st) :=
  r_getN C F7 0 (2, j, p, 0) hok rfl (by decide) hlink rfl hd kk
theorem og_2_1 (C : gC w X cc own ret d nL) {j p : Nat} (hok : wOk w (2, j, p, 0)) {idx : Nat} (hlink : Cond.fieldLink own idx "HedgeMessages$PostedMessages" "starts" "LHedgeMessages$Row;" ∈ lw_tbl) (hd : decode cc pc = .ok (.getfield idx, 3)) (kk : gU w X Q (cA w Ω) (pc + 3) lo (.ref (wAd w (3, j, p, 1)) :: st)) : gU w X Q (cA w Ω) pc lo (.ref (wAd w (2, j, p, 0)) :: st) :=
  r_get C F7 1 (2, j, p, 0) hok rfl (by decide) hlink rfl hd kk
theorem ogN_2_1 (C : gC w X cc own ret d nL) {j p : Nat} (hok : wOk w (2, j, p, 0)) {idx : Nat} {host : String} (hlink : Cond.fieldLinkNest own idx "HedgeMessages$PostedMessages" "starts" "LHedgeMessages$Row;" host ∈ lw_tbl) (hd : decode cc pc = .ok (.getfield idx, 3)) (kk : gU w X Q (cA w Ω) (pc + 3) lo (.ref (wAd w (3, j, p, 1)) :: st)) : gU w X Q (cA w Ω) pc lo (.ref (wAd w (2, j, p, 0)) :: st) :=
  r_getN C F7 1 (2, j, p, 0) hok rfl (by decide) hlink rfl hd kk
theorem og_2_2 (C : gC w X cc own ret d nL) {j p : Nat} (hok : wOk w (2, j, p, 0)) {idx : Nat} (hlink : Cond.fieldLink own idx "HedgeMessages$PostedMessages" "lengths" "LHedgeMessages$Row;" ∈ lw_tbl) (hd : decode cc pc = .ok (.getfield idx, 3)) (kk : gU w X Q (cA w Ω) (pc + 3) lo (.ref (wAd w (3, j, p, 2)) :: st)) : gU w X Q (cA w Ω) pc lo (.ref (wAd w (2, j, p, 0)) :: st) :=
  r_get C F7 2 (2, j, p, 0) hok rfl (by decide) hlink rfl hd kk
theorem ogN_2_2 (C : gC w X cc own ret d nL) {j p : Nat} (hok : wOk w (2, j, p, 0)) {idx : Nat} {host : String} (hlink : Cond.fieldLinkNest own idx "HedgeMessages$PostedMessages" "lengths" "LHedgeMessages$Row;" host ∈ lw_tbl) (hd : decode cc pc = .ok (.getfield idx, 3)) (kk : gU w X Q (cA w Ω) (pc + 3) lo (.ref (wAd w (3, j, p, 2)) :: st)) : gU w X Q (cA w Ω) pc lo (.ref (wAd w (2, j, p, 0)) :: st) :=
  r_getN C F7 2 (2, j, p, 0) hok rfl (by decide) hlink rfl hd kk
theorem og_2_3 (C : gC w X cc own ret d nL) {j p : Nat} (hok : wOk w (2, j, p, 0)) {g : HV} (e : Ω.1 j p = g) {idx : Nat} (hlink : Cond.fieldLink own idx "HedgeMessages$PostedMessages" "count" "I" ∈ lw_tbl) (hd : decode cc pc = .ok (.getfield idx, 3)) (kk : gU w X Q (cA w Ω) (pc + 3) lo (.int (g.1 3) :: st)) : gU w X Q (cA w Ω) pc lo (.ref (wAd w (2, j, p, 0)) :: st) := by
  subst e
  exact r_get C F7 3 (2, j, p, 0) hok rfl (by decide) hlink rfl hd kk
theorem op_2_3 (C : gC w X cc own ret d nL) (hX : ∀ i, wOk w i → okX i) {j p : Nat} (hi : okX (2, j, p, 0)) (hfr : wFr w (2, j, p, 0)) {g : HV} (e : Ω.1 j p = g) {idx : Nat} (hlink : Cond.fieldLink own idx "HedgeMessages$PostedMessages" "count" "I" ∈ lw_tbl) (hd : decode cc pc = .ok (.putfield idx, 3)) {x : Int32} (e2 : sP Ω j p (sS g 3 x) = Ω') (kk : gU w X Q (cA w Ω') (pc + 3) lo st) : gU w X Q (cA w Ω) pc lo (.int x :: .ref (wAd w (2, j, p, 0)) :: st) := by
  subst e
  subst e2
  exact r_put C F7 3 (2, j, p, 0) hfr rfl (by decide) hlink rfl (vp_nar_int x) rfl (Nat.le_of_ble_eq_true rfl) hd (fun q hq => putS (k := 2) (s := up (Ω.1 j p).1 3 x) (by unfold isOb; omega) hi q (hX q hq)) kk
theorem ogN_2_3 (C : gC w X cc own ret d nL) {j p : Nat} (hok : wOk w (2, j, p, 0)) {g : HV} (e : Ω.1 j p = g) {idx : Nat} {host : String} (hlink : Cond.fieldLinkNest own idx "HedgeMessages$PostedMessages" "count" "I" host ∈ lw_tbl) (hd : decode cc pc = .ok (.getfield idx, 3)) (kk : gU w X Q (cA w Ω) (pc + 3) lo (.int (g.1 3) :: st)) : gU w X Q (cA w Ω) pc lo (.ref (wAd w (2, j, p, 0)) :: st) := by
  subst e
  exact r_getN C F7 3 (2, j, p, 0) hok rfl (by decide) hlink rfl hd kk
theorem opN_2_3 (C : gC w X cc own ret d nL) (hX : ∀ i, wOk w i → okX i) {j p : Nat} (hi : okX (2, j, p, 0)) (hfr : wFr w (2, j, p, 0)) {g : HV} (e : Ω.1 j p = g) {idx : Nat} {host : String} (hlink : Cond.fieldLinkNest own idx "HedgeMessages$PostedMessages" "count" "I" host ∈ lw_tbl) (hd : decode cc pc = .ok (.putfield idx, 3)) {x : Int32} (e2 : sP Ω j p (sS g 3 x) = Ω') (kk : gU w X Q (cA w Ω') (pc + 3) lo st) : gU w X Q (cA w Ω) pc lo (.int x :: .ref (wAd w (2, j, p, 0)) :: st) := by
  subst e
  subst e2
  exact r_putN C F7 3 (2, j, p, 0) hfr rfl (by decide) hlink rfl (vp_nar_int x) rfl (Nat.le_of_ble_eq_true rfl) hd (fun q hq => putS (k := 2) (s := up (Ω.1 j p).1 3 x) (by unfold isOb; omega) hi q (hX q hq)) kk
theorem og_3_0 (C : gC w X cc own ret d nL) {j p a : Nat} (hok : wOk w (3, j, p, a)) {idx : Nat} (hlink : Cond.fieldLink own idx "HedgeMessages$Row" "cells" "[I" ∈ lw_tbl) (hd : decode cc pc = .ok (.getfield idx, 3)) (kk : gU w X Q (cA w Ω) (pc + 3) lo (.ref (wAd w (4, j, p, a)) :: st)) : gU w X Q (cA w Ω) pc lo (.ref (wAd w (3, j, p, a)) :: st) :=
  r_get C F8 0 (3, j, p, a) hok rfl (by decide) hlink rfl hd kk
theorem ogN_3_0 (C : gC w X cc own ret d nL) {j p a : Nat} (hok : wOk w (3, j, p, a)) {idx : Nat} {host : String} (hlink : Cond.fieldLinkNest own idx "HedgeMessages$Row" "cells" "[I" host ∈ lw_tbl) (hd : decode cc pc = .ok (.getfield idx, 3)) (kk : gU w X Q (cA w Ω) (pc + 3) lo (.ref (wAd w (4, j, p, a)) :: st)) : gU w X Q (cA w Ω) pc lo (.ref (wAd w (3, j, p, a)) :: st) :=
  r_getN C F8 0 (3, j, p, a) hok rfl (by decide) hlink rfl hd kk
theorem og_5_0 (C : gC w X cc own ret d nL) {j p : Nat} (hok : wOk w (5, j, p, 0)) {idx : Nat} (hlink : Cond.fieldLink own idx "HedgeMessages$Text" "bytes" "LHedgeMessages$Row;" ∈ lw_tbl) (hd : decode cc pc = .ok (.getfield idx, 3)) (kk : gU w X Q (cA w Ω) (pc + 3) lo (.ref (wAd w (3, j, p, 0)) :: st)) : gU w X Q (cA w Ω) pc lo (.ref (wAd w (5, j, p, 0)) :: st) :=
  r_get C F9 0 (5, j, p, 0) hok rfl (by decide) hlink rfl hd kk
theorem ogN_5_0 (C : gC w X cc own ret d nL) {j p : Nat} (hok : wOk w (5, j, p, 0)) {idx : Nat} {host : String} (hlink : Cond.fieldLinkNest own idx "HedgeMessages$Text" "bytes" "LHedgeMessages$Row;" host ∈ lw_tbl) (hd : decode cc pc = .ok (.getfield idx, 3)) (kk : gU w X Q (cA w Ω) (pc + 3) lo (.ref (wAd w (3, j, p, 0)) :: st)) : gU w X Q (cA w Ω) pc lo (.ref (wAd w (5, j, p, 0)) :: st) :=
  r_getN C F9 0 (5, j, p, 0) hok rfl (by decide) hlink rfl hd kk
theorem og_5_1 (C : gC w X cc own ret d nL) {j p : Nat} (hok : wOk w (5, j, p, 0)) {g : HV} (e : Ω.1 j p = g) {idx : Nat} (hlink : Cond.fieldLink own idx "HedgeMessages$Text" "length" "I" ∈ lw_tbl) (hd : decode cc pc = .ok (.getfield idx, 3)) (kk : gU w X Q (cA w Ω) (pc + 3) lo (.int (g.1 1) :: st)) : gU w X Q (cA w Ω) pc lo (.ref (wAd w (5, j, p, 0)) :: st) := by
  subst e
  exact r_get C F9 1 (5, j, p, 0) hok rfl (by decide) hlink rfl hd kk
theorem op_5_1 (C : gC w X cc own ret d nL) (hX : ∀ i, wOk w i → okX i) {j p : Nat} (hi : okX (5, j, p, 0)) (hfr : wFr w (5, j, p, 0)) {g : HV} (e : Ω.1 j p = g) {idx : Nat} (hlink : Cond.fieldLink own idx "HedgeMessages$Text" "length" "I" ∈ lw_tbl) (hd : decode cc pc = .ok (.putfield idx, 3)) {x : Int32} (e2 : sP Ω j p (sS g 1 x) = Ω') (kk : gU w X Q (cA w Ω') (pc + 3) lo st) : gU w X Q (cA w Ω) pc lo (.int x :: .ref (wAd w (5, j, p, 0)) :: st) := by
  subst e
  subst e2
  exact r_put C F9 1 (5, j, p, 0) hfr rfl (by decide) hlink rfl (vp_nar_int x) rfl (Nat.le_of_ble_eq_true rfl) hd (fun q hq => putS (k := 5) (s := up (Ω.1 j p).1 1 x) (by unfold isOb; omega) hi q (hX q hq)) kk
theorem ogN_5_1 (C : gC w X cc own ret d nL) {j p : Nat} (hok : wOk w (5, j, p, 0)) {g : HV} (e : Ω.1 j p = g) {idx : Nat} {host : String} (hlink : Cond.fieldLinkNest own idx "HedgeMessages$Text" "length" "I" host ∈ lw_tbl) (hd : decode cc pc = .ok (.getfield idx, 3)) (kk : gU w X Q (cA w Ω) (pc + 3) lo (.int (g.1 1) :: st)) : gU w X Q (cA w Ω) pc lo (.ref (wAd w (5, j, p, 0)) :: st) := by
  subst e
  exact r_getN C F9 1 (5, j, p, 0) hok rfl (by decide) hlink rfl hd kk
theorem opN_5_1 (C : gC w X cc own ret d nL) (hX : ∀ i, wOk w i → okX i) {j p : Nat} (hi : okX (5, j, p, 0)) (hfr : wFr w (5, j, p, 0)) {g : HV} (e : Ω.1 j p = g) {idx : Nat} {host : String} (hlink : Cond.fieldLinkNest own idx "HedgeMessages$Text" "length" "I" host ∈ lw_tbl) (hd : decode cc pc = .ok (.putfield idx, 3)) {x : Int32} (e2 : sP Ω j p (sS g 1 x) = Ω') (kk : gU w X Q (cA w Ω') (pc + 3) lo st) : gU w X Q (cA w Ω) pc lo (.int x :: .ref (wAd w (5, j, p, 0)) :: st) := by
  subst e
  subst e2
  exact r_putN C F9 1 (5, j, p, 0) hfr rfl (by decide) hlink rfl (vp_nar_int x) rfl (Nat.le_of_ble_eq_true rfl) hd (fun q hq => putS (k := 5) (s := up (Ω.1 j p).1 1 x) (by unfold isOb; omega) hi q (hX q hq)) kk
theorem og_5_2 (C : gC w X cc own ret d nL) {j p : Nat} (hok : wOk w (5, j, p, 0)) {g : HV} (e : Ω.1 j p = g) {idx : Nat} (hlink : Cond.fieldLink own idx "HedgeMessages$Text" "position" "I" ∈ lw_tbl) (hd : decode cc pc = .ok (.getfield idx, 3)) (kk : gU w X Q (cA w Ω) (pc + 3) lo (.int (g.1 2) :: st)) : gU w X Q (cA w Ω) pc lo (.ref (wAd w (5, j, p, 0)) :: st) := by
  subst e
  exact r_get C F9 2 (5, j, p, 0) hok rfl (by decide) hlink rfl hd kk
theorem op_5_2 (C : gC w X cc own ret d nL) (hX : ∀ i, wOk w i → okX i) {j p : Nat} (hi : okX (5, j, p, 0)) (hfr : wFr w (5, j, p, 0)) {g : HV} (e : Ω.1 j p = g) {idx : Nat} (hlink : Cond.fieldLink own idx "HedgeMessages$Text" "position" "I" ∈ lw_tbl) (hd : decode cc pc = .ok (.putfield idx, 3)) {x : Int32} (e2 : sP Ω j p (sS g 2 x) = Ω') (kk : gU w X Q (cA w Ω') (pc + 3) lo st) : gU w X Q (cA w Ω) pc lo (.int x :: .ref (wAd w (5, j, p, 0)) :: st) := by
  subst e
  subst e2
  exact r_put C F9 2 (5, j, p, 0) hfr rfl (by decide) hlink rfl (vp_nar_int x) rfl (Nat.le_of_ble_eq_true rfl) hd (fun q hq => putS (k := 5) (s := up (Ω.1 j p).1 2 x) (by unfold isOb; omega) hi q (hX q hq)) kk
theorem ogN_5_2 (C : gC w X cc own ret d nL) {j p : Nat} (hok : wOk w (5, j, p, 0)) {g : HV} (e : Ω.1 j p = g) {idx : Nat} {host : String} (hlink : Cond.fieldLinkNest own idx "HedgeMessages$Text" "position" "I" host ∈ lw_tbl) (hd : decode cc pc = .ok (.getfield idx, 3)) (kk : gU w X Q (cA w Ω) (pc + 3) lo (.int (g.1 2) :: st)) : gU w X Q (cA w Ω) pc lo (.ref (wAd w (5, j, p, 0)) :: st) := by
  subst e
  exact r_getN C F9 2 (5, j, p, 0) hok rfl (by decide) hlink rfl hd kk
theorem opN_5_2 (C : gC w X cc own ret d nL) (hX : ∀ i, wOk w i → okX i) {j p : Nat} (hi : okX (5, j, p, 0)) (hfr : wFr w (5, j, p, 0)) {g : HV} (e : Ω.1 j p = g) {idx : Nat} {host : String} (hlink : Cond.fieldLinkNest own idx "HedgeMessages$Text" "position" "I" host ∈ lw_tbl) (hd : decode cc pc = .ok (.putfield idx, 3)) {x : Int32} (e2 : sP Ω j p (sS g 2 x) = Ω') (kk : gU w X Q (cA w Ω') (pc + 3) lo st) : gU w X Q (cA w Ω) pc lo (.int x :: .ref (wAd w (5, j, p, 0)) :: st) := by
  subst e
  subst e2
  exact r_putN C F9 2 (5, j, p, 0) hfr rfl (by decide) hlink rfl (vp_nar_int x) rfl (Nat.le_of_ble_eq_true rfl) hd (fun q hq => putS (k := 5) (s := up (Ω.1 j p).1 2 x) (by unfold isOb; omega) hi q (hX q hq)) kk
theorem og_5_3 (C : gC w X cc own ret d nL) {j p : Nat} (hok : wOk w (5, j, p, 0)) {g : HV} (e : Ω.1 j p = g) {idx : Nat} (hlink : Cond.fieldLink own idx "HedgeMessages$Text" "kind" "I" ∈ lw_tbl) (hd : decode cc pc = .ok (.getfield idx, 3)) (kk : gU w X Q (cA w Ω) (pc + 3) lo (.int (g.1 3) :: st)) : gU w X Q (cA w Ω) pc lo (.ref (wAd w (5, j, p, 0)) :: st) := by
  subst e
  exact r_get C F9 3 (5, j, p, 0) hok rfl (by decide) hlink rfl hd kk
theorem op_5_3 (C : gC w X cc own ret d nL) (hX : ∀ i, wOk w i → okX i) {j p : Nat} (hi : okX (5, j, p, 0)) (hfr : wFr w (5, j, p, 0)) {g : HV} (e : Ω.1 j p = g) {idx : Nat} (hlink : Cond.fieldLink own idx "HedgeMessages$Text" "kind" "I" ∈ lw_tbl) (hd : decode cc pc = .ok (.putfield idx, 3)) {x : Int32} (e2 : sP Ω j p (sS g 3 x) = Ω') (kk : gU w X Q (cA w Ω') (pc + 3) lo st) : gU w X Q (cA w Ω) pc lo (.int x :: .ref (wAd w (5, j, p, 0)) :: st) := by
  subst e
  subst e2
  exact r_put C F9 3 (5, j, p, 0) hfr rfl (by decide) hlink rfl (vp_nar_int x) rfl (Nat.le_of_ble_eq_true rfl) hd (fun q hq => putS (k := 5) (s := up (Ω.1 j p).1 3 x) (by unfold isOb; omega) hi q (hX q hq)) kk
theorem ogN_5_3 (C : gC w X cc own ret d nL) {j p : Nat} (hok : wOk w (5, j, p, 0)) {g : HV} (e : Ω.1 j p = g) {idx : Nat} {host : String} (hlink : Cond.fieldLinkNest own idx "HedgeMessages$Text" "kind" "I" host ∈ lw_tbl) (hd : decode cc pc = .ok (.getfield idx, 3)) (kk : gU w X Q (cA w Ω) (pc + 3) lo (.int (g.1 3) :: st)) : gU w X Q (cA w Ω) pc lo (.ref (wAd w (5, j, p, 0)) :: st) := by
  subst e
  exact r_getN C F9 3 (5, j, p, 0) hok rfl (by decide) hlink rfl hd kk
theorem opN_5_3 (C : gC w X cc own ret d nL) (hX : ∀ i, wOk w i → okX i) {j p : Nat} (hi : okX (5, j, p, 0)) (hfr : wFr w (5, j, p, 0)) {g : HV} (e : Ω.1 j p = g) {idx : Nat} {host : String} (hlink : Cond.fieldLinkNest own idx "HedgeMessages$Text" "kind" "I" host ∈ lw_tbl) (hd : decode cc pc = .ok (.putfield idx, 3)) {x : Int32} (e2 : sP Ω j p (sS g 3 x) = Ω') (kk : gU w X Q (cA w Ω') (pc + 3) lo st) : gU w X Q (cA w Ω) pc lo (.int x :: .ref (wAd w (5, j, p, 0)) :: st) := by
  subst e
  subst e2
  exact r_putN C F9 3 (5, j, p, 0) hfr rfl (by decide) hlink rfl (vp_nar_int x) rfl (Nat.le_of_ble_eq_true rfl) hd (fun q hq => putS (k := 5) (s := up (Ω.1 j p).1 3 x) (by unfold isOb; omega) hi q (hX q hq)) kk
theorem og_5_4 (C : gC w X cc own ret d nL) {j p : Nat} (hok : wOk w (5, j, p, 0)) {g : HV} (e : Ω.1 j p = g) {idx : Nat} (hlink : Cond.fieldLink own idx "HedgeMessages$Text" "start" "I" ∈ lw_tbl) (hd : decode cc pc = .ok (.getfield idx, 3)) (kk : gU w X Q (cA w Ω) (pc + 3) lo (.int (g.1 4) :: st)) : gU w X Q (cA w Ω) pc lo (.ref (wAd w (5, j, p, 0)) :: st) := by
  subst e
  exact r_get C F9 4 (5, j, p, 0) hok rfl (by decide) hlink rfl hd kk
theorem op_5_4 (C : gC w X cc own ret d nL) (hX : ∀ i, wOk w i → okX i) {j p : Nat} (hi : okX (5, j, p, 0)) (hfr : wFr w (5, j, p, 0)) {g : HV} (e : Ω.1 j p = g) {idx : Nat} (hlink : Cond.fieldLink own idx "HedgeMessages$Text" "start" "I" ∈ lw_tbl) (hd : decode cc pc = .ok (.putfield idx, 3)) {x : Int32} (e2 : sP Ω j p (sS g 4 x) = Ω') (kk : gU w X Q (cA w Ω') (pc + 3) lo st) : gU w X Q (cA w Ω) pc lo (.int x :: .ref (wAd w (5, j, p, 0)) :: st) := by
  subst e
  subst e2
  exact r_put C F9 4 (5, j, p, 0) hfr rfl (by decide) hlink rfl (vp_nar_int x) rfl (Nat.le_of_ble_eq_true rfl) hd (fun q hq => putS (k := 5) (s := up (Ω.1 j p).1 4 x) (by unfold isOb; omega) hi q (hX q hq)) kk
theorem ogN_5_4 (C : gC w X cc own ret d nL) {j p : Nat} (hok : wOk w (5, j, p, 0)) {g : HV} (e : Ω.1 j p = g) {idx : Nat} {host : String} (hlink : Cond.fieldLinkNest own idx "HedgeMessages$Text" "start" "I" host ∈ lw_tbl) (hd : decode cc pc = .ok (.getfield idx, 3)) (kk : gU w X Q (cA w Ω) (pc + 3) lo (.int (g.1 4) :: st)) : gU w X Q (cA w Ω) pc lo (.ref (wAd w (5, j, p, 0)) :: st) := by
  subst e
  exact r_getN C F9 4 (5, j, p, 0) hok rfl (by decide) hlink rfl hd kk
theorem opN_5_4 (C : gC w X cc own ret d nL) (hX : ∀ i, wOk w i → okX i) {j p : Nat} (hi : okX (5, j, p, 0)) (hfr : wFr w (5, j, p, 0)) {g : HV} (e : Ω.1 j p = g) {idx : Nat} {host : String} (hlink : Cond.fieldLinkNest own idx "HedgeMessages$Text" "start" "I" host ∈ lw_tbl) (hd : decode cc pc = .ok (.putfield idx, 3)) {x : Int32} (e2 : sP Ω j p (sS g 4 x) = Ω') (kk : gU w X Q (cA w Ω') (pc + 3) lo st) : gU w X Q (cA w Ω) pc lo (.int x :: .ref (wAd w (5, j, p, 0)) :: st) := by
  subst e
  subst e2
  exact r_putN C F9 4 (5, j, p, 0) hfr rfl (by decide) hlink rfl (vp_nar_int x) rfl (Nat.le_of_ble_eq_true rfl) hd (fun q hq => putS (k := 5) (s := up (Ω.1 j p).1 4 x) (by unfold isOb; omega) hi q (hX q hq)) kk
theorem og_5_5 (C : gC w X cc own ret d nL) {j p : Nat} (hok : wOk w (5, j, p, 0)) {g : HV} (e : Ω.1 j p = g) {idx : Nat} (hlink : Cond.fieldLink own idx "HedgeMessages$Text" "size" "I" ∈ lw_tbl) (hd : decode cc pc = .ok (.getfield idx, 3)) (kk : gU w X Q (cA w Ω) (pc + 3) lo (.int (g.1 5) :: st)) : gU w X Q (cA w Ω) pc lo (.ref (wAd w (5, j, p, 0)) :: st) := by
  subst e
  exact r_get C F9 5 (5, j, p, 0) hok rfl (by decide) hlink rfl hd kk
theorem op_5_5 (C : gC w X cc own ret d nL) (hX : ∀ i, wOk w i → okX i) {j p : Nat} (hi : okX (5, j, p, 0)) (hfr : wFr w (5, j, p, 0)) {g : HV} (e : Ω.1 j p = g) {idx : Nat} (hlink : Cond.fieldLink own idx "HedgeMessages$Text" "size" "I" ∈ lw_tbl) (hd : decode cc pc = .ok (.putfield idx, 3)) {x : Int32} (e2 : sP Ω j p (sS g 5 x) = Ω') (kk : gU w X Q (cA w Ω') (pc + 3) lo st) : gU w X Q (cA w Ω) pc lo (.int x :: .ref (wAd w (5, j, p, 0)) :: st) := by
  subst e
  subst e2
  exact r_put C F9 5 (5, j, p, 0) hfr rfl (by decide) hlink rfl (vp_nar_int x) rfl (Nat.le_of_ble_eq_true rfl) hd (fun q hq => putS (k := 5) (s := up (Ω.1 j p).1 5 x) (by unfold isOb; omega) hi q (hX q hq)) kk
theorem ogN_5_5 (C : gC w X cc own ret d nL) {j p : Nat} (hok : wOk w (5, j, p, 0)) {g : HV} (e : Ω.1 j p = g) {idx : Nat} {host : String} (hlink : Cond.fieldLinkNest own idx "HedgeMessages$Text" "size" "I" host ∈ lw_tbl) (hd : decode cc pc = .ok (.getfield idx, 3)) (kk : gU w X Q (cA w Ω) (pc + 3) lo (.int (g.1 5) :: st)) : gU w X Q (cA w Ω) pc lo (.ref (wAd w (5, j, p, 0)) :: st) := by
  subst e
  exact r_getN C F9 5 (5, j, p, 0) hok rfl (by decide) hlink rfl hd kk
theorem opN_5_5 (C : gC w X cc own ret d nL) (hX : ∀ i, wOk w i → okX i) {j p : Nat} (hi : okX (5, j, p, 0)) (hfr : wFr w (5, j, p, 0)) {g : HV} (e : Ω.1 j p = g) {idx : Nat} {host : String} (hlink : Cond.fieldLinkNest own idx "HedgeMessages$Text" "size" "I" host ∈ lw_tbl) (hd : decode cc pc = .ok (.putfield idx, 3)) {x : Int32} (e2 : sP Ω j p (sS g 5 x) = Ω') (kk : gU w X Q (cA w Ω') (pc + 3) lo st) : gU w X Q (cA w Ω) pc lo (.int x :: .ref (wAd w (5, j, p, 0)) :: st) := by
  subst e
  subst e2
  exact r_putN C F9 5 (5, j, p, 0) hfr rfl (by decide) hlink rfl (vp_nar_int x) rfl (Nat.le_of_ble_eq_true rfl) hd (fun q hq => putS (k := 5) (s := up (Ω.1 j p).1 5 x) (by unfold isOb; omega) hi q (hX q hq)) kk
theorem og_5_6 (C : gC w X cc own ret d nL) {j p : Nat} (hok : wOk w (5, j, p, 0)) {g : HV} (e : Ω.1 j p = g) {idx : Nat} (hlink : Cond.fieldLink own idx "HedgeMessages$Text" "value" "I" ∈ lw_tbl) (hd : decode cc pc = .ok (.getfield idx, 3)) (kk : gU w X Q (cA w Ω) (pc + 3) lo (.int (g.1 6) :: st)) : gU w X Q (cA w Ω) pc lo (.ref (wAd w (5, j, p, 0)) :: st) := by
  subst e
  exact r_get C F9 6 (5, j, p, 0) hok rfl (by decide) hlink rfl hd kk
theorem op_5_6 (C : gC w X cc own ret d nL) (hX : ∀ i, wOk w i → okX i) {j p : Nat} (hi : okX (5, j, p, 0)) (hfr : wFr w (5, j, p, 0)) {g : HV} (e : Ω.1 j p = g) {idx : Nat} (hlink : Cond.fieldLink own idx "HedgeMessages$Text" "value" "I" ∈ lw_tbl) (hd : decode cc pc = .ok (.putfield idx, 3)) {x : Int32} (e2 : sP Ω j p (sS g 6 x) = Ω') (kk : gU w X Q (cA w Ω') (pc + 3) lo st) : gU w X Q (cA w Ω) pc lo (.int x :: .ref (wAd w (5, j, p, 0)) :: st) := by
  subst e
  subst e2
  exact r_put C F9 6 (5, j, p, 0) hfr rfl (by decide) hlink rfl (vp_nar_int x) rfl (Nat.le_of_ble_eq_true rfl) hd (fun q hq => putS (k := 5) (s := up (Ω.1 j p).1 6 x) (by unfold isOb; omega) hi q (hX q hq)) kk
theorem ogN_5_6 (C : gC w X cc own ret d nL) {j p : Nat} (hok : wOk w (5, j, p, 0)) {g : HV} (e : Ω.1 j p = g) {idx : Nat} {host : String} (hlink : Cond.fieldLinkNest own idx "HedgeMessages$Text" "value" "I" host ∈ lw_tbl) (hd : decode cc pc = .ok (.getfield idx, 3)) (kk : gU w X Q (cA w Ω) (pc + 3) lo (.int (g.1 6) :: st)) : gU w X Q (cA w Ω) pc lo (.ref (wAd w (5, j, p, 0)) :: st) := by
  subst e
  exact r_getN C F9 6 (5, j, p, 0) hok rfl (by decide) hlink rfl hd kk
theorem opN_5_6 (C : gC w X cc own ret d nL) (hX : ∀ i, wOk w i → okX i) {j p : Nat} (hi : okX (5, j, p, 0)) (hfr : wFr w (5, j, p, 0)) {g : HV} (e : Ω.1 j p = g) {idx : Nat} {host : String} (hlink : Cond.fieldLinkNest own idx "HedgeMessages$Text" "value" "I" host ∈ lw_tbl) (hd : decode cc pc = .ok (.putfield idx, 3)) {x : Int32} (e2 : sP Ω j p (sS g 6 x) = Ω') (kk : gU w X Q (cA w Ω') (pc + 3) lo st) : gU w X Q (cA w Ω) pc lo (.int x :: .ref (wAd w (5, j, p, 0)) :: st) := by
  subst e
  subst e2
  exact r_putN C F9 6 (5, j, p, 0) hfr rfl (by decide) hlink rfl (vp_nar_int x) rfl (Nat.le_of_ble_eq_true rfl) hd (fun q hq => putS (k := 5) (s := up (Ω.1 j p).1 6 x) (by unfold isOb; omega) hi q (hX q hq)) kk
theorem og_5_7 (C : gC w X cc own ret d nL) {j p : Nat} (hok : wOk w (5, j, p, 0)) {g : HV} (e : Ω.1 j p = g) {idx : Nat} (hlink : Cond.fieldLink own idx "HedgeMessages$Text" "errorCode" "I" ∈ lw_tbl) (hd : decode cc pc = .ok (.getfield idx, 3)) (kk : gU w X Q (cA w Ω) (pc + 3) lo (.int (g.1 7) :: st)) : gU w X Q (cA w Ω) pc lo (.ref (wAd w (5, j, p, 0)) :: st) := by
  subst e
  exact r_get C F9 7 (5, j, p, 0) hok rfl (by decide) hlink rfl hd kk
theorem op_5_7 (C : gC w X cc own ret d nL) (hX : ∀ i, wOk w i → okX i) {j p : Nat} (hi : okX (5, j, p, 0)) (hfr : wFr w (5, j, p, 0)) {g : HV} (e : Ω.1 j p = g) {idx : Nat} (hlink : Cond.fieldLink own idx "HedgeMessages$Text" "errorCode" "I" ∈ lw_tbl) (hd : decode cc pc = .ok (.putfield idx, 3)) {x : Int32} (e2 : sP Ω j p (sS g 7 x) = Ω') (kk : gU w X Q (cA w Ω') (pc + 3) lo st) : gU w X Q (cA w Ω) pc lo (.int x :: .ref (wAd w (5, j, p, 0)) :: st) := by
  subst e
  subst e2
  exact r_put C F9 7 (5, j, p, 0) hfr rfl (by decide) hlink rfl (vp_nar_int x) rfl (Nat.le_of_ble_eq_true rfl) hd (fun q hq => putS (k := 5) (s := up (Ω.1 j p).1 7 x) (by unfold isOb; omega) hi q (hX q hq)) kk
theorem ogN_5_7 (C : gC w X cc own ret d nL) {j p : Nat} (hok : wOk w (5, j, p, 0)) {g : HV} (e : Ω.1 j p = g) {idx : Nat} {host : String} (hlink : Cond.fieldLinkNest own idx "HedgeMessages$Text" "errorCode" "I" host ∈ lw_tbl) (hd : decode cc pc = .ok (.getfield idx, 3)) (kk : gU w X Q (cA w Ω) (pc + 3) lo (.int (g.1 7) :: st)) : gU w X Q (cA w Ω) pc lo (.ref (wAd w (5, j, p, 0)) :: st) := by
  subst e
  exact r_getN C F9 7 (5, j, p, 0) hok rfl (by decide) hlink rfl hd kk
theorem opN_5_7 (C : gC w X cc own ret d nL) (hX : ∀ i, wOk w i → okX i) {j p : Nat} (hi : okX (5, j, p, 0)) (hfr : wFr w (5, j, p, 0)) {g : HV} (e : Ω.1 j p = g) {idx : Nat} {host : String} (hlink : Cond.fieldLinkNest own idx "HedgeMessages$Text" "errorCode" "I" host ∈ lw_tbl) (hd : decode cc pc = .ok (.putfield idx, 3)) {x : Int32} (e2 : sP Ω j p (sS g 7 x) = Ω') (kk : gU w X Q (cA w Ω') (pc + 3) lo st) : gU w X Q (cA w Ω) pc lo (.int x :: .ref (wAd w (5, j, p, 0)) :: st) := by
  subst e
  subst e2
  exact r_putN C F9 7 (5, j, p, 0) hfr rfl (by decide) hlink rfl (vp_nar_int x) rfl (Nat.le_of_ble_eq_true rfl) hd (fun q hq => putS (k := 5) (s := up (Ω.1 j p).1 7 x) (by unfold isOb; omega) hi q (hX q hq)) kk
theorem og_5_8 (C : gC w X cc own ret d nL) {j p : Nat} (hok : wOk w (5, j, p, 0)) {g : HV} (e : Ω.1 j p = g) {idx : Nat} (hlink : Cond.fieldLink own idx "HedgeMessages$Text" "errorPosition" "I" ∈ lw_tbl) (hd : decode cc pc = .ok (.getfield idx, 3)) (kk : gU w X Q (cA w Ω) (pc + 3) lo (.int (g.1 8) :: st)) : gU w X Q (cA w Ω) pc lo (.ref (wAd w (5, j, p, 0)) :: st) := by
  subst e
  exact r_get C F9 8 (5, j, p, 0) hok rfl (by decide) hlink rfl hd kk
theorem op_5_8 (C : gC w X cc own ret d nL) (hX : ∀ i, wOk w i → okX i) {j p : Nat} (hi : okX (5, j, p, 0)) (hfr : wFr w (5, j, p, 0)) {g : HV} (e : Ω.1 j p = g) {idx : Nat} (hlink : Cond.fieldLink own idx "HedgeMessages$Text" "errorPosition" "I" ∈ lw_tbl) (hd : decode cc pc = .ok (.putfield idx, 3)) {x : Int32} (e2 : sP Ω j p (sS g 8 x) = Ω') (kk : gU w X Q (cA w Ω') (pc + 3) lo st) : gU w X Q (cA w Ω) pc lo (.int x :: .ref (wAd w (5, j, p, 0)) :: st) := by
  subst e
  subst e2
  exact r_put C F9 8 (5, j, p, 0) hfr rfl (by decide) hlink rfl (vp_nar_int x) rfl (Nat.le_of_ble_eq_true rfl) hd (fun q hq => putS (k := 5) (s := up (Ω.1 j p).1 8 x) (by unfold isOb; omega) hi q (hX q hq)) kk
theorem ogN_5_8 (C : gC w X cc own ret d nL) {j p : Nat} (hok : wOk w (5, j, p, 0)) {g : HV} (e : Ω.1 j p = g) {idx : Nat} {host : String} (hlink : Cond.fieldLinkNest own idx "HedgeMessages$Text" "errorPosition" "I" host ∈ lw_tbl) (hd : decode cc pc = .ok (.getfield idx, 3)) (kk : gU w X Q (cA w Ω) (pc + 3) lo (.int (g.1 8) :: st)) : gU w X Q (cA w Ω) pc lo (.ref (wAd w (5, j, p, 0)) :: st) := by
  subst e
  exact r_getN C F9 8 (5, j, p, 0) hok rfl (by decide) hlink rfl hd kk
theorem opN_5_8 (C : gC w X cc own ret d nL) (hX : ∀ i, wOk w i → okX i) {j p : Nat} (hi : okX (5, j, p, 0)) (hfr : wFr w (5, j, p, 0)) {g : HV} (e : Ω.1 j p = g) {idx : Nat} {host : String} (hlink : Cond.fieldLinkNest own idx "HedgeMessages$Text" "errorPosition" "I" host ∈ lw_tbl) (hd : decode cc pc = .ok (.putfield idx, 3)) {x : Int32} (e2 : sP Ω j p (sS g 8 x) = Ω') (kk : gU w X Q (cA w Ω') (pc + 3) lo st) : gU w X Q (cA w Ω) pc lo (.int x :: .ref (wAd w (5, j, p, 0)) :: st) := by
  subst e
  subst e2
  exact r_putN C F9 8 (5, j, p, 0) hfr rfl (by decide) hlink rfl (vp_nar_int x) rfl (Nat.le_of_ble_eq_true rfl) hd (fun q hq => putS (k := 5) (s := up (Ω.1 j p).1 8 x) (by unfold isOb; omega) hi q (hX q hq)) kk
theorem og_6_0 (C : gC w X cc own ret d nL) {j p : Nat} (hok : wOk w (6, j, p, 0)) {idx : Nat} (hlink : Cond.fieldLink own idx "HedgeMessages$CommandList" "forms" "[LHedgeMessages$CommandForm;" ∈ lw_tbl) (hd : decode cc pc = .ok (.getfield idx, 3)) (kk : gU w X Q (cA w Ω) (pc + 3) lo (.ref (wAd w (10, j, p, 0)) :: st)) : gU w X Q (cA w Ω) pc lo (.ref (wAd w (6, j, p, 0)) :: st) :=
  r_get C F2 0 (6, j, p, 0) hok rfl (by decide) hlink rfl hd kk
theorem ogN_6_0 (C : gC w X cc own ret d nL) {j p : Nat} (hok : wOk w (6, j, p, 0)) {idx : Nat} {host : String} (hlink : Cond.fieldLinkNest own idx "HedgeMessages$CommandList" "forms" "[LHedgeMessages$CommandForm;" host ∈ lw_tbl) (hd : decode cc pc = .ok (.getfield idx, 3)) (kk : gU w X Q (cA w Ω) (pc + 3) lo (.ref (wAd w (10, j, p, 0)) :: st)) : gU w X Q (cA w Ω) pc lo (.ref (wAd w (6, j, p, 0)) :: st) :=
  r_getN C F2 0 (6, j, p, 0) hok rfl (by decide) hlink rfl hd kk
theorem og_6_1 (C : gC w X cc own ret d nL) {j p : Nat} (hok : wOk w (6, j, p, 0)) {idx : Nat} (hlink : Cond.fieldLink own idx "HedgeMessages$CommandList" "arguments" "LHedgeMessages$Row;" ∈ lw_tbl) (hd : decode cc pc = .ok (.getfield idx, 3)) (kk : gU w X Q (cA w Ω) (pc + 3) lo (.ref (wAd w (3, j, p, 1)) :: st)) : gU w X Q (cA w Ω) pc lo (.ref (wAd w (6, j, p, 0)) :: st) :=
  r_get C F2 1 (6, j, p, 0) hok rfl (by decide) hlink rfl hd kk
theorem ogN_6_1 (C : gC w X cc own ret d nL) {j p : Nat} (hok : wOk w (6, j, p, 0)) {idx : Nat} {host : String} (hlink : Cond.fieldLinkNest own idx "HedgeMessages$CommandList" "arguments" "LHedgeMessages$Row;" host ∈ lw_tbl) (hd : decode cc pc = .ok (.getfield idx, 3)) (kk : gU w X Q (cA w Ω) (pc + 3) lo (.ref (wAd w (3, j, p, 1)) :: st)) : gU w X Q (cA w Ω) pc lo (.ref (wAd w (6, j, p, 0)) :: st) :=
  r_getN C F2 1 (6, j, p, 0) hok rfl (by decide) hlink rfl hd kk
theorem og_6_2 (C : gC w X cc own ret d nL) {j p : Nat} (hok : wOk w (6, j, p, 0)) {idx : Nat} (hlink : Cond.fieldLink own idx "HedgeMessages$CommandList" "seconds" "LHedgeMessages$Row;" ∈ lw_tbl) (hd : decode cc pc = .ok (.getfield idx, 3)) (kk : gU w X Q (cA w Ω) (pc + 3) lo (.ref (wAd w (3, j, p, 2)) :: st)) : gU w X Q (cA w Ω) pc lo (.ref (wAd w (6, j, p, 0)) :: st) :=
  r_get C F2 2 (6, j, p, 0) hok rfl (by decide) hlink rfl hd kk
theorem ogN_6_2 (C : gC w X cc own ret d nL) {j p : Nat} (hok : wOk w (6, j, p, 0)) {idx : Nat} {host : String} (hlink : Cond.fieldLinkNest own idx "HedgeMessages$CommandList" "seconds" "LHedgeMessages$Row;" host ∈ lw_tbl) (hd : decode cc pc = .ok (.getfield idx, 3)) (kk : gU w X Q (cA w Ω) (pc + 3) lo (.ref (wAd w (3, j, p, 2)) :: st)) : gU w X Q (cA w Ω) pc lo (.ref (wAd w (6, j, p, 0)) :: st) :=
  r_getN C F2 2 (6, j, p, 0) hok rfl (by decide) hlink rfl hd kk
theorem og_6_3 (C : gC w X cc own ret d nL) {j p : Nat} (hok : wOk w (6, j, p, 0)) {idx : Nat} (hlink : Cond.fieldLink own idx "HedgeMessages$CommandList" "wordLengths" "LHedgeMessages$Row;" ∈ lw_tbl) (hd : decode cc pc = .ok (.getfield idx, 3)) (kk : gU w X Q (cA w Ω) (pc + 3) lo (.ref (wAd w (3, j, p, 3)) :: st)) : gU w X Q (cA w Ω) pc lo (.ref (wAd w (6, j, p, 0)) :: st) :=
  r_get C F2 3 (6, j, p, 0) hok rfl (by decide) hlink rfl hd kk
theorem ogN_6_3 (C : gC w X cc own ret d nL) {j p : Nat} (hok : wOk w (6, j, p, 0)) {idx : Nat} {host : String} (hlink : Cond.fieldLinkNest own idx "HedgeMessages$CommandList" "wordLengths" "LHedgeMessages$Row;" host ∈ lw_tbl) (hd : decode cc pc = .ok (.getfield idx, 3)) (kk : gU w X Q (cA w Ω) (pc + 3) lo (.ref (wAd w (3, j, p, 3)) :: st)) : gU w X Q (cA w Ω) pc lo (.ref (wAd w (6, j, p, 0)) :: st) :=
  r_getN C F2 3 (6, j, p, 0) hok rfl (by decide) hlink rfl hd kk
theorem og_6_4 (C : gC w X cc own ret d nL) {j p : Nat} (hok : wOk w (6, j, p, 0)) {g : HV} (e : Ω.1 j p = g) {idx : Nat} (hlink : Cond.fieldLink own idx "HedgeMessages$CommandList" "count" "I" ∈ lw_tbl) (hd : decode cc pc = .ok (.getfield idx, 3)) (kk : gU w X Q (cA w Ω) (pc + 3) lo (.int (g.1 4) :: st)) : gU w X Q (cA w Ω) pc lo (.ref (wAd w (6, j, p, 0)) :: st) := by
  subst e
  exact r_get C F2 4 (6, j, p, 0) hok rfl (by decide) hlink rfl hd kk
theorem op_6_4 (C : gC w X cc own ret d nL) (hX : ∀ i, wOk w i → okX i) {j p : Nat} (hi : okX (6, j, p, 0)) (hfr : wFr w (6, j, p, 0)) {g : HV} (e : Ω.1 j p = g) {idx : Nat} (hlink : Cond.fieldLink own idx "HedgeMessages$CommandList" "count" "I" ∈ lw_tbl) (hd : decode cc pc = .ok (.putfield idx, 3)) {x : Int32} (e2 : sP Ω j p (sS g 4 x) = Ω') (kk : gU w X Q (cA w Ω') (pc + 3) lo st) : gU w X Q (cA w Ω) pc lo (.int x :: .ref (wAd w (6, j, p, 0)) :: st) := by
  subst e
  subst e2
  exact r_put C F2 4 (6, j, p, 0) hfr rfl (by decide) hlink rfl (vp_nar_int x) rfl (Nat.le_of_ble_eq_true rfl) hd (fun q hq => putS (k := 6) (s := up (Ω.1 j p).1 4 x) (by unfold isOb; omega) hi q (hX q hq)) kk
theorem ogN_6_4 (C : gC w X cc own ret d nL) {j p : Nat} (hok : wOk w (6, j, p, 0)) {g : HV} (e : Ω.1 j p = g) {idx : Nat} {host : String} (hlink : Cond.fieldLinkNest own idx "HedgeMessages$CommandList" "count" "I" host ∈ lw_tbl) (hd : decode cc pc = .ok (.getfield idx, 3)) (kk : gU w X Q (cA w Ω) (pc + 3) lo (.int (g.1 4) :: st)) : gU w X Q (cA w Ω) pc lo (.ref (wAd w (6, j, p, 0)) :: st) := by
  subst e
  exact r_getN C F2 4 (6, j, p, 0) hok rfl (by decide) hlink rfl hd kk
theorem opN_6_4 (C : gC w X cc own ret d nL) (hX : ∀ i, wOk w i → okX i) {j p : Nat} (hi : okX (6, j, p, 0)) (hfr : wFr w (6, j, p, 0)) {g : HV} (e : Ω.1 j p = g) {idx : Nat} {host : String} (hlink : Cond.fieldLinkNest own idx "HedgeMessages$CommandList" "count" "I" host ∈ lw_tbl) (hd : decode cc pc = .ok (.putfield idx, 3)) {x : Int32} (e2 : sP Ω j p (sS g 4 x) = Ω') (kk : gU w X Q (cA w Ω') (pc + 3) lo st) : gU w X Q (cA w Ω) pc lo (.int x :: .ref (wAd w (6, j, p, 0)) :: st) := by
  subst e
  subst e2
  exact r_putN C F2 4 (6, j, p, 0) hfr rfl (by decide) hlink rfl (vp_nar_int x) rfl (Nat.le_of_ble_eq_true rfl) hd (fun q hq => putS (k := 6) (s := up (Ω.1 j p).1 4 x) (by unfold isOb; omega) hi q (hX q hq)) kk
theorem og_7_0 (C : gC w X cc own ret d nL) {j p : Nat} (hok : wOk w (7, j, p, 0)) {idx : Nat} (hlink : Cond.fieldLink own idx "HedgeMessages" "hedge" "LHedgeMessages$Hedge;" ∈ lw_tbl) (hd : decode cc pc = .ok (.getfield idx, 3)) (kk : gU w X Q (cA w Ω) (pc + 3) lo (.ref (wAd w (0, 0, 0, 0)) :: st)) : gU w X Q (cA w Ω) pc lo (.ref (wAd w (7, j, p, 0)) :: st) :=
  r_get C F10 0 (7, j, p, 0) hok rfl (by decide) hlink rfl hd kk
theorem ogN_7_0 (C : gC w X cc own ret d nL) {j p : Nat} (hok : wOk w (7, j, p, 0)) {idx : Nat} {host : String} (hlink : Cond.fieldLinkNest own idx "HedgeMessages" "hedge" "LHedgeMessages$Hedge;" host ∈ lw_tbl) (hd : decode cc pc = .ok (.getfield idx, 3)) (kk : gU w X Q (cA w Ω) (pc + 3) lo (.ref (wAd w (0, 0, 0, 0)) :: st)) : gU w X Q (cA w Ω) pc lo (.ref (wAd w (7, j, p, 0)) :: st) :=
  r_getN C F10 0 (7, j, p, 0) hok rfl (by decide) hlink rfl hd kk
theorem og_7_1 (C : gC w X cc own ret d nL) {j p : Nat} (hok : wOk w (7, j, p, 0)) {idx : Nat} (hlink : Cond.fieldLink own idx "HedgeMessages" "scratch" "LHedgeMessages$Hedge;" ∈ lw_tbl) (hd : decode cc pc = .ok (.getfield idx, 3)) (kk : gU w X Q (cA w Ω) (pc + 3) lo (.ref (wAd w (0, 1, 0, 0)) :: st)) : gU w X Q (cA w Ω) pc lo (.ref (wAd w (7, j, p, 0)) :: st) :=
  r_get C F10 1 (7, j, p, 0) hok rfl (by decide) hlink rfl hd kk
theorem ogN_7_1 (C : gC w X cc own ret d nL) {j p : Nat} (hok : wOk w (7, j, p, 0)) {idx : Nat} {host : String} (hlink : Cond.fieldLinkNest own idx "HedgeMessages" "scratch" "LHedgeMessages$Hedge;" host ∈ lw_tbl) (hd : decode cc pc = .ok (.getfield idx, 3)) (kk : gU w X Q (cA w Ω) (pc + 3) lo (.ref (wAd w (0, 1, 0, 0)) :: st)) : gU w X Q (cA w Ω) pc lo (.ref (wAd w (7, j, p, 0)) :: st) :=
  r_getN C F10 1 (7, j, p, 0) hok rfl (by decide) hlink rfl hd kk
theorem og_7_2 (C : gC w X cc own ret d nL) {j p : Nat} (hok : wOk w (7, j, p, 0)) {idx : Nat} (hlink : Cond.fieldLink own idx "HedgeMessages" "saved" "LHedgeMessages$Hedge;" ∈ lw_tbl) (hd : decode cc pc = .ok (.getfield idx, 3)) (kk : gU w X Q (cA w Ω) (pc + 3) lo (.ref (wAd w (0, 2, 0, 0)) :: st)) : gU w X Q (cA w Ω) pc lo (.ref (wAd w (7, j, p, 0)) :: st) :=
  r_get C F10 2 (7, j, p, 0) hok rfl (by decide) hlink rfl hd kk
theorem ogN_7_2 (C : gC w X cc own ret d nL) {j p : Nat} (hok : wOk w (7, j, p, 0)) {idx : Nat} {host : String} (hlink : Cond.fieldLinkNest own idx "HedgeMessages" "saved" "LHedgeMessages$Hedge;" host ∈ lw_tbl) (hd : decode cc pc = .ok (.getfield idx, 3)) (kk : gU w X Q (cA w Ω) (pc + 3) lo (.ref (wAd w (0, 2, 0, 0)) :: st)) : gU w X Q (cA w Ω) pc lo (.ref (wAd w (7, j, p, 0)) :: st) :=
  r_getN C F10 2 (7, j, p, 0) hok rfl (by decide) hlink rfl hd kk
theorem og_7_3 (C : gC w X cc own ret d nL) {j p : Nat} (hok : wOk w (7, j, p, 0)) {g : HV} (e : Ω.1 j p = g) {idx : Nat} (hlink : Cond.fieldLink own idx "HedgeMessages" "hasSaved" "Z" ∈ lw_tbl) (hd : decode cc pc = .ok (.getfield idx, 3)) (kk : gU w X Q (cA w Ω) (pc + 3) lo (.int (g.1 3) :: st)) : gU w X Q (cA w Ω) pc lo (.ref (wAd w (7, j, p, 0)) :: st) := by
  subst e
  exact r_get C F10 3 (7, j, p, 0) hok rfl (by decide) hlink rfl hd kk
theorem op_7_3 (C : gC w X cc own ret d nL) (hX : ∀ i, wOk w i → okX i) {j p : Nat} (hi : okX (7, j, p, 0)) (hfr : wFr w (7, j, p, 0)) {g : HV} (e : Ω.1 j p = g) {idx : Nat} (hlink : Cond.fieldLink own idx "HedgeMessages" "hasSaved" "Z" ∈ lw_tbl) (hd : decode cc pc = .ok (.putfield idx, 3)) {x : Bool} (e2 : sP Ω j p (sS g 3 (b2i x)) = Ω') (kk : gU w X Q (cA w Ω') (pc + 3) lo st) : gU w X Q (cA w Ω) pc lo (.int (b2i x) :: .ref (wAd w (7, j, p, 0)) :: st) := by
  subst e
  subst e2
  exact r_put C F10 3 (7, j, p, 0) hfr rfl (by decide) hlink rfl (b2i_nar x) (by cases x <;> rfl) (Nat.le_of_ble_eq_true rfl) hd (fun q hq => putS (k := 7) (s := up (Ω.1 j p).1 3 (b2i x)) (by unfold isOb; omega) hi q (hX q hq)) kk
theorem ogN_7_3 (C : gC w X cc own ret d nL) {j p : Nat} (hok : wOk w (7, j, p, 0)) {g : HV} (e : Ω.1 j p = g) {idx : Nat} {host : String} (hlink : Cond.fieldLinkNest own idx "HedgeMessages" "hasSaved" "Z" host ∈ lw_tbl) (hd : decode cc pc = .ok (.getfield idx, 3)) (kk : gU w X Q (cA w Ω) (pc + 3) lo (.int (g.1 3) :: st)) : gU w X Q (cA w Ω) pc lo (.ref (wAd w (7, j, p, 0)) :: st) := by
  subst e
  exact r_getN C F10 3 (7, j, p, 0) hok rfl (by decide) hlink rfl hd kk
theorem opN_7_3 (C : gC w X cc own ret d nL) (hX : ∀ i, wOk w i → okX i) {j p : Nat} (hi : okX (7, j, p, 0)) (hfr : wFr w (7, j, p, 0)) {g : HV} (e : Ω.1 j p = g) {idx : Nat} {host : String} (hlink : Cond.fieldLinkNest own idx "HedgeMessages" "hasSaved" "Z" host ∈ lw_tbl) (hd : decode cc pc = .ok (.putfield idx, 3)) {x : Bool} (e2 : sP Ω j p (sS g 3 (b2i x)) = Ω') (kk : gU w X Q (cA w Ω') (pc + 3) lo st) : gU w X Q (cA w Ω) pc lo (.int (b2i x) :: .ref (wAd w (7, j, p, 0)) :: st) := by
  subst e
  subst e2
  exact r_putN C F10 3 (7, j, p, 0) hfr rfl (by decide) hlink rfl (b2i_nar x) (by cases x <;> rfl) (Nat.le_of_ble_eq_true rfl) hd (fun q hq => putS (k := 7) (s := up (Ω.1 j p).1 3 (b2i x)) (by unfold isOb; omega) hi q (hX q hq)) kk
theorem og_7_4 (C : gC w X cc own ret d nL) {j p : Nat} (hok : wOk w (7, j, p, 0)) {idx : Nat} (hlink : Cond.fieldLink own idx "HedgeMessages" "history" "LHedgeMessages$History;" ∈ lw_tbl) (hd : decode cc pc = .ok (.getfield idx, 3)) (kk : gU w X Q (cA w Ω) (pc + 3) lo (.ref (wAd w (8, 11, 7, 0)) :: st)) : gU w X Q (cA w Ω) pc lo (.ref (wAd w (7, j, p, 0)) :: st) :=
  r_get C F10 4 (7, j, p, 0) hok rfl (by decide) hlink rfl hd kk
theorem ogN_7_4 (C : gC w X cc own ret d nL) {j p : Nat} (hok : wOk w (7, j, p, 0)) {idx : Nat} {host : String} (hlink : Cond.fieldLinkNest own idx "HedgeMessages" "history" "LHedgeMessages$History;" host ∈ lw_tbl) (hd : decode cc pc = .ok (.getfield idx, 3)) (kk : gU w X Q (cA w Ω) (pc + 3) lo (.ref (wAd w (8, 11, 7, 0)) :: st)) : gU w X Q (cA w Ω) pc lo (.ref (wAd w (7, j, p, 0)) :: st) :=
  r_getN C F10 4 (7, j, p, 0) hok rfl (by decide) hlink rfl hd kk
theorem og_7_5 (C : gC w X cc own ret d nL) {j p : Nat} (hok : wOk w (7, j, p, 0)) {idx : Nat} (hlink : Cond.fieldLink own idx "HedgeMessages" "text" "LHedgeMessages$Text;" ∈ lw_tbl) (hd : decode cc pc = .ok (.getfield idx, 3)) (kk : gU w X Q (cA w Ω) (pc + 3) lo (.ref (wAd w (5, 11, 4, 0)) :: st)) : gU w X Q (cA w Ω) pc lo (.ref (wAd w (7, j, p, 0)) :: st) :=
  r_get C F10 5 (7, j, p, 0) hok rfl (by decide) hlink rfl hd kk
theorem ogN_7_5 (C : gC w X cc own ret d nL) {j p : Nat} (hok : wOk w (7, j, p, 0)) {idx : Nat} {host : String} (hlink : Cond.fieldLinkNest own idx "HedgeMessages" "text" "LHedgeMessages$Text;" host ∈ lw_tbl) (hd : decode cc pc = .ok (.getfield idx, 3)) (kk : gU w X Q (cA w Ω) (pc + 3) lo (.ref (wAd w (5, 11, 4, 0)) :: st)) : gU w X Q (cA w Ω) pc lo (.ref (wAd w (7, j, p, 0)) :: st) :=
  r_getN C F10 5 (7, j, p, 0) hok rfl (by decide) hlink rfl hd kk
theorem og_7_6 (C : gC w X cc own ret d nL) {j p : Nat} (hok : wOk w (7, j, p, 0)) {idx : Nat} (hlink : Cond.fieldLink own idx "HedgeMessages" "commands" "LHedgeMessages$CommandList;" ∈ lw_tbl) (hd : decode cc pc = .ok (.getfield idx, 3)) (kk : gU w X Q (cA w Ω) (pc + 3) lo (.ref (wAd w (6, 11, 5, 0)) :: st)) : gU w X Q (cA w Ω) pc lo (.ref (wAd w (7, j, p, 0)) :: st) :=
  r_get C F10 6 (7, j, p, 0) hok rfl (by decide) hlink rfl hd kk
theorem ogN_7_6 (C : gC w X cc own ret d nL) {j p : Nat} (hok : wOk w (7, j, p, 0)) {idx : Nat} {host : String} (hlink : Cond.fieldLinkNest own idx "HedgeMessages" "commands" "LHedgeMessages$CommandList;" host ∈ lw_tbl) (hd : decode cc pc = .ok (.getfield idx, 3)) (kk : gU w X Q (cA w Ω) (pc + 3) lo (.ref (wAd w (6, 11, 5, 0)) :: st)) : gU w X Q (cA w Ω) pc lo (.ref (wAd w (7, j, p, 0)) :: st) :=
  r_getN C F10 6 (7, j, p, 0) hok rfl (by decide) hlink rfl hd kk
theorem og_7_7 (C : gC w X cc own ret d nL) {j p : Nat} (hok : wOk w (7, j, p, 0)) {idx : Nat} (hlink : Cond.fieldLink own idx "HedgeMessages" "output" "LHedgeMessages$Row;" ∈ lw_tbl) (hd : decode cc pc = .ok (.getfield idx, 3)) (kk : gU w X Q (cA w Ω) (pc + 3) lo (.ref (wAd w (3, 11, 6, 0)) :: st)) : gU w X Q (cA w Ω) pc lo (.ref (wAd w (7, j, p, 0)) :: st) :=
  r_get C F10 7 (7, j, p, 0) hok rfl (by decide) hlink rfl hd kk
theorem ogN_7_7 (C : gC w X cc own ret d nL) {j p : Nat} (hok : wOk w (7, j, p, 0)) {idx : Nat} {host : String} (hlink : Cond.fieldLinkNest own idx "HedgeMessages" "output" "LHedgeMessages$Row;" host ∈ lw_tbl) (hd : decode cc pc = .ok (.getfield idx, 3)) (kk : gU w X Q (cA w Ω) (pc + 3) lo (.ref (wAd w (3, 11, 6, 0)) :: st)) : gU w X Q (cA w Ω) pc lo (.ref (wAd w (7, j, p, 0)) :: st) :=
  r_getN C F10 7 (7, j, p, 0) hok rfl (by decide) hlink rfl hd kk
theorem og_7_8 (C : gC w X cc own ret d nL) {j p : Nat} (hok : wOk w (7, j, p, 0)) {g : HV} (e : Ω.1 j p = g) {idx : Nat} (hlink : Cond.fieldLink own idx "HedgeMessages" "outputLength" "I" ∈ lw_tbl) (hd : decode cc pc = .ok (.getfield idx, 3)) (kk : gU w X Q (cA w Ω) (pc + 3) lo (.int (g.1 8) :: st)) : gU w X Q (cA w Ω) pc lo (.ref (wAd w (7, j, p, 0)) :: st) := by
  subst e
  exact r_get C F10 8 (7, j, p, 0) hok rfl (by decide) hlink rfl hd kk
theorem op_7_8 (C : gC w X cc own ret d nL) (hX : ∀ i, wOk w i → okX i) {j p : Nat} (hi : okX (7, j, p, 0)) (hfr : wFr w (7, j, p, 0)) {g : HV} (e : Ω.1 j p = g) {idx : Nat} (hlink : Cond.fieldLink own idx "HedgeMessages" "outputLength" "I" ∈ lw_tbl) (hd : decode cc pc = .ok (.putfield idx, 3)) {x : Int32} (e2 : sP Ω j p (sS g 8 x) = Ω') (kk : gU w X Q (cA w Ω') (pc + 3) lo st) : gU w X Q (cA w Ω) pc lo (.int x :: .ref (wAd w (7, j, p, 0)) :: st) := by
  subst e
  subst e2
  exact r_put C F10 8 (7, j, p, 0) hfr rfl (by decide) hlink rfl (vp_nar_int x) rfl (Nat.le_of_ble_eq_true rfl) hd (fun q hq => putS (k := 7) (s := up (Ω.1 j p).1 8 x) (by unfold isOb; omega) hi q (hX q hq)) kk
theorem ogN_7_8 (C : gC w X cc own ret d nL) {j p : Nat} (hok : wOk w (7, j, p, 0)) {g : HV} (e : Ω.1 j p = g) {idx : Nat} {host : String} (hlink : Cond.fieldLinkNest own idx "HedgeMessages" "outputLength" "I" host ∈ lw_tbl) (hd : decode cc pc = .ok (.getfield idx, 3)) (kk : gU w X Q (cA w Ω) (pc + 3) lo (.int (g.1 8) :: st)) : gU w X Q (cA w Ω) pc lo (.ref (wAd w (7, j, p, 0)) :: st) := by
  subst e
  exact r_getN C F10 8 (7, j, p, 0) hok rfl (by decide) hlink rfl hd kk
theorem opN_7_8 (C : gC w X cc own ret d nL) (hX : ∀ i, wOk w i → okX i) {j p : Nat} (hi : okX (7, j, p, 0)) (hfr : wFr w (7, j, p, 0)) {g : HV} (e : Ω.1 j p = g) {idx : Nat} {host : String} (hlink : Cond.fieldLinkNest own idx "HedgeMessages" "outputLength" "I" host ∈ lw_tbl) (hd : decode cc pc = .ok (.putfield idx, 3)) {x : Int32} (e2 : sP Ω j p (sS g 8 x) = Ω') (kk : gU w X Q (cA w Ω') (pc + 3) lo st) : gU w X Q (cA w Ω) pc lo (.int x :: .ref (wAd w (7, j, p, 0)) :: st) := by
  subst e
  subst e2
  exact r_putN C F10 8 (7, j, p, 0) hfr rfl (by decide) hlink rfl (vp_nar_int x) rfl (Nat.le_of_ble_eq_true rfl) hd (fun q hq => putS (k := 7) (s := up (Ω.1 j p).1 8 x) (by unfold isOb; omega) hi q (hX q hq)) kk
theorem og_8_0 (C : gC w X cc own ret d nL) {j p : Nat} (hok : wOk w (8, j, p, 0)) {idx : Nat} (hlink : Cond.fieldLink own idx "HedgeMessages$History" "states" "[LHedgeMessages$Hedge;" ∈ lw_tbl) (hd : decode cc pc = .ok (.getfield idx, 3)) (kk : gU w X Q (cA w Ω) (pc + 3) lo (.ref (wAd w (9, j, p, 0)) :: st)) : gU w X Q (cA w Ω) pc lo (.ref (wAd w (8, j, p, 0)) :: st) :=
  r_get C F6 0 (8, j, p, 0) hok rfl (by decide) hlink rfl hd kk
theorem ogN_8_0 (C : gC w X cc own ret d nL) {j p : Nat} (hok : wOk w (8, j, p, 0)) {idx : Nat} {host : String} (hlink : Cond.fieldLinkNest own idx "HedgeMessages$History" "states" "[LHedgeMessages$Hedge;" host ∈ lw_tbl) (hd : decode cc pc = .ok (.getfield idx, 3)) (kk : gU w X Q (cA w Ω) (pc + 3) lo (.ref (wAd w (9, j, p, 0)) :: st)) : gU w X Q (cA w Ω) pc lo (.ref (wAd w (8, j, p, 0)) :: st) :=
  r_getN C F6 0 (8, j, p, 0) hok rfl (by decide) hlink rfl hd kk
theorem og_8_1 (C : gC w X cc own ret d nL) {j p : Nat} (hok : wOk w (8, j, p, 0)) {g : HV} (e : Ω.1 j p = g) {idx : Nat} (hlink : Cond.fieldLink own idx "HedgeMessages$History" "next" "I" ∈ lw_tbl) (hd : decode cc pc = .ok (.getfield idx, 3)) (kk : gU w X Q (cA w Ω) (pc + 3) lo (.int (g.1 1) :: st)) : gU w X Q (cA w Ω) pc lo (.ref (wAd w (8, j, p, 0)) :: st) := by
  subst e
  exact r_get C F6 1 (8, j, p, 0) hok rfl (by decide) hlink rfl hd kk
theorem op_8_1 (C : gC w X cc own ret d nL) (hX : ∀ i, wOk w i → okX i) {j p : Nat} (hi : okX (8, j, p, 0)) (hfr : wFr w (8, j, p, 0)) {g : HV} (e : Ω.1 j p = g) {idx : Nat} (hlink : Cond.fieldLink own idx "HedgeMessages$History" "next" "I" ∈ lw_tbl) (hd : decode cc pc = .ok (.putfield idx, 3)) {x : Int32} (e2 : sP Ω j p (sS g 1 x) = Ω') (kk : gU w X Q (cA w Ω') (pc + 3) lo st) : gU w X Q (cA w Ω) pc lo (.int x :: .ref (wAd w (8, j, p, 0)) :: st) := by
  subst e
  subst e2
  exact r_put C F6 1 (8, j, p, 0) hfr rfl (by decide) hlink rfl (vp_nar_int x) rfl (Nat.le_of_ble_eq_true rfl) hd (fun q hq => putS (k := 8) (s := up (Ω.1 j p).1 1 x) (by unfold isOb; omega) hi q (hX q hq)) kk
theorem ogN_8_1 (C : gC w X cc own ret d nL) {j p : Nat} (hok : wOk w (8, j, p, 0)) {g : HV} (e : Ω.1 j p = g) {idx : Nat} {host : String} (hlink : Cond.fieldLinkNest own idx "HedgeMessages$History" "next" "I" host ∈ lw_tbl) (hd : decode cc pc = .ok (.getfield idx, 3)) (kk : gU w X Q (cA w Ω) (pc + 3) lo (.int (g.1 1) :: st)) : gU w X Q (cA w Ω) pc lo (.ref (wAd w (8, j, p, 0)) :: st) := by
  subst e
  exact r_getN C F6 1 (8, j, p, 0) hok rfl (by decide) hlink rfl hd kk
theorem opN_8_1 (C : gC w X cc own ret d nL) (hX : ∀ i, wOk w i → okX i) {j p : Nat} (hi : okX (8, j, p, 0)) (hfr : wFr w (8, j, p, 0)) {g : HV} (e : Ω.1 j p = g) {idx : Nat} {host : String} (hlink : Cond.fieldLinkNest own idx "HedgeMessages$History" "next" "I" host ∈ lw_tbl) (hd : decode cc pc = .ok (.putfield idx, 3)) {x : Int32} (e2 : sP Ω j p (sS g 1 x) = Ω') (kk : gU w X Q (cA w Ω') (pc + 3) lo st) : gU w X Q (cA w Ω) pc lo (.int x :: .ref (wAd w (8, j, p, 0)) :: st) := by
  subst e
  subst e2
  exact r_putN C F6 1 (8, j, p, 0) hfr rfl (by decide) hlink rfl (vp_nar_int x) rfl (Nat.le_of_ble_eq_true rfl) hd (fun q hq => putS (k := 8) (s := up (Ω.1 j p).1 1 x) (by unfold isOb; omega) hi q (hX q hq)) kk
theorem og_8_2 (C : gC w X cc own ret d nL) {j p : Nat} (hok : wOk w (8, j, p, 0)) {g : HV} (e : Ω.1 j p = g) {idx : Nat} (hlink : Cond.fieldLink own idx "HedgeMessages$History" "count" "I" ∈ lw_tbl) (hd : decode cc pc = .ok (.getfield idx, 3)) (kk : gU w X Q (cA w Ω) (pc + 3) lo (.int (g.1 2) :: st)) : gU w X Q (cA w Ω) pc lo (.ref (wAd w (8, j, p, 0)) :: st) := by
  subst e
  exact r_get C F6 2 (8, j, p, 0) hok rfl (by decide) hlink rfl hd kk
theorem op_8_2 (C : gC w X cc own ret d nL) (hX : ∀ i, wOk w i → okX i) {j p : Nat} (hi : okX (8, j, p, 0)) (hfr : wFr w (8, j, p, 0)) {g : HV} (e : Ω.1 j p = g) {idx : Nat} (hlink : Cond.fieldLink own idx "HedgeMessages$History" "count" "I" ∈ lw_tbl) (hd : decode cc pc = .ok (.putfield idx, 3)) {x : Int32} (e2 : sP Ω j p (sS g 2 x) = Ω') (kk : gU w X Q (cA w Ω') (pc + 3) lo st) : gU w X Q (cA w Ω) pc lo (.int x :: .ref (wAd w (8, j, p, 0)) :: st) := by
  subst e
  subst e2
  exact r_put C F6 2 (8, j, p, 0) hfr rfl (by decide) hlink rfl (vp_nar_int x) rfl (Nat.le_of_ble_eq_true rfl) hd (fun q hq => putS (k := 8) (s := up (Ω.1 j p).1 2 x) (by unfold isOb; omega) hi q (hX q hq)) kk
theorem ogN_8_2 (C : gC w X cc own ret d nL) {j p : Nat} (hok : wOk w (8, j, p, 0)) {g : HV} (e : Ω.1 j p = g) {idx : Nat} {host : String} (hlink : Cond.fieldLinkNest own idx "HedgeMessages$History" "count" "I" host ∈ lw_tbl) (hd : decode cc pc = .ok (.getfield idx, 3)) (kk : gU w X Q (cA w Ω) (pc + 3) lo (.int (g.1 2) :: st)) : gU w X Q (cA w Ω) pc lo (.ref (wAd w (8, j, p, 0)) :: st) := by
  subst e
  exact r_getN C F6 2 (8, j, p, 0) hok rfl (by decide) hlink rfl hd kk
theorem opN_8_2 (C : gC w X cc own ret d nL) (hX : ∀ i, wOk w i → okX i) {j p : Nat} (hi : okX (8, j, p, 0)) (hfr : wFr w (8, j, p, 0)) {g : HV} (e : Ω.1 j p = g) {idx : Nat} {host : String} (hlink : Cond.fieldLinkNest own idx "HedgeMessages$History" "count" "I" host ∈ lw_tbl) (hd : decode cc pc = .ok (.putfield idx, 3)) {x : Int32} (e2 : sP Ω j p (sS g 2 x) = Ω') (kk : gU w X Q (cA w Ω') (pc + 3) lo st) : gU w X Q (cA w Ω) pc lo (.int x :: .ref (wAd w (8, j, p, 0)) :: st) := by
  subst e
  subst e2
  exact r_putN C F6 2 (8, j, p, 0) hfr rfl (by decide) hlink rfl (vp_nar_int x) rfl (Nat.le_of_ble_eq_true rfl) hd (fun q hq => putS (k := 8) (s := up (Ω.1 j p).1 2 x) (by unfold isOb; omega) hi q (hX q hq)) kk

def vpb (x : Int32) (n : Nat) : Bool := !(decide (x < 0) || decide (n ≤ x.toNatClampNeg))
theorem vpb_in {x : Int32} {n : Nat} (h : vpb x n = true) : vp_in x n := by
  unfold vpb at h
  unfold vp_in
  simpa using h
theorem in_vpb {x : Int32} {n : Nat} (h : vp_in x n) : vpb x n = true := by
  unfold vp_in at h
  unfold vpb
  simpa using h
theorem c_alen (C : gC w X cc own ret d nL) {j p a n : Nat} (hok : wOk w (4, j, p, a)) (hn : rlen p a = n) (hd : decode cc pc = .ok (.arraylength, 1)) (kk : gU w X Q (cA w Ω) (pc + 1) lo (.int (nI n) :: st)) : gU w X Q (cA w Ω) pc lo (.ref (wAd w (4, j, p, a)) :: st) := by
  subst hn
  exact r_alen C (4, j, p, a) hok 0 rfl rfl rfl hd kk
theorem c_ald (C : gC w X cc own ret d nL) {j p a n : Nat} (hok : wOk w (4, j, p, a)) {f : Nat → Int32} (e : (Ω.1 j p).2 a = f) (hn : rlen p a = n) {x : Int32} (hin : vp_in x n) (hd : decode cc pc = .ok (.iaload, 1)) (kk : gU w X Q (cA w Ω) (pc + 1) lo (.int (f x.toNatClampNeg) :: st)) : gU w X Q (cA w Ω) pc lo (.int x :: .ref (wAd w (4, j, p, a)) :: st) := by
  subst e
  subst hn
  exact r_iald C (4, j, p, a) hok 0 rfl rfl hin hd kk
theorem c_ast (C : gC w X cc own ret d nL) (hX : ∀ i, wOk w i → okX i) {j p a n : Nat} (hi : okX (4, j, p, a)) (hfr : wFr w (4, j, p, a)) {g : HV} (e : Ω.1 j p = g) (hn : rlen p a = n) {x v : Int32} (hin : vp_in x n) (hd : decode cc pc = .ok (.iastore, 1)) (e2 : sP Ω j p (sA g a (upd (g.2 a) x.toNatClampNeg v)) = Ω') (kk : gU w X Q (cA w Ω') (pc + 1) lo st) : gU w X Q (cA w Ω) pc lo (.int v :: .int x :: .ref (wAd w (4, j, p, a)) :: st) := by
  subst e
  subst e2
  subst hn
  exact r_iast C (4, j, p, a) hfr 0 rfl rfl hin hd (fun q hq => putA hi q (hX q hq)) kk
end OBJ
theorem dX8_get_0 : decode cX8_get 0 = .ok (.iload_n 1, 1) := by decide +kernel
theorem dX8_get_1 : decode cX8_get 1 = .ok (.ifCond .lt 21, 3) := by decide +kernel
theorem dX8_get_4 : decode cX8_get 4 = .ok (.iload_n 1, 1) := by decide +kernel
theorem dX8_get_5 : decode cX8_get 5 = .ok (.aload_n 0, 1) := by decide +kernel
theorem dX8_get_6 : decode cX8_get 6 = .ok (.getfield 7, 3) := by decide +kernel
theorem dX8_get_9 : decode cX8_get 9 = .ok (.arraylength, 1) := by decide +kernel
theorem dX8_get_10 : decode cX8_get 10 = .ok (.if_icmp .ge 12, 3) := by decide +kernel
theorem dX8_get_13 : decode cX8_get 13 = .ok (.aload_n 0, 1) := by decide +kernel
theorem dX8_get_14 : decode cX8_get 14 = .ok (.getfield 7, 3) := by decide +kernel
theorem dX8_get_17 : decode cX8_get 17 = .ok (.iload_n 1, 1) := by decide +kernel
theorem dX8_get_18 : decode cX8_get 18 = .ok (.iaload, 1) := by decide +kernel
theorem dX8_get_19 : decode cX8_get 19 = .ok (.goto 4, 3) := by decide +kernel
theorem dX8_get_22 : decode cX8_get 22 = .ok (.iconst 0, 1) := by decide +kernel
theorem dX8_get_23 : decode cX8_get 23 = .ok (.ireturn, 1) := by decide +kernel
theorem dX8_set_0 : decode cX8_set 0 = .ok (.iload_n 1, 1) := by decide +kernel
theorem dX8_set_1 : decode cX8_set 1 = .ok (.ifCond .lt 19, 3) := by decide +kernel
theorem dX8_set_4 : decode cX8_set 4 = .ok (.iload_n 1, 1) := by decide +kernel
theorem dX8_set_5 : decode cX8_set 5 = .ok (.aload_n 0, 1) := by decide +kernel
theorem dX8_set_6 : decode cX8_set 6 = .ok (.getfield 7, 3) := by decide +kernel
theorem dX8_set_9 : decode cX8_set 9 = .ok (.arraylength, 1) := by decide +kernel
theorem dX8_set_10 : decode cX8_set 10 = .ok (.if_icmp .ge 10, 3) := by decide +kernel
theorem dX8_set_13 : decode cX8_set 13 = .ok (.aload_n 0, 1) := by decide +kernel
theorem dX8_set_14 : decode cX8_set 14 = .ok (.getfield 7, 3) := by decide +kernel
theorem dX8_set_17 : decode cX8_set 17 = .ok (.iload_n 1, 1) := by decide +kernel
theorem dX8_set_18 : decode cX8_set 18 = .ok (.iload_n 2, 1) := by decide +kernel
theorem dX8_set_19 : decode cX8_set 19 = .ok (.iastore, 1) := by decide +kernel
theorem dX8_set_20 : decode cX8_set 20 = .ok (.return_, 1) := by decide +kernel
theorem dX8_clear_0 : decode cX8_clear 0 = .ok (.iconst 0, 1) := by decide +kernel
theorem dX8_clear_1 : decode cX8_clear 1 = .ok (.istore_n 1, 1) := by decide +kernel
theorem dX8_clear_2 : decode cX8_clear 2 = .ok (.iload_n 1, 1) := by decide +kernel
theorem dX8_clear_3 : decode cX8_clear 3 = .ok (.aload_n 0, 1) := by decide +kernel
theorem dX8_clear_4 : decode cX8_clear 4 = .ok (.getfield 7, 3) := by decide +kernel
theorem dX8_clear_7 : decode cX8_clear 7 = .ok (.arraylength, 1) := by decide +kernel
theorem dX8_clear_8 : decode cX8_clear 8 = .ok (.if_icmp .ge 16, 3) := by decide +kernel
theorem dX8_clear_11 : decode cX8_clear 11 = .ok (.aload_n 0, 1) := by decide +kernel
theorem dX8_clear_12 : decode cX8_clear 12 = .ok (.getfield 7, 3) := by decide +kernel
theorem dX8_clear_15 : decode cX8_clear 15 = .ok (.iload_n 1, 1) := by decide +kernel
theorem dX8_clear_16 : decode cX8_clear 16 = .ok (.iconst 0, 1) := by decide +kernel
theorem dX8_clear_17 : decode cX8_clear 17 = .ok (.iastore, 1) := by decide +kernel
theorem dX8_clear_18 : decode cX8_clear 18 = .ok (.iinc 1 1, 3) := by decide +kernel
theorem dX8_clear_21 : decode cX8_clear 21 = .ok (.goto (-19), 3) := by decide +kernel
theorem dX8_clear_24 : decode cX8_clear 24 = .ok (.return_, 1) := by decide +kernel
theorem dX8_copyFrom_0 : decode cX8_copyFrom 0 = .ok (.aload_n 0, 1) := by decide +kernel
theorem dX8_copyFrom_1 : decode cX8_copyFrom 1 = .ok (.aload_n 1, 1) := by decide +kernel
theorem dX8_copyFrom_2 : decode cX8_copyFrom 2 = .ok (.iconst 0, 1) := by decide +kernel
theorem dX8_copyFrom_3 : decode cX8_copyFrom 3 = .ok (.iconst 0, 1) := by decide +kernel
theorem dX8_copyFrom_4 : decode cX8_copyFrom 4 = .ok (.aload_n 0, 1) := by decide +kernel
theorem dX8_copyFrom_5 : decode cX8_copyFrom 5 = .ok (.getfield 7, 3) := by decide +kernel
theorem dX8_copyFrom_8 : decode cX8_copyFrom 8 = .ok (.arraylength, 1) := by decide +kernel
theorem dX8_copyFrom_9 : decode cX8_copyFrom 9 = .ok (.invokevirtual 13, 3) := by decide +kernel
theorem dX8_copyFrom_12 : decode cX8_copyFrom 12 = .ok (.return_, 1) := by decide +kernel
theorem dX8_copyPart_0 : decode cX8_copyPart 0 = .ok (.iload_n 2, 1) := by decide +kernel
theorem dX8_copyPart_1 : decode cX8_copyPart 1 = .ok (.ifCond .lt 24, 3) := by decide +kernel
theorem dX8_copyPart_4 : decode cX8_copyPart 4 = .ok (.iload 4, 2) := by decide +kernel
theorem dX8_copyPart_6 : decode cX8_copyPart 6 = .ok (.ifCond .lt 19, 3) := by decide +kernel
theorem dX8_copyPart_9 : decode cX8_copyPart 9 = .ok (.iload_n 2, 1) := by decide +kernel
theorem dX8_copyPart_10 : decode cX8_copyPart 10 = .ok (.aload_n 1, 1) := by decide +kernel
theorem dX8_copyPart_11 : decode cX8_copyPart 11 = .ok (.getfield 7, 3) := by decide +kernel
theorem dX8_copyPart_14 : decode cX8_copyPart 14 = .ok (.arraylength, 1) := by decide +kernel
theorem dX8_copyPart_15 : decode cX8_copyPart 15 = .ok (.iload 4, 2) := by decide +kernel
theorem dX8_copyPart_17 : decode cX8_copyPart 17 = .ok (.isub, 1) := by decide +kernel
theorem dX8_copyPart_18 : decode cX8_copyPart 18 = .ok (.if_icmp .gt 7, 3) := by decide +kernel
theorem dX8_copyPart_21 : decode cX8_copyPart 21 = .ok (.iconst 1, 1) := by decide +kernel
theorem dX8_copyPart_22 : decode cX8_copyPart 22 = .ok (.goto 4, 3) := by decide +kernel
theorem dX8_copyPart_25 : decode cX8_copyPart 25 = .ok (.iconst 0, 1) := by decide +kernel
theorem dX8_copyPart_26 : decode cX8_copyPart 26 = .ok (.istore 5, 2) := by decide +kernel
theorem dX8_copyPart_28 : decode cX8_copyPart 28 = .ok (.iload 5, 2) := by decide +kernel
theorem dX8_copyPart_30 : decode cX8_copyPart 30 = .ok (.ifCond .eq 34, 3) := by decide +kernel
theorem dX8_copyPart_33 : decode cX8_copyPart 33 = .ok (.iload_n 3, 1) := by decide +kernel
theorem dX8_copyPart_34 : decode cX8_copyPart 34 = .ok (.ifCond .lt 30, 3) := by decide +kernel
theorem dX8_copyPart_37 : decode cX8_copyPart 37 = .ok (.iload_n 3, 1) := by decide +kernel
theorem dX8_copyPart_38 : decode cX8_copyPart 38 = .ok (.aload_n 0, 1) := by decide +kernel
theorem dX8_copyPart_39 : decode cX8_copyPart 39 = .ok (.getfield 7, 3) := by decide +kernel
theorem dX8_copyPart_42 : decode cX8_copyPart 42 = .ok (.arraylength, 1) := by decide +kernel
theorem dX8_copyPart_43 : decode cX8_copyPart 43 = .ok (.iload 4, 2) := by decide +kernel
theorem dX8_copyPart_45 : decode cX8_copyPart 45 = .ok (.isub, 1) := by decide +kernel
theorem dX8_copyPart_46 : decode cX8_copyPart 46 = .ok (.if_icmp .gt 18, 3) := by decide +kernel
theorem dX8_copyPart_49 : decode cX8_copyPart 49 = .ok (.aload_n 1, 1) := by decide +kernel
theorem dX8_copyPart_50 : decode cX8_copyPart 50 = .ok (.getfield 7, 3) := by decide +kernel
theorem dX8_copyPart_53 : decode cX8_copyPart 53 = .ok (.iload_n 2, 1) := by decide +kernel
theorem dX8_copyPart_54 : decode cX8_copyPart 54 = .ok (.aload_n 0, 1) := by decide +kernel
theorem dX8_copyPart_55 : decode cX8_copyPart 55 = .ok (.getfield 7, 3) := by decide +kernel
theorem dX8_copyPart_58 : decode cX8_copyPart 58 = .ok (.iload_n 3, 1) := by decide +kernel
theorem dX8_copyPart_59 : decode cX8_copyPart 59 = .ok (.iload 4, 2) := by decide +kernel
theorem dX8_copyPart_61 : decode cX8_copyPart 61 = .ok (.invokestatic 17, 3) := by decide +kernel
theorem dX8_copyPart_64 : decode cX8_copyPart 64 = .ok (.return_, 1) := by decide +kernel
theorem ixOf {x : Int32} {n : Nat} (hn : n < 2 ^ 31) (h0 : ¬ x < 0) (h : ¬ nI n ≤ x) : vp_in x n := by
  rcases pk_ix x hn with h1 | h1 | ⟨j, hj, rfl⟩
  · exact absurd h1 h0
  · exact absurd h1 h
  · exact vp_in_nI hj hn
def rget (n : Nat) (f : Nat → Int32) (x : Int32) : Int32 := if x < 0 then 0 else if nI n ≤ x then 0 else f x.toNatClampNeg
def rset (n : Nat) (f : Nat → Int32) (x v : Int32) : Nat → Int32 := if x < 0 then f else if nI n ≤ x then f else upd f x.toNatClampNeg v
theorem c_rget {w : WP} {Ω : OM} {j p a n : Nat} {f : Nat → Int32} {x v : Int32} (h3 : wOk w (3, j, p, a)) (h4 : wOk w (4, j, p, a)) (hn : rlen p a = n) (hN : n < 2 ^ 31) (e : (Ω.1 j p).2 a = f) (hF : rget n f x = v) : gM w 0 yX8_get cX8_get 2 (some .int) [.ref (wAd w (3, j, p, a)), .int x] (cA w Ω) (some (.int v)) (cA w Ω) := by
  refine gM_of "HedgeMessages$Row" rfl (by decide) (Nat.le_of_ble_eq_true rfl) fun X C => ?_
  unfold rget at hF
  show gV w X _ _ 0 [(0, .ref (wAd w (3, j, p, a))), (1, .int x)] []
  refine r_iload_n C (k := 1) rfl rfl dX8_get_0 ?_
  refine r_if_lt C (tgt := 22) rfl dX8_get_1 (fun h => ?_) (fun h => ?_)
  · rw [if_pos h] at hF
    subst hF
    refine r_iconst C (v := 0) rfl dX8_get_22 ?_
    exact r_ireturn C dX8_get_23
  · rw [if_neg h] at hF
    refine r_iload_n C (k := 1) rfl rfl dX8_get_4 ?_
    refine r_aload_n C (k := 0) rfl rfl dX8_get_5 ?_
    refine og_3_0 C h3 wm1_47 dX8_get_6 ?_
    refine c_alen C h4 hn dX8_get_9 ?_
    refine r_icmp_ge C (tgt := 22) rfl dX8_get_10 (fun h2 => ?_) (fun h2 => ?_)
    · rw [if_pos h2] at hF
      subst hF
      refine r_iconst C (v := 0) rfl dX8_get_22 ?_
      exact r_ireturn C dX8_get_23
    · rw [if_neg h2] at hF
      subst hF
      refine r_aload_n C (k := 0) rfl rfl dX8_get_13 ?_
      refine og_3_0 C h3 wm1_47 dX8_get_14 ?_
      refine r_iload_n C (k := 1) rfl rfl dX8_get_17 ?_
      refine c_ald C h4 e hn (ixOf hN h h2) dX8_get_18 ?_
      refine r_goto C (tgt := 23) rfl dX8_get_19 ?_
      exact r_ireturn C dX8_get_23
theorem c_rset {w : WP} {Ω Ω' : OM} {j p a n : Nat} {g g' : HV} {x v : Int32} (hX : ∀ i, wOk w i → okX i) (hi : okX (4, j, p, a)) (h3 : wOk w (3, j, p, a)) (h4 : wOk w (4, j, p, a)) (hfr : wFr w (4, j, p, a)) (hn : rlen p a = n) (hN : n < 2 ^ 31) (e : Ω.1 j p = g) (hF : sA g a (rset n (g.2 a) x v) = g') (e2 : sP Ω j p g' = Ω') : gM w 0 yX8_set cX8_set 3 none [.ref (wAd w (3, j, p, a)), .int x, .int v] (cA w Ω) none (cA w Ω') := by
  refine gM_of "HedgeMessages$Row" rfl (by decide) (Nat.le_of_ble_eq_true rfl) fun X C => ?_
  unfold rset at hF
  subst e2
  have hid : sA g a (g.2 a) = g' → sP Ω j p g' = Ω := fun h => by
    subst h
    refine sP_i ?_
    rw [e]
    show g = (g.1, up g.2 a (g.2 a))
    rw [up_id]
  show gV w X _ _ 0 [(0, .ref (wAd w (3, j, p, a))), (1, .int x), (2, .int v)] []
  refine r_iload_n C (k := 1) rfl rfl dX8_set_0 ?_
  refine r_if_lt C (tgt := 20) rfl dX8_set_1 (fun h => ?_) (fun h => ?_)
  · rw [if_pos h] at hF
    rw [hid hF]
    exact r_return C dX8_set_20
  · rw [if_neg h] at hF
    refine r_iload_n C (k := 1) rfl rfl dX8_set_4 ?_
    refine r_aload_n C (k := 0) rfl rfl dX8_set_5 ?_
    refine og_3_0 C h3 wm1_47 dX8_set_6 ?_
    refine c_alen C h4 hn dX8_set_9 ?_
    refine r_icmp_ge C (tgt := 20) rfl dX8_set_10 (fun h2 => ?_) (fun h2 => ?_)
    · rw [if_pos h2] at hF
      rw [hid hF]
      exact r_return C dX8_set_20
    · rw [if_neg h2] at hF
      subst hF
      refine r_aload_n C (k := 0) rfl rfl dX8_set_13 ?_
      refine og_3_0 C h3 wm1_47 dX8_set_14 ?_
      refine r_iload_n C (k := 1) rfl rfl dX8_set_17 ?_
      refine r_iload_n C (k := 2) rfl rfl dX8_set_18 ?_
      refine c_ast C hX hi hfr e hn (ixOf hN h h2) dX8_set_19 rfl ?_
      exact r_return C dX8_set_20
/-- a part of one row copied into another -/
def rcpy (n2 : Nat) (f2 : Nat → Int32) (n : Nat) (f : Nat → Int32) (from_ to cnt : Int32) : Nat → Int32 := if from_ < 0 then f else if cnt < 0 then f else if nI n2 - cnt < from_ then f else if to < 0 then f else if nI n - cnt < to then f else va_cpy f2 f from_.toNatClampNeg to.toNatClampNeg cnt.toNatClampNeg
theorem cpOf {x c : Int32} {n : Nat} (hn : n < 2 ^ 31) (h0 : ¬ x < 0) (hc : ¬ c < 0) (h : ¬ nI n - c < x) : x.toNatClampNeg + c.toNatClampNeg ≤ n := by
  obtain ⟨a, ha, rfl⟩ := nI_of h0
  obtain ⟨b, hb, rfl⟩ := nI_of hc
  rw [nI_clamp ha, nI_clamp hb]
  rcases Nat.lt_or_ge n b with h1 | h1
  · exfalso
    apply h
    rw [Int32.lt_iff_toInt_lt, nI_toInt ha, Int32.toInt_sub, nI_toInt hn, nI_toInt hb]
    rw [Int.bmod_eq_of_le] <;> omega
  · rw [pk_sub h1] at h
    have := mt (fun z => nI_lt z ha) h
    omega
theorem r_acopy {w : WP} {X : CX} {cc : ByteArray} {own : String} {ret : Option FieldType} {d nL : Nat} {Q : QT} {pc : Nat} {lo : List (Nat × Value)} {st : List Value} {Ω Ω' : OM} (C : gC w X cc own ret d nL) (hdd : 1 ≤ d) (hX : ∀ i, wOk w i → okX i) {idx j p a n j2 p2 a2 n2 : Nat} (hlink : Cond.methodLink own idx arraycopyName ∈ lw_tbl) (hi : okX (4, j, p, a)) (hfr : wFr w (4, j, p, a)) (hok2 : wOk w (4, j2, p2, a2)) (hn : rlen p a = n) (hn2 : rlen p2 a2 = n2) {g : HV} {f2 : Nat → Int32} (e : Ω.1 j p = g) (ef : (Ω.1 j2 p2).2 a2 = f2) {sp dp c : Int32} (h1 : ¬ sp < 0) (h2 : ¬ dp < 0) (h3 : ¬ c < 0) (h4 : sp.toNatClampNeg + c.toNatClampNeg ≤ n2) (h5 : dp.toNatClampNeg + c.toNatClampNeg ≤ n) (hst : (st.map fun v => v.category).sum ≤ 8) (hd : decode cc pc = .ok (.invokestatic idx, 3)) (e2 : sP Ω j p (sA g a (va_cpy f2 (g.2 a) sp.toNatClampNeg dp.toNatClampNeg c.toNatClampNeg)) = Ω') (k : gU w X Q (cA w Ω') (pc + 3) lo st) : gU w X Q (cA w Ω) pc lo (.int c :: .int dp :: .ref (wAd w (4, j, p, a)) :: .int sp :: .ref (wAd w (4, j2, p2, a2)) :: st) := by
  subst e ef e2 hn hn2
  obtain ⟨pp, ee, R, s, m, args, below, meth, cd, nn, AA⟩ := X
  intro H locs ls hP hS hl
  have hok := C.2.2.2.2.2.1.2.1 _ hfr
  have hAA : AA = gA w s.heap.size := C.2.2.2.2.2.2.2.2.2.1
  have hR := C.2.2.2.2.2.2.2.2.2.2.1
  have hc0 : H[wAd w (4, j2, p2, a2)]? = some (vp_cell (wI w) (rlen p2 a2, .inl ((Ω.1 j2 p2).2 a2))) := hP _ hok2
  have hc1 : H[wAd w (4, j, p, a)]? = some (vp_cell (wI w) (rlen p a, .inl ((Ω.1 j p).2 a))) := hP _ hok
  generalize hf : (Ω.1 j2 p2).2 a2 = f at *
  generalize hg : (Ω.1 j p).2 a = g at *
  have nn : ∀ z : Int32, ¬ z < 0 → z.toInt = (z.toNatClampNeg : Int) := by
    intro z hz
    obtain ⟨q, hq, rfl⟩ := nI_of hz
    rw [nI_toInt hq, nI_clamp hq]
  intro T hT XX
  obtain ⟨-, k0, hk0, cm0, hkk0⟩ := (C.2.2.2.2.1.2.2 0 _ rfl).1 (rlen p2 a2) (fun j => .int (f j))
  obtain ⟨-, k1, hk1, cm1, hkk1⟩ := (C.2.2.2.2.1.2.2 0 _ rfl).1 (rlen p a) (fun j => .int (g j))
  obtain ⟨vm', X', step⟩ := XX.arraycopy C.1 C.2.2.2.1 (C.2.2.2.2.1.1.use hlink rfl) (C.2.2.2.2.1.1.use wm2_155 rfl) (C.2.2.2.2.1.1.use wm2_154 rfl) (C.2.2.2.2.1.1.use wm1_8 rfl) (src := wAd w (4, j2, p2, a2)) (dst := wAd w (4, j, p, a)) (cs := vp_cell (wI w) (rlen p2 a2, .inl f)) (cd := vp_cell (wI w) (rlen p a, .inl g)) (srcPos := sp) (destPos := dp) (n := c) (by rw [hT]; exact hc0) (by rw [hT]; exact hc1)
    (fun _ h => by cases h) (fun _ h => by cases h) (fun h => by cases h) (fun h => by cases h) hk0 hk1 hkk0 hkk1 (by simp) h1 h2 h3
    (by rw [nn sp h1, nn c h3]; show ¬ _ > ((arrV (wI w) (rlen p2 a2) (fun j => .int (f j))).slots.size : Int); rw [arrV_size]; omega)
    (by rw [nn dp h2, nn c h3]; show ¬ _ > ((arrV (wI w) (rlen p a) (fun j => .int (g j))).slots.size : Int); rw [arrV_size]; omega)
    (fun vm₁ _ i hi => by
      have e : (vp_cell (wI w) (rlen p2 a2, .inl f)).slots.getD (sp.toNatClampNeg + i) .null = .int (f (sp.toNatClampNeg + i)) := by
        show (arrV (wI w) (rlen p2 a2) (fun j => .int (f j))).slots.getD _ _ = _
        rw [Array.getD_eq_getD_getElem?, arrV_read _ _ (by omega)]
        rfl
      rw [e]
      exact ⟨rfl, trivial⟩)
    (g := F0 m pc ls (.int c :: .int dp :: .ref (wAd w (4, j, p, a)) :: .int sp :: .ref (wAd w (4, j2, p2, a2)) :: st)) rfl (by show ls.size = cd.maxLocals; rw [hl.1, C.2.2.1]; exact C.2.2.2.2.2.2.2.2.1) (rest := st) rfl (by rw [C.2.1]; exact hd) (Nat.le_trans hdd hR.1) (by have := hR.2; show 2 * 0 + _ + ((5 + 2) + 11) ≤ R.locals; omega)
  have e1 : copied (vp_cell (wI w) (rlen p2 a2, .inl f)) (vp_cell (wI w) (rlen p a, .inl g)) sp dp c = vp_cell (wI w) (rlen p a, .inl (va_cpy f g sp.toNatClampNeg dp.toNatClampNeg c.toNatClampNeg)) := va_copied (fun z => .int z) (wI w) (wI w) f g h4
  rw [e1] at X' step
  have hl9 : wAd w (4, j, p, a) < H.size := (Array.getElem?_eq_some_iff.mp hc1).1
  have hheap : ((T.setVm vm').setCell (wAd w (4, j, p, a)) (vp_cell (wI w) (rlen p a, .inl (va_cpy f g sp.toNatClampNeg dp.toNatClampNeg c.toNatClampNeg)))).heap = H.setIfInBounds (wAd w (4, j, p, a)) (vp_cell (wI w) (rlen p a, .inl (va_cpy f g sp.toNatClampNeg dp.toNatClampNeg c.toNatClampNeg))) := by rw [← hT]; rfl
  have oq : ∀ q : Nat, q ≠ wAd w (4, j, p, a) → (H.setIfInBounds (wAd w (4, j, p, a)) (vp_cell (wI w) (rlen p a, .inl (va_cpy f g sp.toNatClampNeg dp.toNatClampNeg c.toNatClampNeg))))[q]? = H[q]? := fun q hq => by simp [Array.getElem?_setIfInBounds, Ne.symm hq]
  have hA9 : AA (wAd w (4, j, p, a)) := by
    rw [hAA]
    exact Or.inl ⟨_, hfr, rfl⟩
  obtain ⟨t, a1, b1⟩ := k _ _ ls (gP_cong (fun q hq => putA hi q (hX q hq)) (gP_put (e := .inl (wI w, rlen p a, .inl (va_cpy f g sp.toNatClampNeg dp.toNatClampNeg c.toNatClampNeg))) C.2.2.2.2.2.1 hok hP (show (H.setIfInBounds (wAd w (4, j, p, a)) _)[wAd w (4, j, p, a)]? = some _ by simp [Array.getElem?_setIfInBounds, hl9]) oq)) ⟨by simp; exact hS.1, fun q g1 g2 => by
      rw [oq q (fun e => g2 (by rw [e]; exact hA9))]
      exact hS.2.1 q g1 g2, fun q hq => by
      rcases List.mem_append.mp hq with h | h
      · exact hS.2.2 q h
      · obtain ⟨z, -, hz⟩ := List.mem_map.mp h
        rw [← hz]
        exact hA9⟩ hl _ hheap X'
  exact ⟨t, step t a1, b1⟩
theorem c_rcpy {w : WP} {Ω Ω' : OM} {j p a n j2 p2 a2 n2 : Nat} {g g' : HV} {f2 : Nat → Int32} {x y c : Int32} (hX : ∀ i, wOk w i → okX i) (hi : okX (4, j, p, a)) (h3 : wOk w (3, j, p, a)) (h4 : wOk w (4, j, p, a)) (hfr : wFr w (4, j, p, a)) (h32 : wOk w (3, j2, p2, a2)) (h42 : wOk w (4, j2, p2, a2)) (hn : rlen p a = n) (hN : n < 2 ^ 31) (hn2 : rlen p2 a2 = n2) (hN2 : n2 < 2 ^ 31) (e : Ω.1 j p = g) (ef : (Ω.1 j2 p2).2 a2 = f2) (hF : sA g a (rcpy n2 f2 n (g.2 a) x y c) = g') (e2 : sP Ω j p g' = Ω') : gM w 1 yX8_copyPart cX8_copyPart 6 none [.ref (wAd w (3, j, p, a)), .ref (wAd w (3, j2, p2, a2)), .int x, .int y, .int c] (cA w Ω) none (cA w Ω') := by
  refine gM_of "HedgeMessages$Row" rfl (by decide) (Nat.le_of_ble_eq_true rfl) fun X C => ?_
  unfold rcpy at hF
  subst e2
  have hid : sA g a (g.2 a) = g' → sP Ω j p g' = Ω := fun h => by
    subst h
    refine sP_i ?_
    rw [e]
    show g = (g.1, up g.2 a (g.2 a))
    rw [up_id]
  show gV w X _ _ 0 [(0, .ref (wAd w (3, j, p, a))), (1, .ref (wAd w (3, j2, p2, a2))), (2, .int x), (3, .int y), (4, .int c)] []
  have no : (sP Ω j p g' = Ω) → gV w X (none, cA w (sP Ω j p g')) (cA w Ω) 25 [(0, .ref (wAd w (3, j, p, a))), (1, .ref (wAd w (3, j2, p2, a2))), (2, .int x), (3, .int y), (4, .int c)] [] := fun h => by
    rw [h]
    refine r_iconst C (v := 0) rfl dX8_copyPart_25 ?_
    refine r_istore C (lo' := [(5, .int 0), (0, .ref (wAd w (3, j, p, a))), (1, .ref (wAd w (3, j2, p2, a2))), (2, .int x), (3, .int y), (4, .int c)]) (by decide) rfl dX8_copyPart_26 ?_
    refine r_iload C (k := 0) rfl dX8_copyPart_28 ?_
    refine r_if_eq C (tgt := 64) rfl dX8_copyPart_30 (fun _ => ?_) (fun h => absurd rfl h)
    exact r_return C dX8_copyPart_64
  refine r_iload_n C (k := 2) rfl rfl dX8_copyPart_0 ?_
  refine r_if_lt C (tgt := 25) rfl dX8_copyPart_1 (fun h => ?_) (fun b1 => ?_)
  · rw [if_pos h] at hF
    exact no (hid hF)
  rw [if_neg b1] at hF
  refine r_iload C (k := 4) rfl dX8_copyPart_4 ?_
  refine r_if_lt C (tgt := 25) rfl dX8_copyPart_6 (fun h => ?_) (fun b2 => ?_)
  · rw [if_pos h] at hF
    exact no (hid hF)
  rw [if_neg b2] at hF
  refine r_iload_n C (k := 2) rfl rfl dX8_copyPart_9 ?_
  refine r_aload_n C (k := 1) rfl rfl dX8_copyPart_10 ?_
  refine og_3_0 C h32 wm1_47 dX8_copyPart_11 ?_
  refine c_alen C h42 hn2 dX8_copyPart_14 ?_
  refine r_iload C (k := 4) rfl dX8_copyPart_15 ?_
  refine r_isub C dX8_copyPart_17 ?_
  refine r_icmp_gt C (tgt := 25) rfl dX8_copyPart_18 (fun h => ?_) (fun b3 => ?_)
  · rw [if_pos h] at hF
    exact no (hid hF)
  rw [if_neg b3] at hF
  refine r_iconst C (v := 1) rfl dX8_copyPart_21 ?_
  refine r_goto C (tgt := 26) rfl dX8_copyPart_22 ?_
  refine r_istore C (lo' := [(5, .int 1), (0, .ref (wAd w (3, j, p, a))), (1, .ref (wAd w (3, j2, p2, a2))), (2, .int x), (3, .int y), (4, .int c)]) (by decide) rfl dX8_copyPart_26 ?_
  refine r_iload C (k := 0) rfl dX8_copyPart_28 ?_
  refine r_if_eq C (tgt := 64) rfl dX8_copyPart_30 (fun h => absurd h (by decide)) (fun _ => ?_)
  refine r_iload_n C (k := 4) rfl rfl dX8_copyPart_33 ?_
  refine r_if_lt C (tgt := 64) rfl dX8_copyPart_34 (fun h => ?_) (fun b4 => ?_)
  · rw [if_pos h] at hF
    rw [hid hF]
    exact r_return C dX8_copyPart_64
  rw [if_neg b4] at hF
  refine r_iload_n C (k := 4) rfl rfl dX8_copyPart_37 ?_
  refine r_aload_n C (k := 1) rfl rfl dX8_copyPart_38 ?_
  refine og_3_0 C h3 wm1_47 dX8_copyPart_39 ?_
  refine c_alen C h4 hn dX8_copyPart_42 ?_
  refine r_iload C (k := 5) rfl dX8_copyPart_43 ?_
  refine r_isub C dX8_copyPart_45 ?_
  refine r_icmp_gt C (tgt := 64) rfl dX8_copyPart_46 (fun h => ?_) (fun b5 => ?_)
  · rw [if_pos h] at hF
    rw [hid hF]
    exact r_return C dX8_copyPart_64
  rw [if_neg b5] at hF
  subst hF
  refine r_aload_n C (k := 2) rfl rfl dX8_copyPart_49 ?_
  refine og_3_0 C h32 wm1_47 dX8_copyPart_50 ?_
  refine r_iload_n C (k := 3) rfl rfl dX8_copyPart_53 ?_
  refine r_aload_n C (k := 1) rfl rfl dX8_copyPart_54 ?_
  refine og_3_0 C h3 wm1_47 dX8_copyPart_55 ?_
  refine r_iload_n C (k := 4) rfl rfl dX8_copyPart_58 ?_
  refine r_iload C (k := 5) rfl dX8_copyPart_59 ?_
  refine r_acopy C (Nat.le_refl 1) hX wm2_153 hi hfr h42 hn hn2 e ef b1 b4 b2 (cpOf hN2 b1 b2 b3) (cpOf hN b4 b2 b5) (Nat.zero_le _) dX8_copyPart_61 rfl ?_
  exact r_return C dX8_copyPart_64
theorem c_rcpyF {w : WP} {Ω Ω' : OM} {j p a n j2 p2 a2 n2 : Nat} {g g' : HV} {f2 : Nat → Int32} (hX : ∀ i, wOk w i → okX i) (hi : okX (4, j, p, a)) (h3 : wOk w (3, j, p, a)) (h4 : wOk w (4, j, p, a)) (hfr : wFr w (4, j, p, a)) (h32 : wOk w (3, j2, p2, a2)) (h42 : wOk w (4, j2, p2, a2)) (hn : rlen p a = n) (hN : n < 2 ^ 31) (hn2 : rlen p2 a2 = n2) (hN2 : n2 < 2 ^ 31) (e : Ω.1 j p = g) (ef : (Ω.1 j2 p2).2 a2 = f2) (hF : sA g a (rcpy n2 f2 n (g.2 a) 0 0 (nI n)) = g') (e2 : sP Ω j p g' = Ω') : gM w 2 yX8_copyFrom cX8_copyFrom 2 none [.ref (wAd w (3, j, p, a)), .ref (wAd w (3, j2, p2, a2))] (cA w Ω) none (cA w Ω') := by
  refine gM_of "HedgeMessages$Row" rfl (by decide) (Nat.le_of_ble_eq_true rfl) fun X C => ?_
  show gV w X _ _ 0 [(0, .ref (wAd w (3, j, p, a))), (1, .ref (wAd w (3, j2, p2, a2)))] []
  refine r_aload_n C (k := 0) rfl rfl dX8_copyFrom_0 ?_
  refine r_aload_n C (k := 1) rfl rfl dX8_copyFrom_1 ?_
  refine r_iconst C (v := 0) rfl dX8_copyFrom_2 ?_
  refine r_iconst C (v := 0) rfl dX8_copyFrom_3 ?_
  refine r_aload_n C (k := 0) rfl rfl dX8_copyFrom_4 ?_
  refine og_3_0 C h3 wm1_47 dX8_copyFrom_5 ?_
  refine c_alen C h4 hn dX8_copyFrom_8 ?_
  refine r_callV C (d' := 1) [.ref (wAd w (3, j2, p2, a2)), .int 0, .int 0, .int (nI n)] (c_rcpy hX hi h3 h4 hfr h32 h42 hn hN hn2 hN2 e ef hF e2) myX8_copyPart wm2_203 ⟨_, _, _, _, h3, rfl, rfl, rfl, rfl⟩ rfl (Nat.le_refl 2) (by decide) (Nat.zero_le _) rfl dX8_copyFrom_9 ?_
  exact r_return C dX8_copyFrom_12
def rclr (n : Nat) (f : Nat → Int32) : Nat → Int32 := fun q => if q < n then 0 else f q
theorem rclr_s {n : Nat} {f : Nat → Int32} : upd (rclr n f) n 0 = rclr (n + 1) f := by
  funext q
  unfold upd rclr
  by_cases h : q = n
  · rw [if_pos h, if_pos (by omega)]
  · rw [if_neg h]
    by_cases h2 : q < n
    · rw [if_pos h2, if_pos (by omega)]
    · rw [if_neg h2, if_neg (by omega)]
theorem sA_sA {g : HV} {a : Nat} {f f' : Nat → Int32} : sA (sA g a f) a f' = sA g a f' := by
  unfold sA
  rw [up_up]
theorem c_rclr {w : WP} {Ω Ω' : OM} {j p a n : Nat} {g g' : HV} (hX : ∀ i, wOk w i → okX i) (hi : okX (4, j, p, a)) (h3 : wOk w (3, j, p, a)) (h4 : wOk w (4, j, p, a)) (hfr : wFr w (4, j, p, a)) (hn : rlen p a = n) (hN : n < 2 ^ 31) (e : Ω.1 j p = g) (hF : sA g a (rclr n (g.2 a)) = g') (e2 : sP Ω j p g' = Ω') : gM w 0 yX8_clear cX8_clear 2 none [.ref (wAd w (3, j, p, a))] (cA w Ω) none (cA w Ω') := by
  refine gM_of "HedgeMessages$Row" rfl (by decide) (Nat.le_of_ble_eq_true rfl) fun X C => ?_
  subst hF e2
  show gV w X _ _ 0 [(0, .ref (wAd w (3, j, p, a)))] []
  have lp : ∀ t k, k + t = n → gV w X (none, cA w (sP Ω j p (sA g a (rclr n (g.2 a))))) (cA w (sP Ω j p (sA g a (rclr k (g.2 a))))) 2 [(1, .int (nI k)), (0, .ref (wAd w (3, j, p, a)))] [] := by
    intro t
    induction t with
    | zero =>
      intro k hk
      have hk' : k = n := by omega
      subst hk'
      refine r_iload_n C (k := 0) rfl rfl dX8_clear_2 ?_
      refine r_aload_n C (k := 1) rfl rfl dX8_clear_3 ?_
      refine og_3_0 C h3 wm1_47 dX8_clear_4 ?_
      refine c_alen C h4 hn dX8_clear_7 ?_
      refine r_icmp_ge C (tgt := 24) rfl dX8_clear_8 (fun _ => ?_) (fun h => absurd (nI_le (Nat.le_refl _) hN) h)
      exact r_return C dX8_clear_24
    | succ t ih =>
      intro k hk
      refine r_iload_n C (k := 0) rfl rfl dX8_clear_2 ?_
      refine r_aload_n C (k := 1) rfl rfl dX8_clear_3 ?_
      refine og_3_0 C h3 wm1_47 dX8_clear_4 ?_
      refine c_alen C h4 hn dX8_clear_7 ?_
      refine r_icmp_ge C (tgt := 24) rfl dX8_clear_8 (fun h => absurd h (nI_ge (by omega) hN)) (fun _ => ?_)
      refine r_aload_n C (k := 1) rfl rfl dX8_clear_11 ?_
      refine og_3_0 C h3 wm1_47 dX8_clear_12 ?_
      refine r_iload_n C (k := 0) rfl rfl dX8_clear_15 ?_
      refine r_iconst C (v := 0) rfl dX8_clear_16 ?_
      refine c_ast C hX hi hfr sP_g hn (vp_in_nI (n := k) (by omega) hN) dX8_clear_17 (sP_P.trans (congrArg (sP Ω j p) (show _ = sA g a (rclr (k + 1) (g.2 a)) by rw [sA_sA, nI_clamp (by omega)]; show sA g a (upd (up g.2 a _ a) k 0) = _; rw [up_s, rclr_s]))) ?_
      refine r_iinc C (k := 0) (v := nI (k + 1)) (lo' := [(1, .int (nI (k + 1))), (0, .ref (wAd w (3, j, p, a)))]) rfl (by rw [nI_succ]; rfl) (by decide) rfl dX8_clear_18 ?_
      refine r_goto C (tgt := 2) rfl dX8_clear_21 ?_
      exact ih (k + 1) (by omega)
  refine r_iconst C (v := 0) rfl dX8_clear_0 ?_
  refine r_istore_n C (lo' := [(1, .int 0), (0, .ref (wAd w (3, j, p, a)))]) rfl (by decide) rfl dX8_clear_1 ?_
  refine r_ct (ct' := cA w (sP Ω j p (sA g a (rclr 0 (g.2 a))))) (congrArg (cA w) (sP_i ?_).symm) (lp n 0 (by omega))
  rw [e]
  have h0 : rclr 0 (g.2 a) = g.2 a := by
    funext q
    exact if_neg (Nat.not_lt_zero q)
  rw [h0]
  show g = (g.1, up g.2 a (g.2 a))
  rw [up_id]

