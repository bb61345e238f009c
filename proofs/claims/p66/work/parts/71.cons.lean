/-! ===== cons 2: constructors of the class ===== -/
theorem dX8_init_0 : decode cX8_init 0 = .ok (.aload_n 0, 1) := by decide +kernel
theorem dX8_init_1 : decode cX8_init 1 = .ok (.invokespecial 1, 3) := by decide +kernel
theorem dX8_init_4 : decode cX8_init 4 = .ok (.aload_n 0, 1) := by decide +kernel
theorem dX8_init_5 : decode cX8_init 5 = .ok (.iload_n 1, 1) := by decide +kernel
theorem dX8_init_6 : decode cX8_init 6 = .ok (.ifCond .le 7, 3) := by decide +kernel
theorem dX8_init_9 : decode cX8_init 9 = .ok (.iload_n 1, 1) := by decide +kernel
theorem dX8_init_10 : decode cX8_init 10 = .ok (.goto 4, 3) := by decide +kernel
theorem dX8_init_13 : decode cX8_init 13 = .ok (.iconst 0, 1) := by decide +kernel
theorem dX8_init_14 : decode cX8_init 14 = .ok (.newarray .int, 2) := by decide +kernel
theorem dX8_init_16 : decode cX8_init 16 = .ok (.putfield 7, 3) := by decide +kernel
theorem dX8_init_19 : decode cX8_init 19 = .ok (.return_, 1) := by decide +kernel
theorem myX8_init : gYI yX8_init cX8_init 2 1 := ⟨wm1_45, wm1_14, ⟨by decide, by decide, by decide +kernel⟩, wm1_44, rfl⟩
theorem c_X8_init {w : WP} (hD : gD w) (hY : gY w) {i3 i4 : ID} (h3 : wFr w i3) (h4 : ¬ wOk w i4) {b n : Nat} (hb : wAd w i3 = b) {ct : CT} (hct : ct i3 = .inr (5, [.null])) (hn0 : 0 < n) (hn : n ≤ 10000) : gMn w 1 yX8_init cX8_init 2 [.ref b, .int (nI n)] ct (one i4) (fun ad => upE (upE ct i4 (.inl (wI w, n, .inl fun _ => 0))) i3 (.inr (5, [.ref (ad i4)]))) 1 (0 + n) := by
  have h34 : i3 ≠ i4 := fun h => h4 (h ▸ hD.2.1 _ h3)
  refine gMn_of "HedgeMessages$Row" rfl rfl (by decide) (kR rfl) fun X C hT => ?_
  have hq : qOk X ((qN1 w X (one i4) (fun ad => upE (upE ct i4 (.inl (wI w, n, .inl fun _ => 0))) i3 (.inr (5, [.ref (ad i4)]))) 1 (0 + n)), 0 + 1, 0 + n) := by
    obtain ⟨p, e, R, s, m, args, below, meth, c, nn, A⟩ := X
    exact ⟨hT.1, hT.2.1⟩
  show gU w X _ _ 0 [(0, .ref b), (1, .int (nI n))] []
  refine r_aload_n C (k := 0) rfl rfl dX8_init_0 ?_
  refine r_objInit C wm1_46 (Nat.le_refl 1) (kR rfl) dX8_init_1 ?_
  refine r_aload_n C (k := 0) rfl rfl dX8_init_4 ?_
  refine r_iload_n C (k := 1) rfl rfl dX8_init_5 ?_
  refine r_if_le C (tgt := 13) rfl dX8_init_6 (fun h => absurd h (nI_nle hn0 (by omega))) (fun _ => ?_)
  refine r_iload_n C (k := 1) rfl rfl dX8_init_9 ?_
  refine r_goto C (tgt := 14) rfl dX8_init_10 ?_
  refine r_newI C hY i4 h4 (nI_pos (by omega)) (nI_clamp (by omega)) (by omega) dX8_init_14 hq fun q hag hbh C2 => ?_
  refine r_putR C2 hT F8 0 i3 (Or.inl h3) ((hag.1 i3 (hD.2.1 _ h3)).trans hb) (fs := [.null]) ?_ (by decide) wm1_47 rfl rfl rfl rfl (kR rfl) dX8_init_16 (fun _ _ => rfl) ?_
  · unfold upE
    rw [if_neg h34]
    exact hct
  refine r_nend (w := w) (w2 := wM w (one i4) (adU w i4 q)) (I := one i4) rfl rfl C2 hD (fun _ h => h) hag hbh (fun i _ => ?_) dX8_init_19
  show upE _ i3 (.inr (5, [.ref q])) i = upE _ i3 (.inr (5, [.ref (adU w i4 q i4)])) i
  rw [show adU w i4 q i4 = q from if_pos rfl]
theorem wM_M {w : WP} {I1 I2 : ID → Prop} {ad1 ad2 : ID → Nat} : wM (wM w I1 ad1) I2 ad2 = wM w (fun k => I1 k ∨ I2 k) ad2 := by
  have h1 : (fun k => (wOk w k ∨ I1 k) ∨ I2 k) = fun k => wOk w k ∨ (I1 k ∨ I2 k) := funext fun k => propext or_assoc
  have h2 : (fun k => (wFr w k ∨ I1 k) ∨ I2 k) = fun k => wFr w k ∨ (I1 k ∨ I2 k) := funext fun k => propext or_assoc
  show (wL w, wD w, (fun k => (wOk w k ∨ I1 k) ∨ I2 k), (fun k => (wFr w k ∨ I1 k) ∨ I2 k), ad2, w.2.2.2.2.2.1, wE w) = _
  rw [h1, h2]
  rfl
theorem gAg_M {w : WP} {I1 I2 : ID → Prop} {ad1 ad2 : ID → Nat} (h1 : gAg w I1 ad1) (h2 : gAg (wM w I1 ad1) I2 ad2) : gAg w (fun k => I1 k ∨ I2 k) ad2 := ⟨fun i hi => (h2.1 i (Or.inl hi)).trans (h1.1 i hi), fun i hi => (h2.2 i (fun h => hi (Or.inr h))).trans (h1.2 i (fun h => hi (Or.inl h)))⟩
theorem gBh_M {w : WP} {X : CX} {I1 I2 : ID → Prop} {ad1 ad2 : ID → Nat} (h1 : gBh X I1 ad1) (h2 : gAg (wM w I1 ad1) I2 ad2) (h3 : gBh X I2 ad2) : gBh X (fun k => I1 k ∨ I2 k) ad2 := by
  obtain ⟨p, e, R, s, m, args, below, meth, c, n, A⟩ := X
  exact fun i hi => hi.elim (fun h => by rw [h2.1 i (Or.inr h)]; exact h1 i h) (h3 i)
/-- this.f = new Row(n): the row and its cells are new -/
theorem n_row {w : WP} {X : CX} {cc : ByteArray} {own : String} {d nL mc ms : Nat} {Q : QT} {ct : CT} {pc : Nat} {lo : List (Nat × Value)} (C : gC w X cc own none d nL) (hT : gTn X mc ms) (hY : gY w) (hdd : 2 ≤ d) {ci N idxF idxC idxI : Nat} {cl : String} {T : u_T} {ty : Nat → FieldType} (F : gF ci cl T N ty) (k : Nat) (i0 i3 i4 : ID) (h0 : wFr w i0) (h3 : ¬ wOk w i3) (h4 : ¬ wOk w i4) (h34 : i3 ≠ i4) {a n : Nat} (ha : wAd w i0 = a) {fs : List Value} (hct : ct i0 = .inr (ci, fs)) (hk : k < N) (hlink : Cond.fieldLink own idxF (T k).1 (T k).2.1 (T k).2.2.1 ∈ lw_tbl) (hfin : (T k).2.2.2 = true) (hdecl : (T k).1 = own) (hty : ty k = .object "HedgeMessages$Row") (hlen : k < fs.length) (hcl : Cond.classLink own idxC "HedgeMessages$Row" ∈ lw_tbl) (hck : tkw (Cond.classLink own idxC "HedgeMessages$Row") = true) (hli : Cond.methodLink own idxI yX8_init ∈ lw_tbl) (hn0 : 0 < n) (hn : n ≤ 10000) (hlo : lo[0]? = some (0, .ref a)) {l : Nat}
    (d0 : decode cc pc = .ok (.aload_n 0, 1)) (d1 : decode cc (pc + 1) = .ok (.new idxC, 3)) (d2 : decode cc (pc + 1 + 3) = .ok (.dup, 1)) (d3 : ∀ {w9 : WP} {Q9 : QT} {ct9 : CT} {st9 : List Value}, gC w9 X cc own none d nL → gU w9 X Q9 ct9 (pc + 1 + 3 + 1 + l) lo (.int (nI n) :: st9) → gU w9 X Q9 ct9 (pc + 1 + 3 + 1) lo st9) (d4 : decode cc (pc + 1 + 3 + 1 + l) = .ok (.invokespecial idxI, 3)) (d5 : decode cc (pc + 1 + 3 + 1 + l + 3) = .ok (.putfield idxF, 3))
    (hq : qOk X (Q.1, Q.2.1 + 1 + 1, Q.2.2 + 1 + (0 + n)))
    (kk : ∀ ad, gAg w (fun z => one i3 z ∨ one i4 z) ad → gBh X (fun z => one i3 z ∨ one i4 z) ad → gC (wM w (fun z => one i3 z ∨ one i4 z) ad) X cc own none d nL → gU (wM w (fun z => one i3 z ∨ one i4 z) ad) X (Q.1, Q.2.1 + 1 + 1, Q.2.2 + 1 + (0 + n)) (upE (upE (upE ct i4 (.inl (wI w, n, .inl fun _ => 0))) i3 (.inr (5, [.ref (ad i4)]))) i0 (.inr (ci, fs.set k (.ref (ad i3))))) (pc + 1 + 3 + 1 + l + 3 + 3) lo []) : gU w X Q ct pc lo [] := by
  have hD : gD w := by
    obtain ⟨p, e, R, s, m, args, below, meth, c, nn, A⟩ := X
    exact C.2.2.2.2.2.1
  have h0o := hD.2.1 _ h0
  have h03 : i0 ≠ i3 := fun h => h3 (h ▸ h0o)
  have h04 : i0 ≠ i4 := fun h => h4 (h ▸ h0o)
  have hq1 : qOk X (Q.1, Q.2.1 + 1, Q.2.2 + 1) := by
    obtain ⟨p, e, R, s, m, args, below, meth, c, nn, A⟩ := X
    exact ⟨Nat.le_trans (Nat.le_add_right _ _) hq.1, Nat.le_trans (Nat.le_add_right _ _) hq.2⟩
  refine r_aload_n C (k := 0) hlo rfl d0 ?_
  refine r_new C F8 hcl hck wm1_42 wm1_14 i3 h3 (fs := [.null]) (fun j hj => by match j, hj with | 0, _ => rfl) d1 hq1 fun q hag hbh C1 => ?_
  have hD1 : gD (wM w (one i3) (adU w i3 q)) := by
    obtain ⟨p, e, R, s, m, args, below, meth, c, nn, A⟩ := X
    exact C1.2.2.2.2.2.1
  have hq3 : adU w i3 q i3 = q := if_pos rfl
  refine r_dup C1 rfl d2 ?_
  refine d3 C1 ?_
  refine r_ctor C1 (d' := 1) [.int (nI n)] (c_X8_init hD1 hY (i3 := i3) (i4 := i4) (Or.inr rfl) (fun h => h.elim h4 (fun z => h34 z.symm)) hq3 (if_pos rfl) hn0 hn) myX8_init hli rfl hdd (by decide) (kR rfl) rfl d4 hq fun ad hag2 hbh2 C2 => ?_
  have hagF := gAg_M hag hag2
  have hbhF := gBh_M hbh hag2 hbh2
  have had3 : ad i3 = q := (hag2.1 i3 (Or.inr rfl)).trans hq3
  rw [wM_M] at C2
  rw [wM_M]
  refine r_putR C2 hT F k i0 (Or.inl h0) ((hagF.1 i0 h0o).trans ha) (fs := fs) ?_ hk hlink hfin hdecl (by rw [hty]; rfl) (by rw [hty]; rfl) hlen d5 (ct' := (upE (upE (upE ct i4 (.inl (wI w, n, .inl fun _ => 0))) i3 (.inr (5, [.ref (ad i4)]))) i0 (.inr (ci, fs.set k (.ref (ad i3)))))) (fun z _ => ?_) (kk ad hagF hbhF C2)
  · unfold upE
    rw [if_neg h03, if_neg h04, if_neg h03]
    exact hct
  · rw [had3]
    unfold upE
    by_cases hz : z = i0
    · rw [if_pos hz, if_pos hz]
    · rw [if_neg hz, if_neg hz]
      by_cases hz3 : z = i3
      · rw [if_pos hz3, if_pos hz3]
      · rw [if_neg hz3, if_neg hz3, if_neg hz3]
        rfl
