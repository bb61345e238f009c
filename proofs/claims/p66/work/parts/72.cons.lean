/-! ===== cons 3: objects half made ===== -/
/-- what stands in each part as it begins: zeros, but the text's error position -/
def Om0 : OM := (fun _ p => (fun f => match p, f with
  | 4, 8 => -1
  | _, _ => 0, fun _ _ => 0), (fun _ => 0, fun _ _ => 0), fun _ => .inr (0, []))
/-- the ids J are as in the beginning, the others as ct has them -/
noncomputable def cN (w : WP) (J : ID → Prop) (ct : CT) : CT := fun i => @ite _ (J i) (Classical.propDecidable _) (cA w Om0 i) (ct i)
theorem cN_in {w : WP} {J : ID → Prop} {ct : CT} {i : ID} (h : J i) : cN w J ct i = cA w Om0 i := by
  unfold cN
  exact @if_pos _ (Classical.propDecidable _) h _ _ _
theorem cN_out {w : WP} {J : ID → Prop} {ct : CT} {i : ID} (h : ¬ J i) : cN w J ct i = ct i := by
  unfold cN
  exact @if_neg _ (Classical.propDecidable _) h _ _ _
noncomputable def cO (w : WP) (I : ID → Prop) (ct : CT) (i0 : ID) (e : va_E) : CT := upE (cN w I ct) i0 e
theorem upE_s {ct : CT} {i : ID} {e : va_E} : upE ct i e i = e := if_pos rfl
theorem upE_n {ct : CT} {i k : ID} {e : va_E} (h : k ≠ i) : upE ct i e k = ct k := if_neg h
/-- the ids that an id's contents name -/
def kids : ID → List ID
  | (0, j, _, _) => [(3, j, 0, 0), (3, j, 0, 1), (3, j, 0, 2), (3, j, 0, 3), (3, j, 0, 4), (1, j, 1, 0), (1, j, 2, 0), (2, j, 3, 0)]
  | (1, j, p, _) => [(3, j, p, 0), (3, j, p, 1)]
  | (2, j, p, _) => [(3, j, p, 0), (3, j, p, 1), (3, j, p, 2)]
  | (3, j, p, a) => [(4, j, p, a)]
  | (5, j, p, _) => [(3, j, p, 0)]
  | (6, j, p, _) => [(10, j, p, 0), (3, j, p, 1), (3, j, p, 2), (3, j, p, 3)]
  | (7, _, _, _) => [(0, 0, 0, 0), (0, 1, 0, 0), (0, 2, 0, 0), (8, 11, 7, 0), (5, 11, 4, 0), (6, 11, 5, 0), (3, 11, 6, 0)]
  | (8, j, p, _) => [(9, j, p, 0)]
  | (9, _, _, _) => [(0, 3, 0, 0), (0, 4, 0, 0), (0, 5, 0, 0), (0, 6, 0, 0), (0, 7, 0, 0), (0, 8, 0, 0), (0, 9, 0, 0), (0, 10, 0, 0)]
  | _ => []
theorem dF_z {w : WP} : dForm w 0 = none := if_pos rfl
theorem cA_ad {w : WP} {I1 I2 : ID → Prop} {ad1 ad2 : ID → Nat} (z : ID) (hz : z.1 ≤ 10) (h : ∀ k ∈ kids z, ad1 k = ad2 k) (h9 : z.1 = 9 → ∀ q, ad1 (0, 3 + q, 0, 0) = ad2 (0, 3 + q, 0, 0)) : cA (wM w I1 ad1) Om0 z = cA (wM w I2 ad2) Om0 z := by
  obtain ⟨k, j, p, a⟩ := z
  match k, hz with
  | 0, _ => 
    show (Sum.inr (2, [_, _, _, _, _, _, _, _, .ref (ad1 (3, j, 0, 0)), .ref (ad1 (3, j, 0, 1)), .ref (ad1 (3, j, 0, 2)), .ref (ad1 (3, j, 0, 3)), .ref (ad1 (3, j, 0, 4)), .ref (ad1 (1, j, 1, 0)), .ref (ad1 (1, j, 2, 0)), .ref (ad1 (2, j, 3, 0)), _, _, _]) : va_E) = _
    rw [h (3, j, 0, 0) (by simp [kids]), h (3, j, 0, 1) (by simp [kids]), h (3, j, 0, 2) (by simp [kids]), h (3, j, 0, 3) (by simp [kids]), h (3, j, 0, 4) (by simp [kids]), h (1, j, 1, 0) (by simp [kids]), h (1, j, 2, 0) (by simp [kids]), h (2, j, 3, 0) (by simp [kids])]
    rfl
  | 1, _ =>
    show (Sum.inr (1, [.ref (ad1 (3, j, p, 0)), .ref (ad1 (3, j, p, 1)), _, _, _, _, _, _, _, _]) : va_E) = _
    rw [h (3, j, p, 0) (by simp [kids]), h (3, j, p, 1) (by simp [kids])]
    rfl
  | 2, _ =>
    show (Sum.inr (4, [.ref (ad1 (3, j, p, 0)), .ref (ad1 (3, j, p, 1)), .ref (ad1 (3, j, p, 2)), _]) : va_E) = _
    rw [h (3, j, p, 0) (by simp [kids]), h (3, j, p, 1) (by simp [kids]), h (3, j, p, 2) (by simp [kids])]
    rfl
  | 3, _ =>
    show (Sum.inr (5, [.ref (ad1 (4, j, p, a))]) : va_E) = _
    rw [h (4, j, p, a) (by simp [kids])]
    rfl
  | 4, _ => rfl
  | 5, _ =>
    show (Sum.inr (6, [.ref (ad1 (3, j, p, 0)), _, _, _, _, _, _, _, _]) : va_E) = _
    rw [h (3, j, p, 0) (by simp [kids])]
    rfl
  | 6, _ =>
    show (Sum.inr (0, [.ref (ad1 (10, j, p, 0)), .ref (ad1 (3, j, p, 1)), .ref (ad1 (3, j, p, 2)), .ref (ad1 (3, j, p, 3)), _]) : va_E) = _
    rw [h (10, j, p, 0) (by simp [kids]), h (3, j, p, 1) (by simp [kids]), h (3, j, p, 2) (by simp [kids]), h (3, j, p, 3) (by simp [kids])]
    rfl
  | 7, _ =>
    show (Sum.inr (7, [.ref (ad1 (0, 0, 0, 0)), .ref (ad1 (0, 1, 0, 0)), .ref (ad1 (0, 2, 0, 0)), _, .ref (ad1 (8, 11, 7, 0)), .ref (ad1 (5, 11, 4, 0)), .ref (ad1 (6, 11, 5, 0)), .ref (ad1 (3, 11, 6, 0)), _]) : va_E) = _
    rw [h (0, 0, 0, 0) (by simp [kids]), h (0, 1, 0, 0) (by simp [kids]), h (0, 2, 0, 0) (by simp [kids]), h (8, 11, 7, 0) (by simp [kids]), h (5, 11, 4, 0) (by simp [kids]), h (6, 11, 5, 0) (by simp [kids]), h (3, 11, 6, 0) (by simp [kids])]
    rfl
  | 8, _ =>
    show (Sum.inr (3, [.ref (ad1 (9, j, p, 0)), _, _]) : va_E) = _
    rw [h (9, j, p, 0) (by simp [kids])]
    rfl
  | 9, _ =>
    show (Sum.inl (wHs w, 8, .inr (.inr (.inr (.inr (fun q => some (ad1 (0, 3 + q, 0, 0))))))) : va_E) = Sum.inl (wHs w, 8, .inr (.inr (.inr (.inr (fun q => some (ad2 (0, 3 + q, 0, 0)))))))
    rw [show (fun q => some (ad1 (0, 3 + q, 0, 0))) = fun q => some (ad2 (0, 3 + q, 0, 0)) from funext fun q => by rw [h9 rfl q]]
  | 10, _ =>
    show (Sum.inl (wFs w, 30, .inr (.inr (.inr (.inr (fun _ => dForm (wM w I1 ad1) 0))))) : va_E) = Sum.inl (wFs w, 30, .inr (.inr (.inr (.inr (fun _ => dForm (wM w I2 ad2) 0)))))
    rw [dF_z, dF_z]
def closed (I : ID → Prop) : Prop := (∀ i, I i → i.1 ≤ 10) ∧ ∀ i, I i → ∀ k ∈ kids i, I k
theorem closed_or {I J : ID → Prop} (h1 : closed I) (h2 : closed J) : closed (fun z => I z ∨ J z) := ⟨fun i h => h.elim (h1.1 i) (h2.1 i), fun i h k hk => h.elim (fun z => Or.inl (h1.2 i z k hk)) (fun z => Or.inr (h2.2 i z k hk))⟩
def IZ : ID → Prop := fun _ => False
theorem closed_Z : closed IZ := ⟨fun _ h => h.elim, fun _ h => h.elim⟩
def IR (j p a : Nat) : ID → Prop := fun z => one (3, j, p, a) z ∨ one (4, j, p, a) z
theorem closed_R {j p a : Nat} : closed (IR j p a) := by
  constructor
  · rintro i (rfl | rfl) <;> simp
  · rintro i (rfl | rfl) k hk
    · simp only [kids, List.mem_singleton] at hk
      exact Or.inr hk
    · simp [kids] at hk
theorem tg_R {j p a : Nat} {z : ID} (h : IR j p a z) : (z.1 = 3 ∨ z.1 = 4) ∧ z.2.1 = j ∧ z.2.2.1 = p ∧ z.2.2.2 = a := by
  rcases h with rfl | rfl
  · exact ⟨Or.inl rfl, rfl, rfl, rfl⟩
  · exact ⟨Or.inr rfl, rfl, rfl, rfl⟩
/-- from one world to the next: what was as in the beginning still is -/
theorem cN_grow {w : WP} {I N : ID → Prop} {ad ad' : ID → Nat} {ct : CT} (hcl : closed I) (hN : ∀ z, N z → ¬ (wOk w z ∨ I z)) (hag : gAg (wM w I ad) N ad') (h9 : (∀ z, I z → z.1 ≠ 9) ∨ ∀ q, ¬ N (0, 3 + q, 0, 0)) (z : ID) (hz : ¬ N z) : cN (wM w I ad) I ct z = cN (wM w (fun k => I k ∨ N k) ad') (fun k => I k ∨ N k) ct z := by
  by_cases h : I z
  · rw [cN_in h, cN_in (Or.inl h)]
    refine cA_ad z (hcl.1 z h) (fun k hk => (hag.1 k (Or.inr (hcl.2 z h k hk))).symm) (fun e q => ?_)
    rcases h9 with h9 | h9
    · exact absurd e (h9 z h)
    · exact (hag.2 _ (h9 q)).symm
  · rw [cN_out h, cN_out (fun e => e.elim h hz)]
theorem gU_P {w : WP} {X : CX} {Q : QT} {ct ct' : CT} {pc : Nat} {lo : List (Nat × Value)} {st : List Value} (h : ∀ z, wOk w z → ct z = ct' z) (k : gU w X Q ct' pc lo st) : gU w X Q ct pc lo st := by
  obtain ⟨p, e, R, s, m, args, below, meth, c, n, A⟩ := X
  exact fun H locs ls hP hS hl => k H locs ls (gP_cong h hP) hS hl
section STEP
variable {w : WP} {I : ID → Prop} {ad : ID → Nat} {X : CX} {cc : ByteArray} {own : String} {d nL mc ms : Nat} {Q : QT} {ct : CT} {pc : Nat} {lo : List (Nat × Value)}
/-- what holds of an object half made: the parts I are there, as in the beginning -/
def gH (w : WP) (I : ID → Prop) (ad : ID → Nat) (X : CX) (cc : ByteArray) (own : String) (d nL mc ms : Nat) : Prop := gD w ∧ gC (wM w I ad) X cc own none d nL ∧ gTn X mc ms ∧ gY w ∧ gAg w I ad ∧ gBh X I ad ∧ closed I ∧ ∀ z, I z → ¬ wOk w z
theorem wM_Z {w : WP} : wM w IZ (wAd w) = w := by
  unfold wM
  have h1 : (fun k => wOk w k ∨ IZ k) = wOk w := funext fun k => propext ⟨fun h => h.elim id (fun z => z.elim), Or.inl⟩
  have h2 : (fun k => wFr w k ∨ IZ k) = wFr w := funext fun k => propext ⟨fun h => h.elim id (fun z => z.elim), Or.inl⟩
  rw [h1, h2]
theorem gH_0 (C : gC w X cc own none d nL) (hT : gTn X mc ms) (hY : gY w) : gH w IZ (wAd w) X cc own d nL mc ms := by
  have hD : gD w := by
    obtain ⟨p, e, R, s, m, args, below, meth, c, nn, A⟩ := X
    exact C.2.2.2.2.2.1
  refine ⟨hD, ?_, hT, hY, ⟨fun _ _ => rfl, fun _ _ => rfl⟩, ?_, closed_Z, fun _ h => h.elim⟩
  · rw [wM_Z]; exact C
  · obtain ⟨p, e, R, s, m, args, below, meth, c, n, A⟩ := X
    exact fun _ h => h.elim
theorem s_start {i0 : ID} {e : va_E} (hct : ct i0 = e) (kk : gU (wM w IZ (wAd w)) X Q (cO (wM w IZ (wAd w)) IZ ct i0 e) pc lo []) : gU w X Q ct pc lo [] := by
  rw [wM_Z] at kk
  refine gU_P (fun z _ => ?_) kk
  unfold cO
  by_cases h : z = i0
  · subst h
    rw [upE_s, hct]
  · rw [upE_n h, cN_out (fun h => h)]
/-- what a constructor of a part does -/
def gCon (y : MethodName) (cc : ByteArray) (nL ci : Nat) (fs : List Value) (i : ID) (I : ID → Prop) (d mc ms : Nat) : Prop :=
  ∀ (w : WP) (_ : gD w) (_ : gY w) (_ : wFr w i) (_ : ∀ z, I z → ¬ wOk w z) (b : Nat) (_ : wAd w i = b) (ct : CT) (_ : ct i = .inr (ci, fs)), gMn w d y cc nL [.ref b] ct I (fun ad => cN (wM w I ad) (fun z => z = i ∨ I z) ct) mc ms
/-- this.f = new Row(n) -/
theorem s_row (G : gH w I ad X cc own d nL mc ms) (hdd : 2 ≤ d) {ci N idxF idxC idxI : Nat} {cl : String} {T : u_T} {ty : Nat → FieldType} (F : gF ci cl T N ty) (k : Nat) (i0 : ID) (j p a : Nat) (h0 : wFr w i0) (hN : ∀ z, IR j p a z → ¬ (wOk w z ∨ I z)) {b n : Nat} (hb : wAd w i0 = b) {fs fs' : (ID → Nat) → List Value} (hfs : ∀ ad1 ad2 : ID → Nat, (∀ z, I z → ad1 z = ad2 z) → fs ad1 = fs ad2) (hfs' : ∀ ad, fs' ad = (fs ad).set k (.ref (ad (3, j, p, a)))) (hk : k < N) (hlink : Cond.fieldLink own idxF (T k).1 (T k).2.1 (T k).2.2.1 ∈ lw_tbl) (hfin : (T k).2.2.2 = true) (hdecl : (T k).1 = own) (hty : ty k = .object "HedgeMessages$Row") (hlen : k < (fs ad).length) (hcl : Cond.classLink own idxC "HedgeMessages$Row" ∈ lw_tbl) (hck : tkw (Cond.classLink own idxC "HedgeMessages$Row") = true) (hli : Cond.methodLink own idxI yX8_init ∈ lw_tbl) (hn0 : 0 < n) (hn : n ≤ 10000) (hrl : rlen p a = n) (hlo : lo[0]? = some (0, .ref b)) {l : Nat}
    (d0 : decode cc pc = .ok (.aload_n 0, 1)) (d1 : decode cc (pc + 1) = .ok (.new idxC, 3)) (d2 : decode cc (pc + 1 + 3) = .ok (.dup, 1)) (d3 : ∀ {w9 : WP} {Q9 : QT} {ct9 : CT} {st9 : List Value}, gC w9 X cc own none d nL → gU w9 X Q9 ct9 (pc + 1 + 3 + 1 + l) lo (.int (nI n) :: st9) → gU w9 X Q9 ct9 (pc + 1 + 3 + 1) lo st9) (d4 : decode cc (pc + 1 + 3 + 1 + l) = .ok (.invokespecial idxI, 3)) (d5 : decode cc (pc + 1 + 3 + 1 + l + 3) = .ok (.putfield idxF, 3))
    (hq : qOk X (Q.1, Q.2.1 + 1 + 1, Q.2.2 + 1 + (0 + n)))
    (kk : ∀ ad', gH w (fun z => I z ∨ IR j p a z) ad' X cc own d nL mc ms → gU (wM w (fun z => I z ∨ IR j p a z) ad') X (Q.1, Q.2.1 + 1 + 1, Q.2.2 + 1 + (0 + n)) (cO (wM w (fun z => I z ∨ IR j p a z) ad') (fun z => I z ∨ IR j p a z) ct i0 (.inr (ci, fs' ad'))) (pc + 1 + 3 + 1 + l + 3 + 3) lo []) : gU (wM w I ad) X Q (cO (wM w I ad) I ct i0 (.inr (ci, fs ad))) pc lo [] := by
  obtain ⟨hD, C, hT, hY, hag, hbh, hclo, hIf⟩ := G
  have h0o : wOk w i0 := hD.2.1 i0 h0
  have h0I : ¬ I i0 := fun h => hIf i0 h h0o
  refine n_row (w := wM w I ad) C hT hY hdd F k i0 (3, j, p, a) (4, j, p, a) (Or.inl h0) (hN _ (Or.inl rfl)) (hN _ (Or.inr rfl)) (by intro h; cases h) ((hag.1 _ h0o).trans hb) upE_s hk hlink hfin hdecl hty hlen hcl hck hli hn0 hn hlo d0 d1 d2 d3 d4 d5 hq fun ad' hag' hbh' C' => ?_
  have hagF := gAg_M hag hag'
  have hbhF := gBh_M hbh hag' hbh'
  change gC (wM (wM w I ad) (IR j p a) ad') X cc own none d nL at C'
  change gU (wM (wM w I ad) (IR j p a) ad') _ _ _ _ _ _
  rw [wM_M] at C'
  rw [wM_M]
  refine gU_P (fun z hz => ?_) (kk ad' ⟨hD, C', hT, hY, hagF, hbhF, closed_or hclo closed_R, fun z hz => hz.elim (hIf z) (fun h h9 => hN z h (Or.inl h9))⟩)
  unfold cO
  by_cases h1 : z = i0
  · subst h1
    rw [upE_s, upE_s, hfs', hfs ad' ad (fun z hz => hag'.1 z (Or.inr hz))]
  · rw [upE_n h1, upE_n h1]
    by_cases h3 : z = (3, j, p, a)
    · subst h3
      rw [upE_s, cN_in (Or.inr (Or.inl rfl))]
      rfl
    · rw [upE_n h3]
      by_cases h4 : z = (4, j, p, a)
      · subst h4
        subst hrl
        rw [upE_s, cN_in (Or.inr (Or.inr rfl))]
        rfl
      · rw [upE_n h4, upE_n h1]
        exact cN_grow hclo hN hag' (Or.inr (fun q h => by rcases h with h | h <;> cases h)) z (fun h => h.elim h3 h4)
/-- this.f = new Part() -/
theorem s_part (G : gH w I ad X cc own d nL mc ms) {ci N idxF idxC idxI : Nat} {cl : String} {T : u_T} {ty : Nat → FieldType} (F : gF ci cl T N ty) (k : Nat) (i0 : ID) (i : ID) (Iy : ID → Prop) (h0 : wFr w i0) (hN : ∀ z, (z = i ∨ Iy z) → ¬ (wOk w z ∨ I z)) (hi : ¬ Iy i) (h9 : (∀ z, I z → z.1 ≠ 9) ∨ ∀ q, ¬ ((0, 3 + q, 0, 0) = i ∨ Iy (0, 3 + q, 0, 0))) {b : Nat} (hb : wAd w i0 = b) {fs fs' : (ID → Nat) → List Value} (hfs : ∀ ad1 ad2 : ID → Nat, (∀ z, I z → ad1 z = ad2 z) → fs ad1 = fs ad2) (hfs' : ∀ ad, fs' ad = (fs ad).set k (.ref (ad i)))
    {ci2 N2 : Nat} {cl2 : String} {T2 : u_T} {ty2 : Nat → FieldType} (F2 : gF ci2 cl2 T2 N2 ty2) {fs2 : List Value} (hfs2 : ∀ q, q < N2 → defaultValue (ty2 q) = vp_V fs2 q) {y : MethodName} {ccy : ByteArray} {nLy d' mc2 ms2 : Nat} (hM : gCon y ccy nLy ci2 fs2 i Iy d' mc2 ms2) (Y : gYI y ccy nLy 0) (hdd : d' + 1 ≤ d) (hnl : nLy ≤ 21) (hclz : closed (fun z => z = i ∨ Iy z))
    (hk : k < N) (hlink : Cond.fieldLink own idxF (T k).1 (T k).2.1 (T k).2.2.1 ∈ lw_tbl) (hfin : (T k).2.2.2 = true) (hdecl : (T k).1 = own) (hty : ty k = .object cl2) (hlen : k < (fs ad).length) (hcl : Cond.classLink own idxC cl2 ∈ lw_tbl) (hck : tkw (Cond.classLink own idxC cl2) = true) (hins : Cond.instantiable cl2 N2 ∈ lw_tbl) (hini : Cond.initialized cl2 ∈ lw_tbl) (hli : Cond.methodLink own idxI y ∈ lw_tbl) (hlo : lo[0]? = some (0, .ref b))
    (d0 : decode cc pc = .ok (.aload_n 0, 1)) (d1 : decode cc (pc + 1) = .ok (.new idxC, 3)) (d2 : decode cc (pc + 1 + 3) = .ok (.dup, 1)) (d4 : decode cc (pc + 1 + 3 + 1) = .ok (.invokespecial idxI, 3)) (d5 : decode cc (pc + 1 + 3 + 1 + 3) = .ok (.putfield idxF, 3))
    (hq : qOk X (Q.1, Q.2.1 + 1 + mc2, Q.2.2 + N2 + ms2))
    (kk : ∀ ad', gH w (fun z => I z ∨ (z = i ∨ Iy z)) ad' X cc own d nL mc ms → gU (wM w (fun z => I z ∨ (z = i ∨ Iy z)) ad') X (Q.1, Q.2.1 + 1 + mc2, Q.2.2 + N2 + ms2) (cO (wM w (fun z => I z ∨ (z = i ∨ Iy z)) ad') (fun z => I z ∨ (z = i ∨ Iy z)) ct i0 (.inr (ci, fs' ad'))) (pc + 1 + 3 + 1 + 3 + 3) lo []) : gU (wM w I ad) X Q (cO (wM w I ad) I ct i0 (.inr (ci, fs ad))) pc lo [] := by
  obtain ⟨hD, C, hT, hY, hag, hbh, hclo, hIf⟩ := G
  have h0o : wOk w i0 := hD.2.1 i0 h0
  have h0I : ¬ I i0 := fun h => hIf i0 h h0o
  have h0N : ¬ (i0 = i ∨ Iy i0) := fun h => hN i0 h (Or.inl h0o)
  have hq1 : qOk X (Q.1, Q.2.1 + 1, Q.2.2 + N2) := by
    obtain ⟨p, e, R, s, m, args, below, meth, c, nn, A⟩ := X
    exact ⟨Nat.le_trans (Nat.le_add_right _ _) hq.1, Nat.le_trans (Nat.le_add_right _ _) hq.2⟩
  refine r_aload_n C (k := 0) hlo rfl d0 ?_
  refine r_new C F2 hcl hck hins hini i (hN i (Or.inl rfl)) (fs := fs2) hfs2 d1 hq1 fun q hag1 hbh1 C1 => ?_
  have hD1 : gD (wM (wM w I ad) (one i) (adU (wM w I ad) i q)) := by
    obtain ⟨p, e, R, s, m, args, below, meth, c, nn, A⟩ := X
    exact C1.2.2.2.2.2.1
  have hqi : adU (wM w I ad) i q i = q := if_pos rfl
  refine r_dup C1 rfl d2 ?_
  refine r_ctor C1 (d' := d') [] (hM (wM (wM w I ad) (one i) (adU (wM w I ad) i q)) hD1 hY (Or.inr rfl) (fun z hz h => h.elim (hN z (Or.inr hz)) (fun h => hi (by rw [← (h : z = i)]; exact hz))) q hqi _ upE_s) Y hli rfl hdd hnl (kR rfl) rfl d4 hq fun ad' hag2 hbh2 C2 => ?_
  have hag' : gAg (wM w I ad) (fun z => z = i ∨ Iy z) ad' := gAg_M hag1 hag2
  have hbh' : gBh X (fun z => z = i ∨ Iy z) ad' := gBh_M hbh1 hag2 hbh2
  have had : ad' i = q := (hag2.1 i (Or.inr rfl)).trans hqi
  have hagF := gAg_M hag hag'
  have hbhF := gBh_M hbh hag' hbh'
  have eW : wM (wM (wM w I ad) (one i) (adU (wM w I ad) i q)) Iy ad' = wM w (fun z => I z ∨ (z = i ∨ Iy z)) ad' := by
    rw [wM_M, wM_M]
    rfl
  rw [eW] at C2
  rw [eW]
  refine r_putR C2 hT F k i0 (Or.inl h0) ((hagF.1 i0 h0o).trans hb) (fs := fs ad) ?_ hk hlink hfin hdecl (by rw [hty]; rfl) (by rw [hty]; rfl) hlen d5 (ct' := cO (wM w (fun z => I z ∨ (z = i ∨ Iy z)) ad') (fun z => I z ∨ (z = i ∨ Iy z)) ct i0 (.inr (ci, fs' ad'))) (fun z _ => ?_) (kk ad' ⟨hD, C2, hT, hY, hagF, hbhF, closed_or hclo hclz, fun z hz => hz.elim (hIf z) (fun h h9 => hN z h (Or.inl h9))⟩)
  · rw [cN_out h0N, upE_n (fun e => h0N (Or.inl e))]
    unfold cO
    rw [upE_s]
  · unfold cO
    by_cases h1 : z = i0
    · subst h1
      rw [upE_s, upE_s, hfs', hfs ad' ad (fun z hz => hag'.1 z (Or.inr hz)), had]
    · rw [upE_n h1, upE_n h1]
      by_cases hz : z = i ∨ Iy z
      · rw [cN_in hz, cN_in (Or.inr hz)]
      · rw [cN_out hz, upE_n (fun e => hz (Or.inl e)), upE_n h1]
        exact cN_grow hclo hN hag' h9 z hz
/-- a number laid into a field -/
theorem s_put (G : gH w I ad X cc own d nL mc ms) {ci N idx : Nat} {cl : String} {T : u_T} {ty : Nat → FieldType} (F : gF ci cl T N ty) (k : Nat) (i0 : ID) (h0 : wFr w i0) {b : Nat} (hb : wAd w i0 = b) {fs fs' : (ID → Nat) → List Value} {x : Int32} (hfs' : ∀ ad, fs' ad = (fs ad).set k (.int x)) (hk : k < N) (hlink : Cond.fieldLink own idx (T k).1 (T k).2.1 (T k).2.2.1 ∈ lw_tbl) (hfin : (T k).2.2.2 = false) (hty : ty k = .int) (hlen : k < (fs ad).length) (hd : decode cc pc = .ok (.putfield idx, 3))
    (kk : gU (wM w I ad) X Q (cO (wM w I ad) I ct i0 (.inr (ci, fs' ad))) (pc + 3) lo []) : gU (wM w I ad) X Q (cO (wM w I ad) I ct i0 (.inr (ci, fs ad))) pc lo [.int x, .ref b] := by
  obtain ⟨hD, C, hT, hY, hag, hbh, hclo, hIf⟩ := G
  have h0o : wOk w i0 := hD.2.1 i0 h0
  have e : b = wAd (wM w I ad) i0 := ((hag.1 i0 h0o).trans hb).symm
  subst e
  refine r_put C F k i0 (Or.inl h0) (fs := fs ad) upE_s hk hlink hfin (by rw [hty]; exact vp_nar_int x) (by rw [hty]; rfl) hlen hd (fun z _ => ?_) kk
  unfold cO
  by_cases h1 : z = i0
  · subst h1
    rw [upE_s, upE_s, hfs']
  · rw [upE_n h1, upE_n h1, upE_n h1]
theorem s_end (G : gH w I ad X cc own d nL mc ms) {i0 : ID} {ci : Nat} {fs : (ID → Nat) → List Value} (hfin : .inr (ci, fs ad) = cA (wM w I ad) Om0 i0) (hd : decode cc pc = .ok (.return_, 1)) : gU (wM w I ad) X (qN1 w X I (fun ad => cN (wM w I ad) (fun z => z = i0 ∨ I z) ct) mc ms, mc, ms) (cO (wM w I ad) I ct i0 (.inr (ci, fs ad))) pc lo [] := by
  obtain ⟨hD, C, hT, hY, hag, hbh, hclo, hIf⟩ := G
  refine r_nend (w := w) (w2 := wM w I ad) (I := I) rfl rfl C hD (fun _ h => h) hag hbh (fun z _ => ?_) hd
  show cO (wM w I ad) I ct i0 (.inr (ci, fs ad)) z = cN (wM w I ad) (fun z => z = i0 ∨ I z) ct z
  unfold cO
  by_cases h : z = i0
  · subst h
    rw [upE_s, hfin, cN_in (Or.inl rfl)]
  · rw [upE_n h]
    by_cases h1 : I z
    · rw [cN_in h1, cN_in (Or.inr h1)]
    · rw [cN_out h1, cN_out (fun e => e.elim h h1)]
end STEP
