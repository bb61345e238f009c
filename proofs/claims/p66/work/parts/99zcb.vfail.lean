/-! ===== vfail: messages that fail, the inspection ===== -/
def J3 (A : AS) : Prop := Jt A ∧ (∀ g, g < 2 → Jm A g) ∧ Jx A
def Jp (A : AS) (g : Nat) : Prop := lvW (Hr A) (Hp A g).2.1 (Hp A g).1
/-- what failing does to the counts of messages -/
theorem opF2_m {A : AS} {g : Nat} {w : List Nat} {g' : Nat} (hg : g < 2) (hg' : g' < 2) : ((Hc (opF2 A g w) (10 + g') - Hc (opF2 A g w) (12 + g')) - Hc (opF2 A g w) (16 + g')) - nI (Hq (opF2 A g w) g').length = ((Hc A (10 + g') - Hc A (12 + g')) - Hc A (16 + g')) - nI (Hq A g').length - (if g = g' then 1 else 0) := by
  have h1 : Hc (opF1 A g) = up (Hc A) (14 + g) (Hc A (14 + g) + 1) := rfl
  have hx : ∀ a b c n : Int32, a - b - c - (n + 1) = a - b - c - n - 1 := fun a b c n => by grind
  have hy : ∀ a b c n : Int32, a - b - (c + 1) - n = a - b - c - n - 1 := fun a b c n => by grind
  unfold opF2
  by_cases c : (Hq A g).length < 8
  · rw [if_pos c]
    show ((up (Hc A) (14 + g) (Hc A (14 + g) + 1) (10 + g') - up (Hc A) (14 + g) (Hc A (14 + g) + 1) (12 + g')) - up (Hc A) (14 + g) (Hc A (14 + g) + 1) (16 + g')) - nI (up (Hq A) g (Hq A g ++ [w]) g').length = _
    rw [up_n (show 10 + g' ≠ 14 + g by omega), up_n (show 12 + g' ≠ 14 + g by omega), up_n (show 16 + g' ≠ 14 + g by omega)]
    by_cases e : g = g'
    · subst e
      rw [up_s, if_pos rfl, List.length_append, show [w].length = 1 from rfl, ← nI_s, hx]
    · rw [up_n (fun q => e q.symm), if_neg e, Int32.sub_zero]
  · rw [if_neg c]
    show ((up (Hc (opF1 A g)) (16 + g) (Hc (opF1 A g) (16 + g) + 1) (10 + g') - up (Hc (opF1 A g)) (16 + g) (Hc (opF1 A g) (16 + g) + 1) (12 + g')) - up (Hc (opF1 A g)) (16 + g) (Hc (opF1 A g) (16 + g) + 1) (16 + g')) - nI (Hq A g').length = _
    rw [up_n (show 10 + g' ≠ 16 + g by omega), up_n (show 12 + g' ≠ 16 + g by omega), h1, up_n (show 10 + g' ≠ 14 + g by omega), up_n (show 12 + g' ≠ 14 + g by omega), up_n (show 16 + g ≠ 14 + g by omega)]
    by_cases e : g = g'
    · subst e
      rw [up_s, if_pos rfl, hy]
    · rw [up_n (show 16 + g' ≠ 16 + g by omega), up_n (show 16 + g' ≠ 14 + g by omega), if_neg e, Int32.sub_zero]
theorem opF2_c {A : AS} {g : Nat} {w : List Nat} {i : Nat} (hi : i < 10) : Hc (opF2 A g w) i = Hc A i := by
  unfold opF2
  split
  · show up (Hc A) (14 + g) _ i = _
    rw [up_n (by omega)]
  · show up (up (Hc A) (14 + g) (Hc A (14 + g) + 1)) (16 + g) (Hc (opF1 A g) (16 + g) + 1) i = _
    rw [up_n (by omega), up_n (by omega)]
theorem Jm_fail {A B : AS} {m : Msg} {g' : Nat} (hm : m.1 < 2) (hg' : g' < 2) (h : Jm A g') (eq : Hq B = Hq (opFail A m)) (ec : Hc B = Hc (opFail A m)) (em : cntM g' (msgs B) + (if m.1 = g' then 1 else 0) = cntM g' (msgs A)) : Jm B g' := by
  have h1 := opF2_m (A := A) (g := m.1) (w := m.2.2) hm hg'
  have hc : ∀ i, 3 ≤ i → Hc (opFail A m) i = Hc (opF2 A m.1 m.2.2) i := fun i hi => up_n (show i ≠ 2 by omega)
  unfold Jm at *
  rw [eq, ec, hc _ (by omega), hc _ (by omega), hc _ (by omega), show Hq (opFail A m) = Hq (opF2 A m.1 m.2.2) from rfl]
  rw [h, ← em] at h1
  by_cases c : m.1 = g'
  · rw [if_pos c, if_pos c, ← Nat.add_assoc, ← nI_s, ← nI_add] at h1
    rw [← nI_add]
    have hx : ∀ x q a c : Int32, x - q = (a + c + 1) - a - 1 → x = q + c := fun x q a c h => by grind
    exact hx _ _ _ _ h1
  · rw [if_neg c, if_neg c, Nat.add_zero, ← nI_add] at h1
    rw [← nI_add]
    have hx : ∀ x q a c : Int32, x - q = (a + c) - a - 0 → x = q + c := fun x q a c h => by grind
    exact hx _ _ _ _ h1
theorem Jt_fail {A : AS} {m : Msg} (h : Jt A) (hs : m.2.1 + m.2.2.length ≤ Hn A 0) : Jt (opFail A m) := by
  have h1 : Jt (opF2 A m.1 m.2.2) := Jt_e h (by rw [opF2_n]) (fun j => by rw [opF2_r]) (fun i hi => opF2_c (by omega))
  exact Jt_clr h1 (by rw [opF2_n]; exact hs)
theorem J3_failP {A : AS} {T : Nat} {m : Msg} {K M : List Msg} (hI : Inv A T) (h : J3 A) (e : Hl A = K ++ m :: M) : J3 (Sl (opFail A m) (K ++ M)) := by
  have hmem : m ∈ Hl A := by rw [e]; exact List.mem_append_right _ List.mem_cons_self
  have ho := okl hI hmem
  obtain ⟨h1, h2, h3⟩ := h
  refine ⟨Jt_e (Jt_fail h1 ho.2.2.1) rfl (fun j => Iff.rfl) (fun _ _ => rfl), fun g' hg' => Jm_fail ho.1 hg' (h2 g' hg') rfl rfl ?_, ?_⟩
  · rw [msgs_cnt hg', msgs_cnt hg', e, cntM_rem]
    show (if (Hp (opFail A m) g').2.2 ≠ [] then 1 else 0) + cntM g' (K ++ M) + _ = _
    rw [opFail_p]
    omega
  · unfold Jx
    show (∀ g, g < 2 → gdW (Hr (opFail A m)) g (Hp (opFail A m) g).2.1 (Hp (opFail A m) g).1) ∧ ∀ m' ∈ K ++ M, gdW (Hr (opFail A m)) m'.1 m'.2.1 m'.2.2.length
    rw [opFail_r, opFail_p]
    exact rem_x hI e h3
