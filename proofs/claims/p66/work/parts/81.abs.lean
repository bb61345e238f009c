/-! ===== the state of the document: numbers, counters, rows (0 letter 1 owner 2 length 3 nest 4 letter of a message), queues, in progress (written, start, word), posted ===== -/
abbrev Msg : Type := Nat × Nat × List Nat
abbrev AS : Type := (Nat → Nat) × (Nat → Int32) × (Nat → Nat → Nat) × (Nat → List (List Nat)) × (Nat → Nat × Nat × List Nat) × List Msg
def Hn (A : AS) : Nat → Nat := A.1
def Hc (A : AS) : Nat → Int32 := A.2.1
def Hr (A : AS) : Nat → Nat → Nat := A.2.2.1
def Hq (A : AS) : Nat → List (List Nat) := A.2.2.2.1
def Hp (A : AS) : Nat → Nat × Nat × List Nat := A.2.2.2.2.1
def Hl (A : AS) : List Msg := A.2.2.2.2.2
def Sn (A : AS) (v : Nat → Nat) : AS := (v, A.2.1, A.2.2.1, A.2.2.2.1, A.2.2.2.2.1, A.2.2.2.2.2)
def Sc (A : AS) (v : Nat → Int32) : AS := (A.1, v, A.2.2.1, A.2.2.2.1, A.2.2.2.2.1, A.2.2.2.2.2)
def Sr (A : AS) (v : Nat → Nat → Nat) : AS := (A.1, A.2.1, v, A.2.2.2.1, A.2.2.2.2.1, A.2.2.2.2.2)
def Sq (A : AS) (v : Nat → List (List Nat)) : AS := (A.1, A.2.1, A.2.2.1, v, A.2.2.2.2.1, A.2.2.2.2.2)
def Sp (A : AS) (v : Nat → Nat × Nat × List Nat) : AS := (A.1, A.2.1, A.2.2.1, A.2.2.2.1, v, A.2.2.2.2.2)
def Sl (A : AS) (v : List Msg) : AS := (A.1, A.2.1, A.2.2.1, A.2.2.2.1, A.2.2.2.2.1, v)
theorem Hn_Sn (A : AS) (v : Nat → Nat) : Hn (Sn A v) = v := rfl
theorem Hc_Sn (A : AS) (v : Nat → Nat) : Hc (Sn A v) = Hc A := rfl
theorem Hr_Sn (A : AS) (v : Nat → Nat) : Hr (Sn A v) = Hr A := rfl
theorem Hq_Sn (A : AS) (v : Nat → Nat) : Hq (Sn A v) = Hq A := rfl
theorem Hp_Sn (A : AS) (v : Nat → Nat) : Hp (Sn A v) = Hp A := rfl
theorem Hl_Sn (A : AS) (v : Nat → Nat) : Hl (Sn A v) = Hl A := rfl
theorem Hn_Sc (A : AS) (v : Nat → Int32) : Hn (Sc A v) = Hn A := rfl
theorem Hc_Sc (A : AS) (v : Nat → Int32) : Hc (Sc A v) = v := rfl
theorem Hr_Sc (A : AS) (v : Nat → Int32) : Hr (Sc A v) = Hr A := rfl
theorem Hq_Sc (A : AS) (v : Nat → Int32) : Hq (Sc A v) = Hq A := rfl
theorem Hp_Sc (A : AS) (v : Nat → Int32) : Hp (Sc A v) = Hp A := rfl
theorem Hl_Sc (A : AS) (v : Nat → Int32) : Hl (Sc A v) = Hl A := rfl
theorem Hn_Sr (A : AS) (v : Nat → Nat → Nat) : Hn (Sr A v) = Hn A := rfl
theorem Hc_Sr (A : AS) (v : Nat → Nat → Nat) : Hc (Sr A v) = Hc A := rfl
theorem Hr_Sr (A : AS) (v : Nat → Nat → Nat) : Hr (Sr A v) = v := rfl
theorem Hq_Sr (A : AS) (v : Nat → Nat → Nat) : Hq (Sr A v) = Hq A := rfl
theorem Hp_Sr (A : AS) (v : Nat → Nat → Nat) : Hp (Sr A v) = Hp A := rfl
theorem Hl_Sr (A : AS) (v : Nat → Nat → Nat) : Hl (Sr A v) = Hl A := rfl
theorem Hn_Sq (A : AS) (v : Nat → List (List Nat)) : Hn (Sq A v) = Hn A := rfl
theorem Hc_Sq (A : AS) (v : Nat → List (List Nat)) : Hc (Sq A v) = Hc A := rfl
theorem Hr_Sq (A : AS) (v : Nat → List (List Nat)) : Hr (Sq A v) = Hr A := rfl
theorem Hq_Sq (A : AS) (v : Nat → List (List Nat)) : Hq (Sq A v) = v := rfl
theorem Hp_Sq (A : AS) (v : Nat → List (List Nat)) : Hp (Sq A v) = Hp A := rfl
theorem Hl_Sq (A : AS) (v : Nat → List (List Nat)) : Hl (Sq A v) = Hl A := rfl
theorem Hn_Sp (A : AS) (v : Nat → Nat × Nat × List Nat) : Hn (Sp A v) = Hn A := rfl
theorem Hc_Sp (A : AS) (v : Nat → Nat × Nat × List Nat) : Hc (Sp A v) = Hc A := rfl
theorem Hr_Sp (A : AS) (v : Nat → Nat × Nat × List Nat) : Hr (Sp A v) = Hr A := rfl
theorem Hq_Sp (A : AS) (v : Nat → Nat × Nat × List Nat) : Hq (Sp A v) = Hq A := rfl
theorem Hp_Sp (A : AS) (v : Nat → Nat × Nat × List Nat) : Hp (Sp A v) = v := rfl
theorem Hl_Sp (A : AS) (v : Nat → Nat × Nat × List Nat) : Hl (Sp A v) = Hl A := rfl
theorem Hn_Sl (A : AS) (v : List Msg) : Hn (Sl A v) = Hn A := rfl
theorem Hc_Sl (A : AS) (v : List Msg) : Hc (Sl A v) = Hc A := rfl
theorem Hr_Sl (A : AS) (v : List Msg) : Hr (Sl A v) = Hr A := rfl
theorem Hq_Sl (A : AS) (v : List Msg) : Hq (Sl A v) = Hq A := rfl
theorem Hp_Sl (A : AS) (v : List Msg) : Hp (Sl A v) = Hp A := rfl
theorem Hl_Sl (A : AS) (v : List Msg) : Hl (Sl A v) = v := rfl
def bare : Nat × Nat × List Nat := (0, 0, [])
def okW (w : List Nat) : Prop := 1 ≤ w.length ∧ w.length ≤ 12 ∧ ∀ x, x < w.length → 97 ≤ w.getD x 0 ∧ w.getD x 0 ≤ 122
def okMs (R : Nat → Nat → Nat) (n : Nat) (m : Msg) : Prop := m.1 < 2 ∧ okW m.2.2 ∧ m.2.1 + m.2.2.length ≤ n ∧ ∀ x, x < m.2.2.length → R 4 (m.2.1 + x) = m.2.2.getD x 0
def apt (m m' : Msg) : Prop := m.2.1 + m.2.2.length < m'.2.1 ∨ m'.2.1 + m'.2.2.length < m.2.1
abbrev inM (m : Msg) (k : Nat) : Prop := m.2.1 ≤ k ∧ k < m.2.1 + m.2.2.length
def vM (R : Nat → Nat → Nat) (n : Nat) (L : List Msg) : Prop := (∀ m ∈ L, okMs R n m) ∧ (∀ k, 0 < R 4 k → ∃ m ∈ L, inM m k) ∧ L.Pairwise apt
def prg (A : AS) (g : Nat) : List Msg := if (Hp A g).2.2 = [] then [] else [(g, (Hp A g).2.1, (Hp A g).2.2)]
def msgs (A : AS) : List Msg := prg A 0 ++ (prg A 1 ++ Hl A)
def okPr (R : Nat → Nat → Nat) (p : Nat × Nat × List Nat) : Prop := (p.2.2 = [] → p = bare) ∧ (p.2.2 ≠ [] → p.1 < p.2.2.length ∧ ∀ x, p.1 ≤ x → x < p.2.2.length → R 2 (p.2.1 + x) = 0)
def okRw (R : Nat → Nat → Nat) (n D : Nat) : Prop := ∀ k, (n ≤ k → R 2 k = 0 ∧ R 3 k = 0 ∧ R 4 k = 0) ∧ (40 ≤ k → R 0 k = 0 ∧ R 1 k = 0) ∧ (0 < R 2 k → 97 ≤ R 0 k) ∧ R 0 k ≤ 122 ∧ R 1 k < 2 ∧ R 2 k ≤ 99 + 9 * D ∧ R 3 k ≤ 30 ∧ R 4 k ≤ 122
def nstB (R : Nat → Nat → Nat) (k : Nat) : Bool := decide (0 < R 3 k)
def twgB (R : Nat → Nat → Nat) (k : Nat) : Bool := decide (0 < R 2 k)
def okNu (f : Nat → Nat) (T : Nat) : Prop := (4 ≤ f 0 ∧ f 0 ≤ 40) ∧ (1 ≤ f 1 ∧ f 1 ≤ 12) ∧ f 2 ≤ 9 ∧ (1 ≤ f 3 ∧ f 3 ≤ 99) ∧ (1 ≤ f 4 ∧ f 4 ≤ 30) ∧ (1 ≤ f 5 ∧ f 5 ≤ 40) ∧ f 6 ≤ T ∧ f 7 ≤ 12
def okQu (q : Nat → List (List Nat)) : Prop := ∀ g, g < 2 → (q g).length ≤ 8 ∧ ∀ w ∈ q g, okW w
def Inv (A : AS) (T : Nat) : Prop := T < 2 ^ 20 ∧ okNu (Hn A) T ∧ okRw (Hr A) (Hn A 0) (Hn A 6) ∧ cnt (nstB (Hr A)) (Hn A 0) ≤ 6 ∧ okQu (Hq A) ∧ (∀ g, g < 2 → okPr (Hr A) (Hp A g)) ∧ vM (Hr A) (Hn A 0) (msgs A)
/-! how the program's two sides hold it -/
def RGc (C : Nat → Int32) (g : Nat) (u : HV) : Prop := ∀ c, c < 4 → u.1 (6 + c) = C (10 + 2 * c + g)
def RGp (p : Nat × Nat × List Nat) (u : HV) : Prop := u.1 3 = nI p.2.1 ∧ u.1 4 = nI p.2.2.length ∧ u.1 5 = nI p.1
def RGq (q : List (List Nat)) (u : HV) : Prop := u.1 2 = nI q.length ∧ (∀ k, k < q.length → u.2 1 k = nI (q.getD k []).length) ∧ ∀ k x, k < q.length → x < (q.getD k []).length → u.2 0 (12 * k + x) = nI ((q.getD k []).getD x 0)
def RG (A : AS) (g : Nat) (u : HV) : Prop := RGc (Hc A) g u ∧ RGp (Hp A g) u ∧ RGq (Hq A g) u
def RP (L : List Msg) (u : HV) : Prop := u.1 3 = nI L.length ∧ ∀ k, k < L.length → u.2 0 k = nI (L.getD k bare).1 ∧ u.2 1 k = nI (L.getD k bare).2.1 ∧ u.2 2 k = nI (L.getD k bare).2.2.length
def RHn (f : Nat → Nat) (u : HV) : Prop := ∀ i, i < 8 → u.1 i = nI (f i)
def RHc (c : Nat → Int32) (u : HV) : Prop := ∀ i, i < 3 → u.1 (16 + i) = c i
def RHr (R : Nat → Nat → Nat) (u : HV) : Prop := ∀ a k, a < 5 → k < 40 → u.2 a k = nI (R a k)
def RH (A : AS) (u : HV) : Prop := RHn (Hn A) u ∧ RHc (Hc A) u ∧ RHr (Hr A) u
def RC0 (A : AS) (h : Nat → HV) : Prop := RH A (h 0) ∧ ∀ g, g < 2 → RG A g (h (1 + g))
def RC (A : AS) (h : Nat → HV) : Prop := RC0 A h ∧ RP (Hl A) (h 3)
def wAt (s : Nat → Int32) (p : Nat) (w : List Nat) : Prop := s p = nI w.length ∧ ∀ x, x < w.length → s (p + 1 + x) = nI (w.getD x 0)
def mLet (R : Nat → Nat → Nat) (a k : Nat) : Nat := if a = 0 then (if 0 < R 2 k then R 0 k else 0) else if a = 1 then (if 0 < R 2 k then R 1 k else 0) else if a = 2 then R 2 k else if a = 3 then (if 0 < R 2 k ∧ 0 < R 4 k then 1 else 0) else R 3 k
def RMf (f : Nat → Nat) (s : Nat → Int32) : Prop := ∀ i, i < 8 → s i = nI (f i)
def RMc (C : Nat → Int32) (s : Nat → Int32) : Prop := (∀ i, i < 3 → s (8 + i) = C i) ∧ ∀ g c, g < 2 → c < 4 → s (14 + 2 * c + g) = C (10 + 2 * c + g)
def RMk (q : Nat → List (List Nat)) (L : List Msg) (s : Nat → Int32) : Prop := s 11 = nI L.length ∧ ∀ g, g < 2 → s (12 + g) = nI (q g).length
def RMr (R : Nat → Nat → Nat) (s : Nat → Int32) : Prop := ∀ a k, a < 5 → k < 40 → s (22 + 5 * k + a) = nI (mLet R a k)
def RMq (q : Nat → List (List Nat)) (s : Nat → Int32) : Prop := ∀ g k, g < 2 → k < (q g).length → wAt s (222 + 13 * (8 * g + k)) ((q g).getD k [])
def RMp (P : Nat → Nat × Nat × List Nat) (s : Nat → Int32) : Prop := ∀ g, g < 2 → s (430 + 15 * g) = nI (P g).2.2.length ∧ ((P g).2.2 ≠ [] → wAt s (430 + 15 * g) (P g).2.2 ∧ s (430 + 15 * g + 13) = nI (P g).2.1 ∧ s (430 + 15 * g + 14) = nI (P g).1)
def RMl (L : List Msg) (s : Nat → Int32) : Prop := ∀ k, k < L.length → wAt s (460 + 15 * k) (L.getD k bare).2.2 ∧ s (460 + 15 * k + 13) = nI (L.getD k bare).2.1 ∧ s (460 + 15 * k + 14) = nI (L.getD k bare).1
def RM (A : AS) (s : Nat → Int32) : Prop := RMf (Hn A) s ∧ RMc (Hc A) s ∧ RMk (Hq A) (Hl A) s ∧ RMr (Hr A) s ∧ RMq (Hq A) s ∧ RMp (Hp A) s ∧ RMl (Hl A) s
