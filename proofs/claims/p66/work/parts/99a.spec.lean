/-! ===== what the calls that look on answer ===== -/
def sumF (f : Nat → Nat) : Nat → Nat
  | 0 => 0
  | n + 1 => sumF f n + f n
def lrF (R : Nat → Nat → Nat) : Nat → Nat × Nat
  | 0 => (0, 0)
  | n + 1 => if freB R n = true then (max (lrF R n).1 ((lrF R n).2 + 1), (lrF R n).2 + 1) else ((lrF R n).1, 0)
theorem lrF_s {R : Nat → Nat → Nat} {n : Nat} : lrF R (n + 1) = if freB R n = true then (max (lrF R n).1 ((lrF R n).2 + 1), (lrF R n).2 + 1) else ((lrF R n).1, 0) := rfl
theorem lrF_le {R : Nat → Nat → Nat} : ∀ i, (lrF R i).1 ≤ i ∧ (lrF R i).2 ≤ i := by
  intro i
  induction i with
  | zero => exact ⟨Nat.le_refl 0, Nat.le_refl 0⟩
  | succ i ih =>
    rw [lrF_s]
    by_cases c : freB R i = true
    · rw [if_pos c]
      exact ⟨Nat.max_le.mpr ⟨by omega, by omega⟩, by show _ + 1 ≤ _; omega⟩
    · rw [if_neg c]
      exact ⟨by show _ ≤ _; omega, Nat.zero_le _⟩
def yrdB (R : Nat → Nat → Nat) (Y : Nat) (y : Int32) (k : Nat) : Bool := decide (0 < R 2 k ∧ nI (k / Y) = y)
theorem yrdB_t {R : Nat → Nat → Nat} {Y : Nat} {y : Int32} {k : Nat} : (yrdB R Y y k = true) = (0 < R 2 k ∧ nI (k / Y) = y) := decide_eq_true_eq
def plR (R : Nat → Nat → Nat) (a k : Nat) : Nat := if 0 < a then (if 0 < R 2 k then 2 else if 0 < R 4 k then 3 else if 0 < R 3 k then 4 else 0) else 1
def toR (R : Nat → Nat → Nat) (a d k : Nat) : Nat := if 0 < a then (if 0 < R 2 k then (if R 1 k = d % 2 then 0 else 6) else 5) else 1
theorem toR_le {R : Nat → Nat → Nat} {a d k : Nat} : toR R a d k ≤ 6 := by
  unfold toR
  split
  · split
    · split <;> omega
    · omega
  · omega
def reR (R : Nat → Nat → Nat) (a d k : Nat) : Nat := if toR R a d k = 0 then (if 0 < R 4 k then 7 else if grd R k then 8 else 0) else toR R a d k
def trR (R : Nat → Nat → Nat) (a d k : Nat) : Nat := if toR R a d k = 0 then (if grd R k then 8 else 0) else toR R a d k
theorem plR_le {R : Nat → Nat → Nat} {a k : Nat} : plR R a k ≤ 4 := by
  unfold plR
  split
  · split
    · omega
    · split
      · omega
      · split <;> omega
  · omega
theorem reR_le {R : Nat → Nat → Nat} {a d k : Nat} : reR R a d k ≤ 8 := by
  have := toR_le (R := R) (a := a) (d := d) (k := k)
  unfold reR
  split
  · split
    · omega
    · split <;> omega
  · omega
theorem trR_le {R : Nat → Nat → Nat} {a d k : Nat} : trR R a d k ≤ 8 := by
  have := toR_le (R := R) (a := a) (d := d) (k := k)
  unfold trR
  split
  · split <;> omega
  · omega
noncomputable def wrR (A : AS) (g : Nat) : Nat := if g = Hn A 6 % 2 then (if 0 < Hn A 7 then (if (Hp A g).2.2 ≠ [] then 0 else if (Hq A g).length = 0 then 11 else match fStart (Hr A) (Hn A 0) ((Hq A g).getD 0 []).length with
  | some _ => 0
  | none => 12) else 1) else 13
def sgN (R : Nat → Nat → Nat) (k : Nat) : Nat := if 0 < R 2 k then (if R 1 k = 1 then R 0 k - 32 else R 0 k) else if 0 < R 4 k then 61 else if 0 < R 3 k then 42 else 46
def wrgB (R : Nat → Nat → Nat) (g s x : Nat) : Bool := decide (¬ (0 < R 2 (s + x) ∧ R 0 (s + x) = R 4 (s + x) ∧ R 1 (s + x) = g))
theorem wrgB_t {R : Nat → Nat → Nat} {g s x : Nat} : (wrgB R g s x = true) = ¬ (0 < R 2 (s + x) ∧ R 0 (s + x) = R 4 (s + x) ∧ R 1 (s + x) = g) := decide_eq_true_eq
def wrgN (R : Nat → Nat → Nat) (g s n : Nat) : Nat := cnt (wrgB R g s) n
def wrgL (A : AS) (i : Nat) : Nat := wrgN (Hr A) ((Hl A).getD i bare).1 ((Hl A).getD i bare).2.1 ((Hl A).getD i bare).2.2.length
def wrgAll (A : AS) : Nat := wrgN (Hr A) 0 (Hp A 0).2.1 (Hp A 0).1 + wrgN (Hr A) 1 (Hp A 1).2.1 (Hp A 1).1 + sumF (wrgL A) (Hl A).length
def b2N (b : Bool) : Nat := if b = true then 1 else 0
theorem b2N_le {b : Bool} : b2N b ≤ 1 := by cases b <;> decide
def svN (A : AS) (k : Nat) : Nat := (if k = 0 then 0 else b2N (pruB (Hr A) (Hn A 3) (k - 1))) + b2N (pruB (Hr A) (Hn A 3) k) + b2N (pruB (Hr A) (Hn A 3) (k + 1))
theorem svN_le {A : AS} {k : Nat} : svN A k ≤ 3 := by
  have h1 := b2N_le (b := pruB (Hr A) (Hn A 3) (k - 1))
  have h2 := b2N_le (b := pruB (Hr A) (Hn A 3) k)
  have h3 := b2N_le (b := pruB (Hr A) (Hn A 3) (k + 1))
  unfold svN
  split <;> omega
noncomputable def bnF (A : AS) : Nat → Option Nat × Option Nat
  | 0 => (none, none)
  | n + 1 => @ite _ (Hr A 3 n = 0 ∧ ∀ m, (bnF A n).2 = some m → m < svN A n) (Classical.propDecidable _) (some n, some (svN A n)) (bnF A n)
theorem bnF_s {A : AS} {n : Nat} : bnF A (n + 1) = @ite _ (Hr A 3 n = 0 ∧ ∀ m, (bnF A n).2 = some m → m < svN A n) (Classical.propDecidable _) (some n, some (svN A n)) (bnF A n) := rfl
theorem bnF_le {A : AS} : ∀ i m, (bnF A i).2 = some m → m ≤ 3 := by
  intro i
  induction i with
  | zero => intro m h; cases h
  | succ i ih =>
    intro m h
    have hs := svN_le (A := A) (k := i)
    rw [bnF_s] at h
    split at h
    · cases h; exact hs
    · exact ih m h
noncomputable def bstR (A : AS) : Int32 := if 6 ≤ cnt (nstB (Hr A)) (Hn A 0) then -1 else oI (bnF A (Hn A 0)).1
def pstB (A : AS) (g i : Nat) : Bool := decide (((Hl A).getD i bare).1 = g)
theorem pstB_t {A : AS} {g i : Nat} : (pstB A g i = true) = (((Hl A).getD i bare).1 = g) := decide_eq_true_eq
def hmB (A : AS) (g : Nat) : Bool := decide (0 < (Hq A g).length ∨ (Hp A g).2.2 ≠ [] ∨ 0 < cnt (pstB A g) (Hl A).length)
