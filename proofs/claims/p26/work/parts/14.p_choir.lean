/-! the choir's facts, as both sides reckon them -/
def sumI (h : Nat → Int32) : Nat → Int32
  | 0 => 0
  | k + 1 => sumI h k + h k
def ffind (p : Nat → Bool) : Nat → Option Nat
  | 0 => none
  | k + 1 => match ffind p k with
    | some i => some i
    | none => if p k = true then some k else none
theorem ffind_none {p : Nat → Bool} : ∀ {k : Nat}, (∀ i, i < k → p i = false) → ffind p k = none := by
  intro k
  induction k with
  | zero => intro _; rfl
  | succ k ih =>
    intro h
    simp only [ffind]
    rw [ih (fun i hi => h i (by omega)), h k (by omega)]
    rfl
theorem ffind_some {p : Nat → Bool} {i : Nat} : ∀ {k : Nat}, i < k → p i = true → (∀ j, j < i → p j = false) → ffind p k = some i := by
  intro k
  induction k with
  | zero => intro h; omega
  | succ k ih =>
    intro hi hp hj
    simp only [ffind]
    rcases Nat.lt_or_ge i k with q | q
    · rw [ih q hp hj]
    · have e : i = k := by omega
      subst e
      rw [ffind_none hj, hp]
      rfl
theorem ffind_lt {p : Nat → Bool} : ∀ {k i : Nat}, ffind p k = some i → i < k ∧ p i = true := by
  intro k
  induction k with
  | zero => intro i h; cases h
  | succ k ih =>
    intro i h
    simp only [ffind] at h
    cases h2 : ffind p k with
    | some j => rw [h2] at h; cases h; have := ih h2; exact ⟨by omega, this.2⟩
    | none =>
      rw [h2] at h
      by_cases hp : p k = true
      · simp only [hp, if_true, Option.some.injEq] at h; subst h; exact ⟨by omega, hp⟩
      · simp [hp] at h
def fOpen (tr : Nat → Nat → Int32) (fb : Nat → Int32) (i : Int32) : Bool := decide (¬ rat 20 (tr 9) i = (-1)) && decide (¬ rat 10 fb (rat 20 (tr 8) i) = rat 20 (tr 9) i)
def fDue (tr : Nat → Nat → Int32) (tst : Nat → VS → Bool) (v : VS) (k : Nat) : Bool := (fOpen tr v.2.2.2.1 (nI k) || !decide (¬ rat 20 (tr 9) (nI k) = (-1))) && tst k v
/-- the tests' steps answer as tst says, whatever lay on the stack -/
def TstOK (nO : Nat) (tf tt kq : Nat → Nat) (ff fs : Nat → Int32) (tst : Nat → VS → Bool) : Prop := nO ≤ 20 ∧ ∀ k, k < nO → tf k ≤ 400 ∧ tt k ≤ 400 ∧ ∀ (v : VS) (f0 : Nat → Int32), hxT kq ff fs v (tf k) (tt k) f0 = tst k v
def fTdP (tr : Nat → Nat → Int32) (tst : Nat → VS → Bool) (v : VS) (c : Nat) (k : Nat) : Bool := decide (rat 20 (tr 10) (nI k) = nI c) && (fOpen tr v.2.2.2.1 (nI k) && tst k v)
def fToday (tr : Nat → Nat → Int32) (nO : Nat) (tst : Nat → VS → Bool) (v : VS) (c : Nat) : Option Nat :=
  if rat 5 (tr 3) (nI c) < 1 then none else if ¬ v.1 - v.1 / rat 5 (tr 3) (nI c) * rat 5 (tr 3) (nI c) = 0 then none else ffind (fTdP tr tst v c) nO
def fBsp (tr : Nat → Nat → Int32) (day : Int32) : Nat → Int32
  | 0 => -1
  | k + 1 => if rat 6 (tr 7) (nI k) ≤ day ∧ (fBsp tr day k = -1 ∨ rat 6 (tr 7) (fBsp tr day k) ≤ rat 6 (tr 7) (nI k)) then nI k else fBsp tr day k
def fAbs (x : Int32) : Int32 := if 0 ≤ x then x else 0 - x
def fDel (tr : Nat → Nat → Int32) (fb fq : Nat → Int32) (b k : Int32) : Int32 :=
  if rat 10 fb k = (-1) then 0 else rat 10 fq k - 2 * fAbs (rat 8 (tr 0) (rat 10 fb k) - rat 6 (tr 6) b)
def fCost (fr : Nat → Int32) (k : Int32) : Int32 := if fSq fr k = true then 3 else 0
def fPl1 (tr : Nat → Nat → Int32) (fb fq fr : Nat → Int32) (b : Int32) (k : Nat) : Int32 := fDel tr fb fq b (nI k) - fCost fr (nI k)
def fPleas (tr : Nat → Nat → Int32) (fb fq fr : Nat → Int32) (b : Int32) (nS : Nat) : Int32 := sumI (fPl1 tr fb fq fr b) nS
def fWst (tr : Nat → Nat → Int32) (fb fq fr : Nat → Int32) (b : Int32) : Nat → Int32 × Int32
  | 0 => (-1, 0)
  | k + 1 => if ¬ rat 10 fb (nI k) = (-1) ∧ ((fWst tr fb fq fr b k).1 = (-1) ∨ fPl1 tr fb fq fr b k < (fWst tr fb fq fr b k).2) then (nI k, fPl1 tr fb fq fr b k) else fWst tr fb fq fr b k
def fBear (fb : Nat → Int32) (x : Int32) (nS : Nat) : Int32 := sumI (fun k => if rat 10 fb (nI k) = x then 1 else 0) nS
def fSqk (fr : Nat → Int32) (nS : Nat) : Int32 := sumI (fun k => bI (fSq fr (nI k))) nS
def fWrm (fw : Nat → Int32) (nS : Nat) : Int32 := sumI (fun k => rat 10 fw (nI k)) nS
def fQua (fb fq : Nat → Int32) (nS : Nat) : Int32 := sumI (fun k => if rat 10 fb (nI k) = (-1) then 0 else rat 10 fq (nI k)) nS
def fOpn (tr : Nat → Nat → Int32) (fb : Nat → Int32) (nO : Nat) : Int32 := sumI (fun k => bI (fOpen tr fb (nI k))) nO
theorem fOpen_t {tr : Nat → Nat → Int32} {fb : Nat → Int32} {i : Int32} {d : Decidable (¬ rat 20 (tr 9) i = (-1))} (h1 : @decide (¬ rat 20 (tr 9) i = (-1)) d = true) (h2 : ¬ rat 10 fb (rat 20 (tr 8) i) = rat 20 (tr 9) i) : fOpen tr fb i = true := by
  unfold fOpen; rw [dt (dt' h1), dt h2]; rfl
theorem fOpen_f1 {tr : Nat → Nat → Int32} {fb : Nat → Int32} {i : Int32} {d : Decidable (¬ rat 20 (tr 9) i = (-1))} (h1 : @decide (¬ rat 20 (tr 9) i = (-1)) d = false) : fOpen tr fb i = false := by
  unfold fOpen; rw [df (df' h1)]; rfl
theorem fOpen_f2 {tr : Nat → Nat → Int32} {fb : Nat → Int32} {i : Int32} (h2 : rat 10 fb (rat 20 (tr 8) i) = rat 20 (tr 9) i) : fOpen tr fb i = false := by
  unfold fOpen; rw [df (p := ¬ rat 10 fb (rat 20 (tr 8) i) = rat 20 (tr 9) i) (fun h => h h2), Bool.and_false]
section
variable {tr : Nat → Nat → Int32} {tst : Nat → VS → Bool} {v : VS} {k c : Nat}
theorem fDue_t1 (h1 : fOpen tr v.2.2.2.1 (nI k) = true) (h2 : tst k v = true) : fDue tr tst v k = true := by unfold fDue; rw [h1, h2]; rfl
theorem fDue_t2 {d : Decidable (¬ rat 20 (tr 9) (nI k) = (-1))} (h1 : @decide (¬ rat 20 (tr 9) (nI k) = (-1)) d = false) (h2 : tst k v = true) : fDue tr tst v k = true := by unfold fDue; rw [df (df' h1), h2, Bool.not_false, Bool.or_true]; rfl
theorem fDue_f1 (h2 : tst k v = false) : fDue tr tst v k = false := by unfold fDue; rw [h2, Bool.and_false]
theorem fDue_f2 {d : Decidable (¬ rat 20 (tr 9) (nI k) = (-1))} (h1 : fOpen tr v.2.2.2.1 (nI k) = false) (h2 : @decide (¬ rat 20 (tr 9) (nI k) = (-1)) d = true) : fDue tr tst v k = false := by unfold fDue; rw [h1, dt (dt' h2)]; rfl
theorem fTdP_t (h1 : rat 20 (tr 10) (nI k) = nI c) (h2 : fOpen tr v.2.2.2.1 (nI k) = true) (h3 : tst k v = true) : fTdP tr tst v c k = true := by unfold fTdP; rw [dt h1, h2, h3]; rfl
theorem fTdP_1 (h1 : ¬ rat 20 (tr 10) (nI k) = nI c) : fTdP tr tst v c k = false := by unfold fTdP; rw [df h1]; rfl
theorem fTdP_2 (h2 : fOpen tr v.2.2.2.1 (nI k) = false) : fTdP tr tst v c k = false := by unfold fTdP; rw [h2, Bool.false_and, Bool.and_false]
theorem fTdP_3 (h3 : tst k v = false) : fTdP tr tst v c k = false := by unfold fTdP; rw [h3, Bool.and_false, Bool.and_false]
theorem fTd_a {nO : Nat} (h : rat 5 (tr 3) (nI c) < 1) : (-1) = oI (fToday tr nO tst v c) := by unfold fToday; rw [if_pos h]; rfl
theorem fTd_b {nO : Nat} (h : ¬ rat 5 (tr 3) (nI c) < 1) (h2 : ¬ v.1 - v.1 / rat 5 (tr 3) (nI c) * rat 5 (tr 3) (nI c) = 0) : (-1) = oI (fToday tr nO tst v c) := by unfold fToday; rw [if_neg h, if_pos h2]; rfl
theorem fTd_c {nO : Nat} (h : ¬ rat 5 (tr 3) (nI c) < 1) (h2 : v.1 - v.1 / rat 5 (tr 3) (nI c) * rat 5 (tr 3) (nI c) = 0) (h3 : k < nO) (h4 : fTdP tr tst v c k = true) (h5 : ∀ j, j < k → fTdP tr tst v c j = false) : nI k = oI (fToday tr nO tst v c) := by
  unfold fToday; rw [if_neg h, if_neg (fun q => q h2), ffind_some h3 h4 h5]; rfl
theorem fTd_d {nO : Nat} (h : ¬ rat 5 (tr 3) (nI c) < 1) (h2 : v.1 - v.1 / rat 5 (tr 3) (nI c) * rat 5 (tr 3) (nI c) = 0) (h5 : ∀ j, j < k → fTdP tr tst v c j = false) (he : k = nO) : (-1) = oI (fToday tr nO tst v c) := by
  unfold fToday; rw [if_neg h, if_neg (fun q => q h2), ← he, ffind_none h5]; rfl
variable {day x : Int32} {i : Nat}
theorem fBsp_a (hx : x = fBsp tr day i) (h : day < rat 6 (tr 7) (nI i)) : x = fBsp tr day (i + 1) := by
  subst hx; show _ = if _ then _ else _
  exact (if_neg (fun q => absurd q.1 (Int32.not_le.mpr h))).symm
theorem fBsp_b (hx : x = fBsp tr day i) (h : ¬ day < rat 6 (tr 7) (nI i)) (h2 : x = (-1)) : nI i = fBsp tr day (i + 1) := by
  subst hx; show _ = if _ then _ else _
  exact (if_pos ⟨Int32.not_lt.mp h, Or.inl h2⟩).symm
theorem fBsp_c (hx : x = fBsp tr day i) (h2 : ¬ x = (-1)) (h3 : rat 6 (tr 7) (nI i) < rat 6 (tr 7) x) : x = fBsp tr day (i + 1) := by
  subst hx; show _ = if _ then _ else _
  exact (if_neg (fun q => q.2.elim h2 (fun r => absurd r (Int32.not_le.mpr h3)))).symm
theorem fBsp_d (hx : x = fBsp tr day i) (h : ¬ day < rat 6 (tr 7) (nI i)) (h3 : ¬ rat 6 (tr 7) (nI i) < rat 6 (tr 7) x) : nI i = fBsp tr day (i + 1) := by
  subst hx; show _ = if _ then _ else _
  exact (if_pos ⟨Int32.not_lt.mp h, Or.inr (Int32.not_lt.mp h3)⟩).symm
variable {fb fq fr : Nat → Int32} {b y : Int32}
theorem fWst_a (hx : (x, y) = fWst tr fb fq fr b i) (h : rat 10 fb (nI i) = (-1)) : (x, y) = fWst tr fb fq fr b (i + 1) := by
  show _ = if _ then _ else _
  rw [← hx]; exact (if_neg (fun q => q.1 h)).symm
theorem fWst_b (hx : (x, y) = fWst tr fb fq fr b i) (h : ¬ rat 10 fb (nI i) = (-1)) (h2 : x = (-1)) : (nI i, fDel tr fb fq b (nI i) - fCost fr (nI i)) = fWst tr fb fq fr b (i + 1) := by
  show _ = if _ then _ else _
  rw [← hx]; exact (if_pos ⟨h, Or.inl h2⟩).symm
theorem fWst_c (hx : (x, y) = fWst tr fb fq fr b i) (h2 : ¬ x = (-1)) (h3 : y ≤ fDel tr fb fq b (nI i) - fCost fr (nI i)) : (x, y) = fWst tr fb fq fr b (i + 1) := by
  show _ = if _ then _ else _
  rw [← hx]; exact (if_neg (fun q => q.2.elim h2 (fun r => absurd r (Int32.not_lt.mpr h3)))).symm
theorem fWst_d (hx : (x, y) = fWst tr fb fq fr b i) (h : ¬ rat 10 fb (nI i) = (-1)) (h3 : ¬ y ≤ fDel tr fb fq b (nI i) - fCost fr (nI i)) : (nI i, fDel tr fb fq b (nI i) - fCost fr (nI i)) = fWst tr fb fq fr b (i + 1) := by
  show _ = if _ then _ else _
  rw [← hx]; exact (if_pos ⟨h, Or.inr (Int32.not_le.mp h3)⟩).symm
end
