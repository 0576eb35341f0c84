/-! the reference's face -/
theorem fInS {p : Int32} {m : Nat} (hm : m < 999) : decide (0 ≤ p ∧ p ≤ nI m) = fIn p (m + 1) := by
  rw [← fIn_is (show m + 1 < 1000 by omega), nI_pred]
def fDys (p : Int32) (m : Nat) : Bool := decide (1 ≤ p ∧ p ≤ nI m)
theorem fDys_ok {k m : Nat} (h1 : 1 ≤ k) (h : k ≤ m) (hm : m < 1000) : fDys (nI k) m = true := by
  refine dt ⟨?_, nI_le h (by omega)⟩
  exact nI_le (a := 1) h1 (by omega)
theorem tf9 {b : Bool} (h : b = true) (h2 : b = false) : False := by rw [h] at h2; cases h2
def byu (x r : Int32) : Int32 := (x.toUInt32 >>> ((24 - r * 8).toUInt32 &&& Int32.toUInt32 31)).toInt32 &&& 255
def fdR (f : Nat → Int32) (n : Nat) (F : Nat → Int32) : Nat → Nat → Int32
  | 0 => f
  | m + 1 => upd (fdR f n F m) (n + m) (byu (F (m / 4)) (nI (m % 4)))
theorem bI_ite {p : Prop} [Decidable p] : bI (decide p) = if p then 1 else 0 := by
  by_cases h : p
  · rw [dt h, if_pos h]; rfl
  · rw [df h, if_neg h]; rfl
section
variable {tr : Nat → Nat → Int32} {tst : Nat → VS → Bool} {v : VS} {k : Nat}
theorem mDue_1 {d : Decidable (rat 20 (tr 9) (nI k) = (-1))} (h : bI (@decide (rat 20 (tr 9) (nI k) = (-1)) d) = 1) (h2 : tst k v = true) : fDue tr tst v k = true := by
  unfold fDue; rw [df (p := ¬ rat 20 (tr 9) (nI k) = (-1)) (fun x => x (dt' (bI_e1 h))), h2, Bool.not_false, Bool.or_true]; rfl
theorem mDue_0 {d : Decidable (rat 20 (tr 9) (nI k) = (-1))} (h : ¬ bI (@decide (rat 20 (tr 9) (nI k) = (-1)) d) = 1) (h2 : fOpen tr v.2.2.2.1 (nI k) = false) : fDue tr tst v k = false := by
  unfold fDue; rw [dt (p := ¬ rat 20 (tr 9) (nI k) = (-1)) (df' (bI_n1 h)), h2]; rfl
end
theorem fOrd_0 {tr : Nat → Nat → Int32} {k : Nat} {d : Decidable (rat 20 (tr 9) (nI k) = (-1))} : bI (@decide (rat 20 (tr 9) (nI k) = (-1)) d) = if rat 20 (tr 9) (nI k) = (-1) then 1 else 0 := by
  by_cases h : rat 20 (tr 9) (nI k) = (-1)
  · rw [dt h, if_pos h]; rfl
  · rw [df h, if_neg h]; rfl
/-- the best of some, with what it is to begin with, by the coins alone -/
def fBmx (ge : Bool) (co : Nat → Int32) (x : Int32 × Int32) : Nat → Int32 × Int32
  | 0 => x
  | i + 1 => if (if ge = true then (fBmx ge co x i).2 ≤ co i else (fBmx ge co x i).2 < co i) then (nI i, co i) else fBmx ge co x i
section
variable {co : Nat → Int32} {x : Int32 × Int32} {i : Nat} {a b v : Int32}
theorem fBmx_a (hv : v = co i) (hx : (a, b) = fBmx true co x i) (h : b ≤ v) : (nI i, v) = fBmx true co x (i + 1) := by
  show _ = if _ then _ else _
  rw [← hx, hv]; exact (if_pos (hv ▸ h)).symm
theorem fBmx_b (hv : v = co i) (hx : (a, b) = fBmx true co x i) (h : ¬ b ≤ v) : (a, b) = fBmx true co x (i + 1) := by
  show _ = if _ then _ else _
  rw [← hx]; exact (if_neg (hv ▸ h)).symm
theorem fBmx_c (hv : v = co i) (hx : (a, b) = fBmx false co x i) (h : b < v) : (nI i, v) = fBmx false co x (i + 1) := by
  show _ = if _ then _ else _
  rw [← hx, hv]; exact (if_pos (hv ▸ h)).symm
theorem fBmx_d (hv : v = co i) (hx : (a, b) = fBmx false co x i) (h : ¬ b < v) : (a, b) = fBmx false co x (i + 1) := by
  show _ = if _ then _ else _
  rw [← hx]; exact (if_neg (hv ▸ h)).symm
end
theorem dgs_s {h : Nat → Int32} {d : Int64} {i j : Nat} {v : Int32} (hv : v = h i) (hj : j = i + 1) : dgs h d i * 31 + v.toInt64 = dgs h d j := by
  subst hv; subst hj; rfl
def qStl (tr : Nat → Nat → Int32) (tn : Nat → Nat) (c : CS) (k : Nat) : Int32 := fDlt tr tn c k
section
variable {tr : Nat → Nat → Int32} {fb fq fr : Nat → Int32} {b x y v : Int32} {i : Nat}
theorem mWst_b (hx : (x, y) = fWst tr fb fq fr b i) (h : ¬ rat 10 fb (nI i) = (-1)) (hw : v = fPl1 tr fb fq fr b i) (h2 : x = (-1)) : (nI i, v) = fWst tr fb fq fr b (i + 1) := by
  subst hw; exact fWst_b hx h h2
theorem mWst_c (hx : (x, y) = fWst tr fb fq fr b i) (hw : v = fPl1 tr fb fq fr b i) (h2 : ¬ x = (-1)) (h3 : ¬ v < y) : (x, y) = fWst tr fb fq fr b (i + 1) := by
  subst hw; exact fWst_c hx h2 (Int32.not_lt.mp h3)
theorem mWst_d (hx : (x, y) = fWst tr fb fq fr b i) (h : ¬ rat 10 fb (nI i) = (-1)) (hw : v = fPl1 tr fb fq fr b i) (h3 : v < y) : (nI i, v) = fWst tr fb fq fr b (i + 1) := by
  subst hw; exact fWst_d hx h (Int32.not_le.mpr h3)
end
