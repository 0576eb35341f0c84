/-! what a row of numbers answers -/
def rat (n : Nat) (f : Nat → Int32) (i : Int32) : Int32 := if 0 ≤ i.toInt ∧ i.toInt < n then f i.toNatClampNeg else 0
def rput (n : Nat) (f : Nat → Int32) (i x : Int32) : Nat → Int32 := if 0 ≤ i.toInt ∧ i.toInt < n then upd f i.toNatClampNeg x else f
def rfill (n : Nat) (f : Nat → Int32) (x : Int32) (i : Nat) : Nat → Int32 := fun k => if k < i ∧ k < n then x else f k
theorem row_in {i : Int32} {n : Nat} (h1 : ¬ i < 0) (h2 : ¬ nI n ≤ i) (hn : n < 2147483648) : vp_in i n := by
  rw [vp_in_iff]
  have a1 : ¬ i.toInt < 0 := fun h => h1 (Int32.lt_iff_toInt_lt.mpr (by simpa using h))
  have a2 : ¬ (n : Int) ≤ i.toInt := fun h => h2 (Int32.le_iff_toInt_le.mpr (by rw [nI_toInt hn]; exact h))
  omega
theorem rat_lo {n : Nat} {f : Nat → Int32} {i : Int32} (h : i < 0) : 0 = rat n f i := by
  have a1 : i.toInt < 0 := by simpa using Int32.lt_iff_toInt_lt.mp h
  unfold rat; rw [if_neg (by omega)]
theorem rat_hi {n : Nat} {f : Nat → Int32} {i : Int32} (hn : n < 2147483648) (h : nI n ≤ i) : 0 = rat n f i := by
  have a1 := Int32.le_iff_toInt_le.mp h
  rw [nI_toInt hn] at a1
  unfold rat; rw [if_neg (by omega)]
theorem rat_ok {n : Nat} {f : Nat → Int32} {i : Int32} (h : vp_in i n) : f i.toNatClampNeg = rat n f i := by
  unfold rat; rw [if_pos (vp_in_iff.mp h)]
theorem rput_lo {n : Nat} {f : Nat → Int32} {i x : Int32} (h : i < 0) : rput n f i x = f := by
  have a1 : i.toInt < 0 := by simpa using Int32.lt_iff_toInt_lt.mp h
  unfold rput; rw [if_neg (by omega)]
theorem rput_hi {n : Nat} {f : Nat → Int32} {i x : Int32} (hn : n < 2147483648) (h : nI n ≤ i) : rput n f i x = f := by
  have a1 := Int32.le_iff_toInt_le.mp h
  rw [nI_toInt hn] at a1
  unfold rput; rw [if_neg (by omega)]
theorem rput_ok {n : Nat} {f : Nat → Int32} {i x : Int32} (h : vp_in i n) : rput n f i x = upd f i.toNatClampNeg x := by
  unfold rput; rw [if_pos (vp_in_iff.mp h)]
theorem rat_nI {n k : Nat} {f : Nat → Int32} (h : k < n) (hn : n < 2147483648) : rat n f (nI k) = f k := by
  rw [← rat_ok (vp_in_nI h hn), nI_clamp (by omega)]
theorem rput_nI {n k : Nat} {f : Nat → Int32} {x : Int32} (h : k < n) (hn : n < 2147483648) : rput n f (nI k) x = upd f k x := by
  rw [rput_ok (vp_in_nI h hn), nI_clamp (by omega)]
theorem rfill_0 {n : Nat} {f : Nat → Int32} {x : Int32} : f = rfill n f x 0 := by
  funext k; simp [rfill]
theorem rfill_s {n : Nat} {f : Nat → Int32} {x : Int32} {i : Nat} (h : i < n) : upd (rfill n f x i) i x = rfill n f x (i + 1) := by
  funext k
  by_cases hk : k = i
  · subst hk; simp [rfill, upd, h]
  · have : (k < i + 1) = (k < i) := by apply propext; omega
    simp [rfill, upd, hk, this]
