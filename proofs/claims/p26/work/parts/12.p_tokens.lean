/-! steps, tokens: what they hold, and how a tape is cut -/
def skind (kq : Nat → Nat) (i : Int32) : Nat := sg (if 0 ≤ i.toInt ∧ i.toInt < 400 then kq i.toNatClampNeg else 49)
theorem skind_lo {kq : Nat → Nat} {i : Int32} (h : i < 0) : 1 = skind kq i := by
  have a1 : i.toInt < 0 := by simpa using Int32.lt_iff_toInt_lt.mp h
  unfold skind; rw [if_neg (by omega)]; rfl
theorem skind_hi {kq : Nat → Nat} {i : Int32} (h : 400 ≤ i) : 1 = skind kq i := by
  have a1 := Int32.le_iff_toInt_le.mp h
  have a2 : (400 : Int32).toInt = 400 := by decide
  unfold skind; rw [if_neg (by omega)]; rfl
theorem skind_ok {kq : Nat → Nat} {i : Int32} (h : vp_in i 400) (hk : kq i.toNatClampNeg < 49) : kq i.toNatClampNeg = skind kq i := by
  have h2 : 0 ≤ i.toInt ∧ i.toInt < 400 := vp_in_iff.mp h
  unfold skind; rw [if_pos h2, sg_of hk]
theorem skind_no {kq : Nat → Nat} {i : Int32} (h : vp_in i 400) (hk : ¬ kq i.toNatClampNeg < 49) : 1 = skind kq i := by
  have h2 : 0 ≤ i.toInt ∧ i.toInt < 400 := vp_in_iff.mp h
  unfold skind; rw [if_pos h2, sg_not hk]
def tSg (sq : Nat → Nat) (i : Int32) : Nat := sg (if 0 ≤ i.toInt ∧ i.toInt < 401 then sq i.toNatClampNeg else 49)
def tVl (sv : Nat → Int64) (i : Int32) : Int64 := if 0 ≤ i.toInt ∧ i.toInt < 401 then sv i.toNatClampNeg else 0
theorem tSg_lt (sq : Nat → Nat) (i : Int32) : tSg sq i < 49 := sg_lt _
theorem tSg_lo {kq : Nat → Nat} {i : Int32} (h : i < 0) : 1 = tSg kq i := by
  have a1 : i.toInt < 0 := by simpa using Int32.lt_iff_toInt_lt.mp h
  unfold tSg; rw [if_neg (by omega)]; rfl
theorem tSg_hi {kq : Nat → Nat} {i : Int32} (h : 401 ≤ i) : 1 = tSg kq i := by
  have a1 := Int32.le_iff_toInt_le.mp h
  have a2 : (401 : Int32).toInt = 401 := by decide
  unfold tSg; rw [if_neg (by omega)]; rfl
theorem tSg_ok {kq : Nat → Nat} {i : Int32} (h : vp_in i 401) (hk : kq i.toNatClampNeg < 49) : kq i.toNatClampNeg = tSg kq i := by
  have h2 : 0 ≤ i.toInt ∧ i.toInt < 401 := vp_in_iff.mp h
  unfold tSg; rw [if_pos h2, sg_of hk]
theorem tSg_no {kq : Nat → Nat} {i : Int32} (h : vp_in i 401) (hk : ¬ kq i.toNatClampNeg < 49) : 1 = tSg kq i := by
  have h2 : 0 ≤ i.toInt ∧ i.toInt < 401 := vp_in_iff.mp h
  unfold tSg; rw [if_pos h2, sg_not hk]
theorem tVl_lo {f : Nat → Int64} {i : Int32} (h : i < 0) : 0 = tVl f i := by
  have a1 : i.toInt < 0 := by simpa using Int32.lt_iff_toInt_lt.mp h
  unfold tVl; rw [if_neg (by omega)]
theorem tVl_hi {f : Nat → Int64} {i : Int32} (h : 401 ≤ i) : 0 = tVl f i := by
  have a1 := Int32.le_iff_toInt_le.mp h
  have a2 : (401 : Int32).toInt = 401 := by decide
  unfold tVl; rw [if_neg (by omega)]
theorem tVl_ok {f : Nat → Int64} {i : Int32} (h : vp_in i 401) : f i.toNatClampNeg = tVl f i := by
  have h2 : 0 ≤ i.toInt ∧ i.toInt < 401 := vp_in_iff.mp h
  unfold tVl; rw [if_pos h2]
/-- below i what is told, else what was -/
def cutN {α : Type} (i : Nat) (h g : Nat → α) : Nat → α := fun j => if j < i then h j else g j
theorem cut_0 {α : Type} {h g : Nat → α} : cutN 0 h g = g := by funext j; simp [cutN]
theorem cut_va {α : Type} {h g : Nat → α} {i : Nat} : va_up (cutN i h g) i (h i) = cutN (i + 1) h g := by
  funext j
  by_cases q : j = i
  · subst q; simp [va_up, cutN]
  · have : (j < i + 1) = (j < i) := by apply propext; omega
    simp [va_up, cutN, q, this]
theorem cut_u {h g : Nat → Int32} {i : Nat} : upd (cutN i h g) i (h i) = cutN (i + 1) h g := cut_va
theorem cut_l {h g : Nat → Int64} {i : Nat} : vp_updL (cutN i h g) i (h i) = cutN (i + 1) h g := cut_va
def isL (b : Int32) : Bool := decide ((97 : Int32) ≤ b ∧ b ≤ 122)
def isD (b : Int32) : Bool := decide ((48 : Int32) ≤ b ∧ b ≤ 57)
def isB (b : Int32) : Bool := decide (b = 32 ∨ b = 10)
def skb (f : Nat → Int32) : Nat → Nat → Nat
  | 0, p => p
  | k + 1, p => if isB (f p) = true then skb f k (p + 1) else p
def skp (f : Nat → Int32) (n p : Nat) : Nat := skb f (n - p) p
theorem skp_end {f : Nat → Int32} {n p : Nat} (h : n ≤ p) : skp f n p = p := by
  unfold skp; rw [show n - p = 0 by omega]; rfl
theorem skp_go {f : Nat → Int32} {n p : Nat} (h : p < n) (hb : isB (f p) = true) : skp f n p = skp f n (p + 1) := by
  unfold skp; rw [show n - p = (n - (p + 1)) + 1 by omega]; simp [skb, hb]
theorem skp_stop {f : Nat → Int32} {n p : Nat} (h : p < n) (hb : isB (f p) = false) : skp f n p = p := by
  unfold skp; rw [show n - p = (n - (p + 1)) + 1 by omega]; simp [skb, hb]
theorem skb_le {f : Nat → Int32} : ∀ (k p : Nat), p ≤ skb f k p ∧ skb f k p ≤ p + k := by
  intro k
  induction k with
  | zero => intro p; simp [skb]
  | succ k ih =>
    intro p
    simp only [skb]
    split
    · have := ih (p + 1); omega
    · omega
theorem skp_ge {f : Nat → Int32} {n p : Nat} : p ≤ skp f n p := (skb_le _ _).1
theorem skp_le {f : Nat → Int32} {n p : Nat} (h : p ≤ n) : skp f n p ≤ n := by have := (skb_le (f := f) (n - p) p).2; unfold skp; omega
def wdF (f : Nat → Int32) : Nat → Nat → Int64 → Nat × Int64
  | 0, p, c => (p, c)
  | k + 1, p, c => if (isL (f p) || isD (f p)) = true then wdF f k (p + 1) (lgr c (f p)) else (p, c)
def wdp (f : Nat → Int32) (n p : Nat) (c : Int64) : Nat × Int64 := wdF f (n - p) p c
theorem wdp_end {f : Nat → Int32} {n p : Nat} {c : Int64} (h : n ≤ p) : wdp f n p c = (p, c) := by
  unfold wdp; rw [show n - p = 0 by omega]; rfl
theorem wdp_go {f : Nat → Int32} {n p : Nat} {c : Int64} (h : p < n) (hb : (isL (f p) || isD (f p)) = true) : wdp f n p c = wdp f n (p + 1) (lgr c (f p)) := by
  unfold wdp; rw [show n - p = (n - (p + 1)) + 1 by omega]; simp only [wdF, hb, if_true]
theorem wdp_stop {f : Nat → Int32} {n p : Nat} {c : Int64} (h : p < n) (hb : ¬ (isL (f p) || isD (f p)) = true) : wdp f n p c = (p, c) := by
  unfold wdp; rw [show n - p = (n - (p + 1)) + 1 by omega]; simp only [wdF, hb, if_false, Bool.false_eq_true]
theorem wdF_le {f : Nat → Int32} : ∀ (k p : Nat) (c : Int64), p ≤ (wdF f k p c).1 ∧ (wdF f k p c).1 ≤ p + k := by
  intro k
  induction k with
  | zero => intro p c; simp [wdF]
  | succ k ih =>
    intro p c
    simp only [wdF]
    split
    · have := ih (p + 1) (lgr c (f p)); omega
    · simp
theorem wdp_ge {f : Nat → Int32} {n p : Nat} {c : Int64} : p ≤ (wdp f n p c).1 := (wdF_le _ _ _).1
theorem wdp_le {f : Nat → Int32} {n p : Nat} {c : Int64} (h : p ≤ n) : (wdp f n p c).1 ≤ n := by have := (wdF_le (f := f) (n - p) p c).2; unfold wdp; omega
def dig (v : Int64) (b : Int32) : Int64 := v * 10 + b.toInt64 - 48
def nbF (f : Nat → Int32) : Nat → Nat → Int64 → Nat × Int64
  | 0, p, c => (p, c)
  | k + 1, p, c => if isD (f p) = true then nbF f k (p + 1) (dig c (f p)) else (p, c)
def nbp (f : Nat → Int32) (n p : Nat) (c : Int64) : Nat × Int64 := nbF f (n - p) p c
theorem nbp_end {f : Nat → Int32} {n p : Nat} {c : Int64} (h : n ≤ p) : nbp f n p c = (p, c) := by
  unfold nbp; rw [show n - p = 0 by omega]; rfl
theorem nbp_go {f : Nat → Int32} {n p : Nat} {c : Int64} (h : p < n) (hb : isD (f p) = true) : nbp f n p c = nbp f n (p + 1) (dig c (f p)) := by
  unfold nbp; rw [show n - p = (n - (p + 1)) + 1 by omega]; simp only [nbF, hb, if_true]
theorem nbp_stop {f : Nat → Int32} {n p : Nat} {c : Int64} (h : p < n) (hb : isD (f p) = false) : nbp f n p c = (p, c) := by
  unfold nbp; rw [show n - p = (n - (p + 1)) + 1 by omega]; simp only [nbF, hb, if_false, Bool.false_eq_true]
theorem nbF_le {f : Nat → Int32} : ∀ (k p : Nat) (c : Int64), p ≤ (nbF f k p c).1 ∧ (nbF f k p c).1 ≤ p + k := by
  intro k
  induction k with
  | zero => intro p c; simp [nbF]
  | succ k ih =>
    intro p c
    simp only [nbF]
    split
    · have := ih (p + 1) (dig c (f p)); omega
    · simp
theorem nbp_ge {f : Nat → Int32} {n p : Nat} {c : Int64} : p ≤ (nbp f n p c).1 := (nbF_le _ _ _).1
theorem nbp_le {f : Nat → Int32} {n p : Nat} {c : Int64} (h : p ≤ n) : (nbp f n p c).1 ≤ n := by have := (nbF_le (f := f) (n - p) p c).2; unfold nbp; omega
/-- the sign of a symbol; q: a = stands behind it -/
def symS (b : Int32) (q : Bool) : Nat := if b = 40 then 5 else if b = 41 then 6 else if b = 91 then 7 else if b = 93 then 8 else if b = 59 then 9 else if b = 44 then 10 else if b = 43 then 11 else if b = 45 then 12 else if b = 42 then 13 else if b = 47 then 14 else if b = 61 then 17 else if b = 60 then (if q = true then 18 else 15) else if b = 62 then (if q = true then 19 else 16) else 1
def symL (b : Int32) (q : Bool) : Nat := if (b = 60 ∨ b = 62) ∧ q = true then 2 else 1
def isE (f : Nat → Int32) (n p : Nat) : Bool := decide (p < n ∧ f p = 61)
def lexS (f : Nat → Int32) (n p : Nat) (v : Int64) : Nat := if n ≤ p then 0 else if isL (f p) = true then (if 10 < (wdp f n p v).1 - p then 1 else sword (wdp f n p v).2) else if isD (f p) = true then (if 6 < (nbp f n p v).1 - p then 1 else 3) else symS (f p) (isE f n (p + 1))
def lexE (f : Nat → Int32) (n p : Nat) (v : Int64) : Nat := if n ≤ p then p else if isL (f p) = true then (wdp f n p v).1 else if isD (f p) = true then (nbp f n p v).1 else p + symL (f p) (isE f n (p + 1))
def lexV (f : Nat → Int32) (n p : Nat) (v : Int64) : Int64 := if n ≤ p then v else if isL (f p) = true then (wdp f n p v).2 else if isD (f p) = true then (nbp f n p v).2 else v
theorem ite_lt {c : Prop} [Decidable c] {a b m : Nat} (ha : a < m) (hb : b < m) : (if c then a else b) < m := by
  by_cases h : c
  · rw [if_pos h]; exact ha
  · rw [if_neg h]; exact hb
theorem symS_lt (b : Int32) (q : Bool) : symS b q < 49 := by
  unfold symS
  repeat' (first | apply ite_lt | decide)
theorem lexS_lt (f : Nat → Int32) (n p : Nat) (v : Int64) : lexS f n p v < 49 := by
  unfold lexS
  repeat' split
  all_goals first | omega | exact sg_lt _ | exact symS_lt _ _
theorem symL_le (f : Nat → Int32) (n p : Nat) (b : Int32) (h : p < n) : p + symL b (isE f n (p + 1)) ≤ n := by
  unfold symL isE
  split
  · rename_i h2; have := h2.2; simp at this; omega
  · omega
theorem lexE_le {f : Nat → Int32} {n p : Nat} {v : Int64} (h : p ≤ n) : lexE f n p v ≤ n := by
  unfold lexE
  split
  · exact h
  · split
    · exact wdp_le h
    · split
      · exact nbp_le h
      · exact symL_le _ _ _ _ (by omega)
/-- where the i-th token is looked for, begins; what it is -/
def posn (f : Nat → Int32) (n : Nat) : Nat → Nat
  | 0 => 0
  | i + 1 => lexE f n (skp f n (posn f n i)) 0
def tkP (f : Nat → Int32) (n i : Nat) : Nat := skp f n (posn f n i)
def tkS (f : Nat → Int32) (n i : Nat) : Nat := if i < 400 ∨ n ≤ tkP f n i then lexS f n (tkP f n i) 0 else 1
def tkV (f : Nat → Int32) (n i : Nat) : Int64 := if i < 400 ∨ n ≤ tkP f n i then lexV f n (tkP f n i) 0 else 0
theorem posn_le {f : Nat → Int32} {n : Nat} : ∀ i, posn f n i ≤ n := by
  intro i
  induction i with
  | zero => exact Nat.zero_le _
  | succ i ih => exact lexE_le (skp_le ih)
theorem tkP_le {f : Nat → Int32} {n i : Nat} : tkP f n i ≤ n := skp_le (posn_le i)
theorem tkS_lt (f : Nat → Int32) (n i : Nat) : tkS f n i < 49 := by unfold tkS; split; exact lexS_lt _ _ _ _; omega
theorem tkS_a {f : Nat → Int32} {n i : Nat} (h : i < 400 ∨ n ≤ tkP f n i) : lexS f n (tkP f n i) 0 = tkS f n i := by unfold tkS; rw [if_pos h]
theorem tkS_b {f : Nat → Int32} {n i : Nat} (h : ¬ (i < 400 ∨ n ≤ tkP f n i)) : 1 = tkS f n i := by unfold tkS; rw [if_neg h]
theorem tkV_a {f : Nat → Int32} {n i : Nat} (h : i < 400 ∨ n ≤ tkP f n i) : lexV f n (tkP f n i) 0 = tkV f n i := by unfold tkV; rw [if_pos h]
theorem tkV_b {f : Nat → Int32} {n i : Nat} (h : ¬ (i < 400 ∨ n ≤ tkP f n i)) : 0 = tkV f n i := by unfold tkV; rw [if_neg h]
theorem tkS_400 {f : Nat → Int32} {n : Nat} : tkS f n 400 = 0 ∨ tkS f n 400 = 1 := by
  unfold tkS
  split
  · rename_i h
    left; unfold lexS; rw [if_pos (by omega)]
  · right; rfl
