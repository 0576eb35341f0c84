/-! what is told: rows 0 grim, 1 fine, 2 skill, 3 pace, 4 likes, 5 oak, 6 bishopGrim, 7 bishopFrom, 8 orderStall, 9 orderBeast, 10 orderCarver; and the machine of tests -/
abbrev SK : Type := (Nat → Int32) × Nat
/-- day, damp, coins, bears, quality, worms, rust -/
abbrev VS : Type := Int32 × Int32 × Int32 × (Nat → Int32) × (Nat → Int32) × (Nat → Int32) × (Nat → Int32)
def spush (s : SK) (x : Int32) : SK := if s.2 < 400 then (upd s.1 s.2 x, s.2 + 1) else s
def spop (s : SK) : Int32 × SK := (if s.2 = 0 then 0 else s.1 (s.2 - 1), (s.1, s.2 - 1))
def fSq (fr : Nat → Int32) (i : Int32) : Bool := decide ((8 : Int32) ≤ rat 10 fr i)
def sjoin (kd : Nat) (l r : Int32) : Int32 :=
  if SGm.getD kd 0 = 18 then l - r else if SGm.getD kd 0 = 20 then (if r < l then r else l) else if SGm.getD kd 0 = 21 then (if l < r then r else l)
  else if SGm.getD kd 0 = 23 then l + r else if SGm.getD kd 0 = 24 then l * r else if SGm.getD kd 0 = 25 then (if r = 0 then 0 else l / r)
  else if SGm.getD kd 0 = 26 then bI (decide (l < r)) else if SGm.getD kd 0 = 27 then bI (decide (r < l)) else if SGm.getD kd 0 = 28 then bI (decide (l = r))
  else if SGm.getD kd 0 = 29 then bI (decide (l ≤ r)) else if SGm.getD kd 0 = 30 then bI (decide (r ≤ l)) else if SGm.getD kd 0 = 31 then l &&& r else l ||| r
def sperf (v : VS) (kd : Nat) (a b : Int32) (s : SK) : SK :=
  if SGm.getD kd 0 = 7 then spush (spop s).2 (1 - (spop s).1) else if SGm.getD kd 0 = 9 then spush s (bI (decide (rat 10 v.2.2.2.1 a = b)))
  else if SGm.getD kd 0 = 10 then spush s (bI (fSq v.2.2.2.2.2.2 a)) else if SGm.getD kd 0 = 11 then spush s a else if SGm.getD kd 0 = 12 then spush s v.1
  else if SGm.getD kd 0 = 13 then spush s v.2.1 else if SGm.getD kd 0 = 14 then spush s v.2.2.1 else if SGm.getD kd 0 = 15 then spush s (rat 10 v.2.2.2.2.1 a)
  else if SGm.getD kd 0 = 16 then spush s (rat 10 v.2.2.2.2.2.1 a) else if SGm.getD kd 0 = 17 then spush s (rat 10 v.2.2.2.2.2.2 a)
  else if SGm.getD kd 0 = 22 then spush (spop s).2 (-(spop s).1) else spush (spop (spop s).2).2 (sjoin kd (spop (spop s).2).1 (spop s).1)
theorem spush_le {s : SK} {x : Int32} (h : s.2 ≤ 400) : (spush s x).2 ≤ 400 := by
  unfold spush
  by_cases q : s.2 < 400
  · rw [if_pos q]; exact q
  · rw [if_neg q]; exact h
theorem spop_le {s : SK} (h : s.2 ≤ 400) : (spop s).2.2 ≤ 400 := by show s.2 - 1 ≤ 400; omega
theorem sperf_le {v : VS} {kd : Nat} {a b : Int32} {s : SK} (h : s.2 ≤ 400) : (sperf v kd a b s).2 ≤ 400 := by
  unfold sperf
  by_cases q1 : SGm.getD kd 0 = 7
  · rw [if_pos q1]; exact spush_le (spop_le h)
  rw [if_neg q1]
  by_cases q2 : SGm.getD kd 0 = 9
  · rw [if_pos q2]; exact spush_le h
  rw [if_neg q2]
  by_cases q3 : SGm.getD kd 0 = 10
  · rw [if_pos q3]; exact spush_le h
  rw [if_neg q3]
  by_cases q4 : SGm.getD kd 0 = 11
  · rw [if_pos q4]; exact spush_le h
  rw [if_neg q4]
  by_cases q5 : SGm.getD kd 0 = 12
  · rw [if_pos q5]; exact spush_le h
  rw [if_neg q5]
  by_cases q6 : SGm.getD kd 0 = 13
  · rw [if_pos q6]; exact spush_le h
  rw [if_neg q6]
  by_cases q7 : SGm.getD kd 0 = 14
  · rw [if_pos q7]; exact spush_le h
  rw [if_neg q7]
  by_cases q8 : SGm.getD kd 0 = 15
  · rw [if_pos q8]; exact spush_le h
  rw [if_neg q8]
  by_cases q9 : SGm.getD kd 0 = 16
  · rw [if_pos q9]; exact spush_le h
  rw [if_neg q9]
  by_cases q10 : SGm.getD kd 0 = 17
  · rw [if_pos q10]; exact spush_le h
  rw [if_neg q10]
  by_cases q11 : SGm.getD kd 0 = 22
  · rw [if_pos q11]; exact spush_le (spop_le h)
  rw [if_neg q11]
  exact spush_le (spop_le (spop_le h))
/-- the steps from i on, m of them -/
def srun (kq : Nat → Nat) (ff fs : Nat → Int32) (v : VS) : Nat → Nat → SK → SK
  | 0, _, s => s
  | m + 1, i, s => srun kq ff fs v m (i + 1) (sperf v (skind kq (nI i)) (rat 400 ff (nI i)) (rat 400 fs (nI i)) s)
def srn (kq : Nat → Nat) (ff fs : Nat → Int32) (v : VS) (b i : Nat) (s : SK) : SK := srun kq ff fs v (b - i) i s
theorem srn_go {kq : Nat → Nat} {ff fs : Nat → Int32} {v : VS} {b i : Nat} {s : SK} (h : i < b) : srn kq ff fs v b i s = srn kq ff fs v b (i + 1) (sperf v (skind kq (nI i)) (rat 400 ff (nI i)) (rat 400 fs (nI i)) s) := by
  unfold srn; rw [show b - i = (b - (i + 1)) + 1 by omega]; rfl
theorem srn_end {kq : Nat → Nat} {ff fs : Nat → Int32} {v : VS} {b i : Nat} {s : SK} (h : b ≤ i) : srn kq ff fs v b i s = s := by
  unfold srn; rw [show b - i = 0 by omega]; rfl
def hxT (kq : Nat → Nat) (ff fs : Nat → Int32) (v : VS) (a b : Nat) (f0 : Nat → Int32) : Bool := decide (b ≤ a) || decide ((spop (srn kq ff fs v b a (f0, 0))).1 ≠ 0)
