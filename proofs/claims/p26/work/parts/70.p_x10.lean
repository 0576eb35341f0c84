/-! the class's face: what is asked of state c (CS), told by tn, tr, tst; the tape has n bytes -/
def byt (x s : Int32) : Int32 := (x >>> (s &&& 31)) &&& 255
def apF (f : Nat → Int32) (n : Nat) (x : Int32) : Nat → Int32 := upd (upd (upd (upd f n (byt x 24)) (n + 1) (byt x 16)) (n + 1 + 1) (byt x 8)) (n + 1 + 1 + 1) (byt x 0)
def fd5 (f : Nat → Int32) (n : Nat) (a b c d e : Int32) : Nat → Int32 := apF (apF (apF (apF (apF f n a) (n + 4) b) (n + 4 + 4) c) (n + 4 + 4 + 4) d) (n + 4 + 4 + 4 + 4) e
def fDmp (c : CS) (x : Int32) : CS := ((c.1.1, x, c.1.2.2), c.2)
def fSmk (c : CS) (k : Nat) : CS := ((c.1.1, c.1.2.1, c.1.2.2.1 - 1, c.1.2.2.2.1, c.1.2.2.2.2.1, rput 10 c.1.2.2.2.2.2.1 (nI k) (rat 10 c.1.2.2.2.2.2.1 (nI k) / 2), c.1.2.2.2.2.2.2), c.2)
def fStp (c : CS) (k : Nat) : CS := ((c.1.1, c.1.2.1, c.1.2.2.1, rput 10 c.1.2.2.2.1 (nI k) (-1), rput 10 c.1.2.2.2.2.1 (nI k) 0, c.1.2.2.2.2.2), c.2)
def fOld (c : CS) (k : Nat) : CS := fRst c (rput 10 c.1.2.2.2.2.2.2 (nI k) 0)
def fCnt (tr : Nat → Nat → Int32) (tn : Nat → Nat) (n : Nat) (c : CS) (w : Int32) : Int32 :=
  if w = 0 then c.1.1 else if w = 1 then c.1.2.1 else if w = 2 then nI (tn 0) else if w = 3 then nI (tn 1) else if w = 4 then nI (tn 2) else if w = 5 then nI (tn 3) else if w = 6 then nI (tn 4)
  else if w = 7 then nI (tn 2) - fBear c.1.2.2.2.1 (-1) (tn 2) else if w = 8 then fSqk c.1.2.2.2.2.2.2 (tn 2) else if w = 9 then fWrm c.1.2.2.2.2.2.1 (tn 2) else if w = 10 then c.1.2.2.1 else if w = 11 then c.2.1 else if w = 12 then fOpn tr c.1.2.2.2.1 (tn 4) else nI n
def fBst (tr : Nat → Nat → Int32) (tn : Nat → Nat) (c : CS) (k : Nat) (w : Int32) : Int32 :=
  if w = 0 then rat 8 (tr 0) (nI k) else if w = 1 then rat 8 (tr 1) (nI k) else fBear c.1.2.2.2.1 (nI k) (tn 2)
def fCvr (tr : Nat → Nat → Int32) (tn : Nat → Nat) (tst : Nat → VS → Bool) (c : CS) (k : Nat) (w : Int32) : Int32 :=
  if w = 0 then rat 5 (tr 2) (nI k) else if w = 1 then rat 5 (tr 3) (nI k) else if w = 2 then rat 5 (tr 4) (nI k) else if w = 3 then oI (fToday tr (tn 4) tst c.1 k) else rat 5 c.2.2.2 (nI k)
def fDlt (tr : Nat → Nat → Int32) (tn : Nat → Nat) (c : CS) (k : Nat) : Int32 := if fBsp tr c.1.1 (tn 3) = (-1) then 0 else fDel tr c.1.2.2.2.1 c.1.2.2.2.2.1 (fBsp tr c.1.1 (tn 3)) (nI k)
def fStl (tr : Nat → Nat → Int32) (tn : Nat → Nat) (c : CS) (k : Nat) (w : Int32) : Int32 :=
  if w = 0 then rat 10 (tr 5) (nI k) else if w = 1 then rat 10 c.1.2.2.2.1 (nI k) else if w = 2 then rat 10 c.1.2.2.2.2.1 (nI k) else if w = 3 then rat 10 c.1.2.2.2.2.2.1 (nI k) else if w = 4 then rat 10 c.1.2.2.2.2.2.2 (nI k)
  else if w = 5 then bI (fSq c.1.2.2.2.2.2.2 (nI k)) else fDlt tr tn c k
def fOrd (tr : Nat → Nat → Int32) (tst : Nat → VS → Bool) (c : CS) (k : Nat) (w : Int32) : Int32 :=
  if w = 0 then (if rat 20 (tr 9) (nI k) = (-1) then 1 else 0) else if w = 1 then rat 20 (tr 8) (nI k) else if w = 2 then rat 20 (tr 9) (nI k) else if w = 3 then rat 20 (tr 10) (nI k) else if w = 4 then rat 20 c.2.2.1 (nI k)
  else bI (fDue tr tst c.1 k)
def fSo (c : CS) (k : Nat) (w : Int32) : Bool := if w = 0 then decide (¬ rat 10 c.1.2.2.2.1 (nI k) = (-1)) else if w = 1 then fSq c.1.2.2.2.2.2.2 (nI k) else decide ((30 : Int32) ≤ rat 10 c.1.2.2.2.2.2.1 (nI k))
def fUnt (tr : Nat → Nat → Int32) (tn : Nat → Nat) (tst : Nat → VS → Bool) (c : CS) (k : Nat) (w : Int32) : Int32 := oI (ffind (fun i => fSo (fLive tr tn tst (-1) c i) k w) 201)
def fFor (tr : Nat → Nat → Int32) (tn : Nat → Nat) (c d : CS) (w : Int32) : Int32 :=
  if w = 0 then d.1.2.2.1 - c.1.2.2.1 else if w = 1 then d.2.1 - c.2.1 else if w = 2 then fSqk d.1.2.2.2.2.2.2 (tn 2) else if w = 3 then fWrm d.1.2.2.2.2.2.1 (tn 2) else fPls0 tr (tn 2) (tn 3) d
def fBest (ge : Bool) (co : Nat → Int32) (x : Int32 × Int32) : Nat → Int32 × Int32
  | 0 => x
  | i + 1 => if (fBest ge co x i).1 = (-1) ∨ (if ge = true then (fBest ge co x i).2 ≤ co i else (fBest ge co x i).2 < co i) then (nI i, co i) else fBest ge co x i
def fAdC (tr : Nat → Nat → Int32) (tn : Nat → Nat) (tst : Nat → VS → Bool) (c : CS) (d : Nat) (i : Nat) : Int32 := (fLive tr tn tst (-1) (fDmp c (nI i)) d).1.2.2.1
def fSpC (tr : Nat → Nat → Int32) (tn : Nat → Nat) (tst : Nat → VS → Bool) (c : CS) (d : Nat) (i : Nat) : Int32 := (fLive tr tn tst (nI i) c d).1.2.2.1
def fMean (nB q : Int32) : UInt64 := if nB = 0 then FP.dconst0 else FP.ddiv (FP.i2d q) (FP.i2d nB)
/-- n more numbers summed up, the first of them h 0 -/
def dgs (h : Nat → Int32) (d : Int64) : Nat → Int64
  | 0 => d
  | k + 1 => dgs h d k * 31 + (h k).toInt64
def fDig (tr : Nat → Nat → Int32) (tn : Nat → Nat) (tst : Nat → VS → Bool) (n : Nat) (c : CS) : Int64 :=
  dgs (fun i => fOrd tr tst c (i / 6) (nI (i % 6))) (dgs (fun i => fPleas tr c.1.2.2.2.1 c.1.2.2.2.2.1 c.1.2.2.2.2.2.2 (nI i) (tn 2)) (dgs (fun i => fStl tr tn c (i / 7) (nI (i % 7))) (dgs (fun i => fCvr tr tn tst c (i / 5) (nI (i % 5)))
    (dgs (fun i => fBst tr tn c (i / 3) (nI (i % 3))) (dgs (fun i => fCnt tr tn n c (nI i)) 823 14) (tn 0 * 3)) (tn 1 * 5)) (tn 2 * 7)) (tn 3)) (tn 4 * 6)
theorem nI_div {i m : Nat} (hi : i < 2147483648) (hm : m < 2147483648) : nI i / nI m = nI (i / m) := by
  apply Int32.toInt_inj.mp
  have hd : i / m ≤ i := Nat.div_le_self _ _
  rw [Int32.toInt_div, nI_toInt hi, nI_toInt hm, nI_toInt (Nat.lt_of_le_of_lt hd hi), show ((i : Int).tdiv (m : Int)) = ((i / m : Nat) : Int) from rfl]
  generalize i / m = k at hd ⊢
  exact Int.bmod_eq_of_le (by omega) (by omega)
theorem nI_mulN {i m : Nat} : nI i * nI m = nI (i * m) := by
  unfold nI; exact (Int32.ofNat_mul _ _).symm
theorem nI_mod {i m : Nat} (hi : i < 2147483648) (hm : m < 2147483648) : nI i - nI i / nI m * nI m = nI (i % m) := by
  rw [nI_div hi hm, nI_mulN]
  have h := Nat.div_add_mod i m
  have h2 : i / m * m = m * (i / m) := Nat.mul_comm _ _
  rw [show i % m = i - i / m * m by omega]
  exact pk_sub (by omega)
section
variable {ge : Bool} {co : Nat → Int32} {x y : Int32 × Int32} {i : Nat} {a b v : Int32}
theorem fBest_a (hv : v = co i) (hx : (a, b) = fBest ge co x i) (h : a = (-1)) : (nI i, v) = fBest ge co x (i + 1) := by
  show _ = if _ then _ else _
  rw [← hx, hv]; exact (if_pos (Or.inl h)).symm
theorem fBest_b (hv : v = co i) (hx : (a, b) = fBest true co x i) (h : ¬ v < b) : (nI i, v) = fBest true co x (i + 1) := by
  show _ = if _ then _ else _
  rw [← hx, hv]; exact (if_pos (Or.inr (Int32.not_lt.mp (hv ▸ h)))).symm
theorem fBest_c (hv : v = co i) (hx : (a, b) = fBest true co x i) (h0 : ¬ a = (-1)) (h : v < b) : (a, b) = fBest true co x (i + 1) := by
  show _ = if _ then _ else _
  rw [← hx]; exact (if_neg (fun q => q.elim h0 (fun r => absurd r (Int32.not_le.mpr (hv ▸ h))))).symm
theorem fBest_d (hv : v = co i) (hx : (a, b) = fBest false co x i) (h : ¬ v ≤ b) : (nI i, v) = fBest false co x (i + 1) := by
  show _ = if _ then _ else _
  rw [← hx, hv]; exact (if_pos (Or.inr (Int32.not_le.mp (hv ▸ h)))).symm
theorem fBest_e (hv : v = co i) (hx : (a, b) = fBest false co x i) (h0 : ¬ a = (-1)) (h : v ≤ b) : (a, b) = fBest false co x (i + 1) := by
  show _ = if _ then _ else _
  rw [← hx]; exact (if_neg (fun q => q.elim h0 (fun r => absurd r (Int32.not_lt.mpr (hv ▸ h))))).symm
end
theorem fLive_s {tr : Nat → Nat → Int32} {tn : Nat → Nat} {tst : Nat → VS → Bool} {ab : Int32} {c : CS} {i : Nat} : fLive tr tn tst ab (fLive tr tn tst ab c i) 1 = fLive tr tn tst ab c (i + 1) := rfl
