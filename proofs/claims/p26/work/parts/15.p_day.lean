/-! a day: what both sides do in it. CS: (facts, carved, work, carvedBy) -/
abbrev CS : Type := VS × Int32 × (Nat → Int32) × (Nat → Int32)
def fFin (tr : Nat → Nat → Int32) (c : CS) (o k q : Int32) : CS :=
  ((c.1.1, c.1.2.1, c.1.2.2.1, rput 10 c.1.2.2.2.1 (rat 20 (tr 8) o) (rat 20 (tr 9) o), rput 10 c.1.2.2.2.2.1 (rat 20 (tr 8) o) q, rput 10 c.1.2.2.2.2.2.1 (rat 20 (tr 8) o) 0, c.1.2.2.2.2.2.2), c.2.1 + 1, rput 20 c.2.2.1 o 0, rput 5 c.2.2.2 k (rat 5 c.2.2.2 k + 1))
def fWk (c : CS) (o x : Int32) : CS := (c.1, c.2.1, rput 20 c.2.2.1 o (rat 20 c.2.2.1 o + x), c.2.2.2)
def fGain (tr : Nat → Nat → Int32) (o k : Int32) : Int32 := if rat 5 (tr 4) k = rat 20 (tr 9) o then 2 * rat 5 (tr 2) k else rat 5 (tr 2) k
def fNeed (tr : Nat → Nat → Int32) (o : Int32) : Int32 := rat 10 (tr 5) (rat 20 (tr 8) o) * rat 8 (tr 1) (rat 20 (tr 9) o) * 2
def fQl0 (tr : Nat → Nat → Int32) (o k : Int32) : Int32 := 3 * rat 5 (tr 2) k - rat 10 (tr 5) (rat 20 (tr 8) o) + (if rat 5 (tr 4) k = rat 20 (tr 9) o then 5 else 0)
def fQl (tr : Nat → Nat → Int32) (o k : Int32) : Int32 := if 1 < fQl0 tr o k then fQl0 tr o k else 1
def fWork (tr : Nat → Nat → Int32) (c : CS) (o k : Int32) : CS :=
  if rat 20 (fWk c o (fGain tr o k)).2.2.1 o < fNeed tr o then fWk c o (fGain tr o k) else fFin tr (fWk c o (fGain tr o k)) o k (fQl tr o k)
def fCar1 (tr : Nat → Nat → Int32) (nO : Nat) (tst : Nat → VS → Bool) (ab : Int32) (c : CS) (k : Nat) : CS :=
  if nI k = ab then c else if oI (fToday tr nO tst c.1 k) = (-1) then c else fWork tr c (oI (fToday tr nO tst c.1 k)) (nI k)
def fCarv (tr : Nat → Nat → Int32) (nO : Nat) (tst : Nat → VS → Bool) (ab : Int32) (c : CS) : Nat → CS
  | 0 => c
  | k + 1 => fCar1 tr nO tst ab (fCarv tr nO tst ab c k) k
def fRst (c : CS) (f : Nat → Int32) : CS := ((c.1.1, c.1.2.1, c.1.2.2.1, c.1.2.2.2.1, c.1.2.2.2.2.1, c.1.2.2.2.2.2.1, f), c.2)
def fOil1 (tr : Nat → Nat → Int32) (tst : Nat → VS → Bool) (c : CS) (k : Nat) : CS :=
  if rat 20 (tr 9) (nI k) = (-1) ∧ tst k c.1 = true then fRst c (rput 10 c.1.2.2.2.2.2.2 (rat 20 (tr 8) (nI k)) 0) else c
def fOilA (tr : Nat → Nat → Int32) (tst : Nat → VS → Bool) (c : CS) : Nat → CS
  | 0 => c
  | k + 1 => fOil1 tr tst (fOilA tr tst c k) k
def fRu1 (f : Nat → Int32) (k : Nat) : Nat → Int32 := rput 10 f (nI k) (if rat 10 f (nI k) + 1 < 20 then rat 10 f (nI k) + 1 else 20)
def fRuF (f : Nat → Int32) : Nat → Nat → Int32
  | 0 => f
  | k + 1 => fRu1 (fRuF f k) k
def fRust (c : CS) (nS : Nat) : CS := if c.1.2.1 < 4 ∧ ¬ c.1.1 - c.1.1 / 3 * 3 = 0 then c else fRst c (fRuF c.1.2.2.2.2.2.2 nS)
def fWy (fv : Nat → Int32) (nS k : Nat) : Bool := (decide (0 < k) && decide ((10 : Int32) ≤ rat 10 fv (nI k - 1))) || (decide (k + 1 < nS) && decide ((10 : Int32) ≤ rat 10 fv (nI (k + 1))))
def fAf0 (tr : Nat → Nat → Int32) (damp : Int32) (nS : Nat) (fv : Nat → Int32) (k : Nat) : Int32 := rat 10 fv (nI k) + (damp / 2 - rat 10 (tr 5) (nI k) / 4 + bI (fWy fv nS k))
def fAf1 (tr : Nat → Nat → Int32) (damp : Int32) (nS : Nat) (fv : Nat → Int32) (k : Nat) : Int32 := if fAf0 tr damp nS fv k < 99 then fAf0 tr damp nS fv k else 99
def fAft (tr : Nat → Nat → Int32) (damp : Int32) (nS : Nat) (fv : Nat → Int32) (k : Nat) : Int32 := if 0 < fAf1 tr damp nS fv k then fAf1 tr damp nS fv k else 0
def fEat (q : Nat → Int32) (k : Nat) : Nat → Int32 := rput 10 q (nI k) (if 0 < rat 10 q (nI k) - 1 then rat 10 q (nI k) - 1 else 0)
def fGnF (tr : Nat → Nat → Int32) (damp : Int32) (nS : Nat) (fb fv : Nat → Int32) (x : (Nat → Int32) × (Nat → Int32)) : Nat → (Nat → Int32) × (Nat → Int32)
  | 0 => x
  | k + 1 => (rput 10 (fGnF tr damp nS fb fv x k).1 (nI k) (fAft tr damp nS fv k), if ¬ fAft tr damp nS fv k < 30 ∧ ¬ rat 10 fb (nI k) = (-1) then fEat (fGnF tr damp nS fb fv x k).2 k else (fGnF tr damp nS fb fv x k).2)
def fGns (c : CS) (x : (Nat → Int32) × (Nat → Int32)) : CS := ((c.1.1, c.1.2.1, c.1.2.2.1, c.1.2.2.2.1, x.2, x.1, c.1.2.2.2.2.2.2), c.2)
def fGnaw (tr : Nat → Nat → Int32) (nS : Nat) (c : CS) : CS := fGns c (fGnF tr c.1.2.1 nS c.1.2.2.2.1 c.1.2.2.2.2.2.1 (c.1.2.2.2.2.2.1, c.1.2.2.2.2.1) nS)
def fCoi (c : CS) (x : Int32) : CS := ((c.1.1, c.1.2.1, x, c.1.2.2.2), c.2)
def fPls0 (tr : Nat → Nat → Int32) (nS nP : Nat) (c : CS) : Int32 := if fBsp tr c.1.1 nP = (-1) then 0 else fPleas tr c.1.2.2.2.1 c.1.2.2.2.2.1 c.1.2.2.2.2.2.2 (fBsp tr c.1.1 nP) nS
def fPay (tr : Nat → Nat → Int32) (nS nP : Nat) (c : CS) : CS := if fPls0 tr nS nP c < 10 then c else fCoi c (c.1.2.2.1 + fPls0 tr nS nP c / 10)
def fNext (c : CS) : CS := ((c.1.1 + 1, c.1.2), c.2)
def fDay (tr : Nat → Nat → Int32) (tn : Nat → Nat) (tst : Nat → VS → Bool) (ab : Int32) (c : CS) : CS :=
  fNext (fPay tr (tn 2) (tn 3) (fGnaw tr (tn 2) (fRust (fOilA tr tst (fCarv tr (tn 4) tst ab c (tn 1)) (tn 4)) (tn 2))))
def fLive (tr : Nat → Nat → Int32) (tn : Nat → Nat) (tst : Nat → VS → Bool) (ab : Int32) (c : CS) : Nat → CS
  | 0 => c
  | k + 1 => fDay tr tn tst ab (fLive tr tn tst ab c k)
section
variable {tr : Nat → Nat → Int32} {tst : Nat → VS → Bool} {c c2 : CS} {k i nO nS nP : Nat} {o w ab : Int32}
theorem fWork_a (h1 : ¬ rat 5 (tr 4) w = rat 20 (tr 9) o) (h2 : rat 20 (rput 20 c.2.2.1 o (rat 20 c.2.2.1 o + rat 5 (tr 2) w)) o < rat 10 (tr 5) (rat 20 (tr 8) o) * rat 8 (tr 1) (rat 20 (tr 9) o) * 2) : fWork tr c o w = fWk c o (rat 5 (tr 2) w) := by
  unfold fWork; rw [show fGain tr o w = rat 5 (tr 2) w from if_neg h1]; exact if_pos h2
theorem fWork_b (h1 : ¬ rat 5 (tr 4) w = rat 20 (tr 9) o) (h2 : ¬ rat 20 (rput 20 c.2.2.1 o (rat 20 c.2.2.1 o + rat 5 (tr 2) w)) o < rat 10 (tr 5) (rat 20 (tr 8) o) * rat 8 (tr 1) (rat 20 (tr 9) o) * 2) : fWork tr c o w = fFin tr (fWk c o (rat 5 (tr 2) w)) o w (if 1 < 3 * rat 5 (tr 2) w - rat 10 (tr 5) (rat 20 (tr 8) o) + 0 then 3 * rat 5 (tr 2) w - rat 10 (tr 5) (rat 20 (tr 8) o) + 0 else 1) := by
  unfold fWork; rw [show fGain tr o w = rat 5 (tr 2) w from if_neg h1, if_neg (show ¬ rat 20 (fWk c o (rat 5 (tr 2) w)).2.2.1 o < fNeed tr o from h2)]
  unfold fQl fQl0; rw [if_neg h1]
theorem fWork_c (h1 : rat 5 (tr 4) w = rat 20 (tr 9) o) (h2 : rat 20 (rput 20 c.2.2.1 o (rat 20 c.2.2.1 o + 2 * rat 5 (tr 2) w)) o < rat 10 (tr 5) (rat 20 (tr 8) o) * rat 8 (tr 1) (rat 20 (tr 9) o) * 2) : fWork tr c o w = fWk c o (2 * rat 5 (tr 2) w) := by
  unfold fWork; rw [show fGain tr o w = 2 * rat 5 (tr 2) w from if_pos h1]; exact if_pos h2
theorem fWork_d (h1 : rat 5 (tr 4) w = rat 20 (tr 9) o) (h2 : ¬ rat 20 (rput 20 c.2.2.1 o (rat 20 c.2.2.1 o + 2 * rat 5 (tr 2) w)) o < rat 10 (tr 5) (rat 20 (tr 8) o) * rat 8 (tr 1) (rat 20 (tr 9) o) * 2) : fWork tr c o w = fFin tr (fWk c o (2 * rat 5 (tr 2) w)) o w (if 1 < 3 * rat 5 (tr 2) w - rat 10 (tr 5) (rat 20 (tr 8) o) + 5 then 3 * rat 5 (tr 2) w - rat 10 (tr 5) (rat 20 (tr 8) o) + 5 else 1) := by
  unfold fWork; rw [show fGain tr o w = 2 * rat 5 (tr 2) w from if_pos h1, if_neg (show ¬ rat 20 (fWk c o (2 * rat 5 (tr 2) w)).2.2.1 o < fNeed tr o from h2)]
  unfold fQl fQl0; rw [if_pos h1]
theorem fCarv_a (hc : c2 = fCarv tr nO tst ab c i) (h : nI i = ab) : c2 = fCarv tr nO tst ab c (i + 1) := by
  subst hc; exact (if_pos h).symm
theorem fCarv_b (hc : c2 = fCarv tr nO tst ab c i) (h : ¬ nI i = ab) (h2 : oI (fToday tr nO tst c2.1 i) = (-1)) : c2 = fCarv tr nO tst ab c (i + 1) := by
  subst hc; exact ((if_neg h).trans (if_pos h2)).symm
theorem fCarv_c (hc : c2 = fCarv tr nO tst ab c i) (h : ¬ nI i = ab) (h2 : ¬ oI (fToday tr nO tst c2.1 i) = (-1)) : fWork tr c2 (oI (fToday tr nO tst c2.1 i)) (nI i) = fCarv tr nO tst ab c (i + 1) := by
  subst hc; exact ((if_neg h).trans (if_neg h2)).symm
theorem fOil_a (hc : c2 = fOilA tr tst c i) {d : Decidable (¬ rat 20 (tr 9) (nI i) = (-1))} (h : @decide (¬ rat 20 (tr 9) (nI i) = (-1)) d = true) : c2 = fOilA tr tst c (i + 1) := by
  subst hc; exact (if_neg (fun q => dt' h q.1)).symm
theorem fOil_b (hc : c2 = fOilA tr tst c i) (h : tst i c2.1 = false) : c2 = fOilA tr tst c (i + 1) := by
  subst hc; exact (if_neg (fun q => by rw [h] at q; exact absurd q.2 (by decide))).symm
theorem fOil_c (hc : c2 = fOilA tr tst c i) {d : Decidable (¬ rat 20 (tr 9) (nI i) = (-1))} (h : @decide (¬ rat 20 (tr 9) (nI i) = (-1)) d = false) (h2 : tst i c2.1 = true) : fRst c2 (rput 10 c2.1.2.2.2.2.2.2 (rat 20 (tr 8) (nI i)) 0) = fOilA tr tst c (i + 1) := by
  subst hc; exact (if_pos ⟨Decidable.not_not.mp (df' h), h2⟩).symm
theorem fRust_a (h1 : ¬ (4 : Int32) ≤ c.1.2.1) (h2 : ¬ c.1.1 - c.1.1 / 3 * 3 = 0) : fRust c nS = c := if_pos ⟨Int32.not_le.mp h1, h2⟩
theorem fRust_b (h1 : (4 : Int32) ≤ c.1.2.1) : fRust c nS = fRst c (fRuF c.1.2.2.2.2.2.2 nS) := if_neg (fun q => absurd q.1 (Int32.not_lt.mpr h1))
theorem fRust_c (h2 : c.1.1 - c.1.1 / 3 * 3 = 0) : fRust c nS = fRst c (fRuF c.1.2.2.2.2.2.2 nS) := if_neg (fun q => q.2 h2)
variable {fv fb : Nat → Int32} {damp : Int32} {x y : (Nat → Int32) × (Nat → Int32)}
theorem fWy_1 (h : ¬ k ≤ 0) (h2 : ¬ rat 10 fv (nI k - 1) < 10) : fWy fv nS k = true := by
  unfold fWy; rw [dt (show 0 < k by omega), dt (Int32.not_lt.mp h2)]; rfl
theorem fWy_2 (h : ¬ nS ≤ k + 1) (h2 : ¬ rat 10 fv (nI (k + 1)) < 10) : fWy fv nS k = true := by
  unfold fWy; rw [dt (show k + 1 < nS by omega), dt (Int32.not_lt.mp h2), Bool.and_true, Bool.or_true]
theorem fWy_0 (h : k ≤ 0 ∨ rat 10 fv (nI k - 1) < 10) (h2 : nS ≤ k + 1 ∨ rat 10 fv (nI (k + 1)) < 10) : fWy fv nS k = false := by
  unfold fWy
  have a1 : (decide (0 < k) && decide ((10 : Int32) ≤ rat 10 fv (nI k - 1))) = false := by
    rcases h with h | h
    · rw [df (show ¬ 0 < k by omega)]; rfl
    · rw [df (Int32.not_le.mpr h), Bool.and_false]
  have a2 : (decide (k + 1 < nS) && decide ((10 : Int32) ≤ rat 10 fv (nI (k + 1)))) = false := by
    rcases h2 with h | h
    · rw [df (show ¬ k + 1 < nS by omega)]; rfl
    · rw [df (Int32.not_le.mpr h), Bool.and_false]
  rw [a1, a2]; rfl
theorem fGn_a (hc : y = fGnF tr damp nS fb fv x i) (h : fAft tr damp nS fv i < 30) : (rput 10 y.1 (nI i) (fAft tr damp nS fv i), y.2) = fGnF tr damp nS fb fv x (i + 1) := by
  subst hc; show _ = (_, if _ then _ else _); rw [if_neg (fun q => q.1 h)]
theorem fGn_b (hc : y = fGnF tr damp nS fb fv x i) (h : rat 10 fb (nI i) = (-1)) : (rput 10 y.1 (nI i) (fAft tr damp nS fv i), y.2) = fGnF tr damp nS fb fv x (i + 1) := by
  subst hc; show _ = (_, if _ then _ else _); rw [if_neg (fun q => q.2 h)]
theorem fGn_c (hc : y = fGnF tr damp nS fb fv x i) (h : ¬ fAft tr damp nS fv i < 30) (h2 : ¬ rat 10 fb (nI i) = (-1)) : (rput 10 y.1 (nI i) (fAft tr damp nS fv i), fEat y.2 i) = fGnF tr damp nS fb fv x (i + 1) := by
  subst hc; show _ = (_, if _ then _ else _); rw [if_pos ⟨h, h2⟩]
theorem fGnaw_is (hc : y = fGnF tr c.1.2.1 nS c.1.2.2.2.1 c.1.2.2.2.2.2.1 (c.1.2.2.2.2.2.1, c.1.2.2.2.2.1) i) (hie : i = nS) : fGnaw tr nS c = fGns c y := by
  subst hie; unfold fGnaw; rw [← hc]
theorem fPay_a (h : fBsp tr c.1.1 nP = (-1)) : fPay tr nS nP c = c := by
  have : fPls0 tr nS nP c = 0 := if_pos h
  unfold fPay; rw [this]; exact if_pos (by decide)
theorem fPay_b (h : ¬ fBsp tr c.1.1 nP = (-1)) (h2 : fPleas tr c.1.2.2.2.1 c.1.2.2.2.2.1 c.1.2.2.2.2.2.2 (fBsp tr c.1.1 nP) nS < 10) : fPay tr nS nP c = c := by
  have : fPls0 tr nS nP c = _ := if_neg h
  unfold fPay; rw [this]; exact if_pos h2
theorem fPay_c (h : ¬ fBsp tr c.1.1 nP = (-1)) (h2 : ¬ fPleas tr c.1.2.2.2.1 c.1.2.2.2.2.1 c.1.2.2.2.2.2.2 (fBsp tr c.1.1 nP) nS < 10) : fPay tr nS nP c = fCoi c (c.1.2.2.1 + fPleas tr c.1.2.2.2.1 c.1.2.2.2.2.1 c.1.2.2.2.2.2.2 (fBsp tr c.1.1 nP) nS / 10) := by
  have : fPls0 tr nS nP c = _ := if_neg h
  unfold fPay; rw [this]; exact if_neg h2
end
