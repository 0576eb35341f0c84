/-! the reference's days: in the class's words, where the sheet's rows agree below the counts -/
theorem agr {m N : Nat} {f g : Nat → Int32} {i : Int32} (h : ∀ k, k < m → f k = g k) (hm : m ≤ N) (hN : N < 2147483648) (hi : inC i m) : f i.toNatClampNeg = rat N g i := by
  obtain ⟨k, hk, rfl⟩ := hi
  rw [nI_clamp (by omega), h k hk, rat_nI (by omega) hN]
theorem inC_le {i : Int32} {m n : Nat} (h : inC i m) (hm : m ≤ n) : inC i n := by
  obtain ⟨k, hk, e⟩ := h; exact ⟨k, by omega, e⟩
theorem inC_nm {i : Int32} {m : Nat} (h : inC i m) (hm : m ≤ 2000) : ¬ i = (-1) := by
  obtain ⟨k, hk, rfl⟩ := h; exact nI_nm1 (by omega)
/-- what the tests' tokens say of an order's test -/
def HOK (sq : Nat → Nat) (K : Nat) (mn : Nat → Int32) (w : Int32) (T : VS → Bool) : Prop := ∀ v, (w = -1 ∧ T v = true) ∨ ∃ t, w = nI t ∧ t ≤ K ∧ (rTes sq 8 t).1 = true ∧ xTes sq mn v 8 t = T v
/-- the sheet sr says what tn, tr, tst say -/
def SOK (tn : Nat → Nat) (tr : Nat → Nat → Int32) (tst : Nat → VS → Bool) (sq : Nat → Nat) (K : Nat) (sr : Nat → Nat → Int32) : Prop :=
  (tn 0 ≤ 8 ∧ tn 1 ≤ 5 ∧ tn 2 ≤ 10 ∧ tn 3 ≤ 6 ∧ tn 4 ≤ 20) ∧ ((∀ k, k < tn 0 → sr 5 k = tr 0 k) ∧ (∀ k, k < tn 0 → sr 6 k = tr 1 k)) ∧
  ((∀ k, k < tn 1 → sr 8 k = tr 2 k) ∧ (∀ k, k < tn 1 → sr 9 k = tr 3 k) ∧ (∀ k, k < tn 1 → sr 10 k = tr 4 k) ∧ (∀ k, k < tn 1 → ¬ rat 5 (tr 3) (nI k) < 1)) ∧
  (∀ k, k < tn 2 → sr 12 k = tr 5 k) ∧ ((∀ k, k < tn 3 → sr 14 k = tr 6 k) ∧ (∀ k, k < tn 3 → sr 15 k = tr 7 k)) ∧
  ((∀ k, k < tn 4 → sr 16 k = bI (decide (rat 20 (tr 9) (nI k) = (-1)))) ∧ (∀ k, k < tn 4 → sr 17 k = tr 9 k) ∧ (∀ k, k < tn 4 → sr 18 k = tr 8 k) ∧ (∀ k, k < tn 4 → sr 19 k = tr 10 k) ∧
    (∀ k, k < tn 4 → inC (rat 20 (tr 8) (nI k)) (tn 2)) ∧ (∀ k, k < tn 4 → rat 20 (tr 9) (nI k) = (-1) ∨ inC (rat 20 (tr 9) (nI k)) (tn 0)) ∧ (∀ k, k < tn 4 → HOK sq K (sr 3) (sr 20 k) (tst k))) ∧ (0 < tn 4 → TKO sq K (sr 0)) ∧ (0 < tn 4 → MOK sq K (sr 3))
def BOK (nB nS : Nat) (c : CS) : Prop := ∀ k, k < nS → k < 10 → rat 10 c.1.2.2.2.1 (nI k) = (-1) ∨ inC (rat 10 c.1.2.2.2.1 (nI k)) nB
theorem rat_rput {n a b : Nat} {f : Nat → Int32} {x : Int32} (ha : a < n) (hb : b < n) (hn : n < 2147483648) : rat n (rput n f (nI a) x) (nI b) = if b = a then x else rat n f (nI b) := by
  rw [rput_nI ha hn, rat_nI hb hn, rat_nI hb hn]; rfl
theorem rat_same {n : Nat} {f : Nat → Int32} {i x : Int32} (hi : inC i n) (hn : n < 2147483648) : rat n (rput n f i x) i = x := by
  obtain ⟨a, ha, rfl⟩ := hi
  rw [rat_rput ha ha hn, if_pos rfl]
/-- a carver's day -/
def fCar0 (tr : Nat → Nat → Int32) (nO : Nat) (tst : Nat → VS → Bool) (c : CS) (k : Nat) : CS := if oI (fToday tr nO tst c.1 k) = (-1) then c else fWork tr c (oI (fToday tr nO tst c.1 k)) (nI k)
section
variable {tn : Nat → Nat} {tr : Nat → Nat → Int32} {tst : Nat → VS → Bool} {sq : Nat → Nat} {K : Nat} {sr : Nat → Nat → Int32} {c c2 : CS} {nB nO nS nP i k : Nat} {o w q ab x y d : Int32}
theorem fToday_in (h : ¬ oI (fToday tr nO tst c.1 k) = (-1)) : ∃ i, i < nO ∧ oI (fToday tr nO tst c.1 k) = nI i ∧ fOpen tr c.1.2.2.2.1 (nI i) = true := by
  cases hf : fToday tr nO tst c.1 k with
  | none => rw [hf] at h; exact absurd rfl h
  | some i =>
    refine ⟨i, ?_⟩
    unfold fToday at hf
    split at hf
    · cases hf
    split at hf
    · cases hf
    have h1 := ffind_lt hf
    refine ⟨h1.1, rfl, ?_⟩
    have h2 := h1.2
    unfold fTdP at h2
    rw [Bool.and_eq_true, Bool.and_eq_true] at h2
    exact h2.2.1
theorem fOpen_9 (h : fOpen tr (c.1.2.2.2.1) o = true) : ¬ rat 20 (tr 9) o = (-1) := by
  unfold fOpen at h
  rw [Bool.and_eq_true] at h
  exact of_decide_eq_true h.1
/-- the order that a carver works on: within the orders, its stall and beast within theirs -/
theorem ord_in (hS : SOK tn tr tst sq K sr) (h : ¬ oI (fToday tr (tn 4) tst c.1 k) = (-1)) : inC (oI (fToday tr (tn 4) tst c.1 k)) (tn 4) ∧ inC (rat 20 (tr 8) (oI (fToday tr (tn 4) tst c.1 k))) (tn 2) ∧ inC (rat 20 (tr 9) (oI (fToday tr (tn 4) tst c.1 k))) (tn 0) := by
  obtain ⟨i, hi, e, ho⟩ := fToday_in h
  obtain ⟨-, -, -, -, -, ⟨-, -, -, -, hgs, hgb, -⟩, -, -⟩ := hS
  rw [e]
  exact ⟨⟨i, hi, rfl⟩, hgs i hi, (hgb i hi).resolve_left (fOpen_9 ho)⟩
theorem BOK_fin (h : BOK nB nS c) (ho : inC (rat 20 (tr 8) o) 10) (hb : inC (rat 20 (tr 9) o) nB) : BOK nB nS (fFin tr c o w q) := by
  obtain ⟨a, ha, e⟩ := ho
  intro k hkS hk
  show rat 10 (rput 10 c.1.2.2.2.1 (rat 20 (tr 8) o) (rat 20 (tr 9) o)) (nI k) = (-1) ∨ inC (rat 10 (rput 10 c.1.2.2.2.1 (rat 20 (tr 8) o) (rat 20 (tr 9) o)) (nI k)) nB
  rw [e, rat_rput ha hk (by decide)]
  split
  · exact Or.inr hb
  · exact h k hkS hk
theorem BOK_work (h : BOK nB nS c) (ho : inC (rat 20 (tr 8) o) 10) (hb : inC (rat 20 (tr 9) o) nB) : BOK nB nS (fWork tr c o w) := by
  unfold fWork; split
  · exact h
  · exact BOK_fin h ho hb
theorem fCar0_ok (hS : SOK tn tr tst sq K sr) (h : BOK (tn 0) (tn 2) c) : BOK (tn 0) (tn 2) (fCar0 tr (tn 4) tst c k) := by
  unfold fCar0; split
  · exact h
  · rename_i hx
    have h2 := ord_in hS hx
    exact BOK_work h (inC_le h2.2.1 hS.1.2.2.1) h2.2.2
theorem fCar1_ok (hS : SOK tn tr tst sq K sr) (h : BOK (tn 0) (tn 2) c) : BOK (tn 0) (tn 2) (fCar1 tr (tn 4) tst ab c k) := by
  unfold fCar1; split
  · exact h
  · exact fCar0_ok hS h
theorem fCarv_ok (hS : SOK tn tr tst sq K sr) (h : BOK (tn 0) (tn 2) c) : ∀ i, BOK (tn 0) (tn 2) (fCarv tr (tn 4) tst ab c i) := by
  intro i
  induction i with
  | zero => exact h
  | succ i ih => exact fCar1_ok hS ih
theorem fOilA_b : ∀ i, (fOilA tr tst c i).1.2.2.2.1 = c.1.2.2.2.1 := by
  intro i
  induction i with
  | zero => rfl
  | succ i ih =>
    show (fOil1 tr tst (fOilA tr tst c i) i).1.2.2.2.1 = _
    unfold fOil1; split
    · exact ih
    · exact ih
theorem fRust_b' : (fRust c nS).1.2.2.2.1 = c.1.2.2.2.1 := by unfold fRust; split <;> rfl
theorem fPay_b' : (fPay tr nS nP c).1.2.2.2.1 = c.1.2.2.2.1 := by unfold fPay; split <;> rfl
theorem BOK_eq (h : BOK nB nS c) (e : c2.1.2.2.2.1 = c.1.2.2.2.1) : BOK nB nS c2 := fun k hkS hk => by rw [e]; exact h k hkS hk
theorem fDay_ok (hS : SOK tn tr tst sq K sr) (h : BOK (tn 0) (tn 2) c) : BOK (tn 0) (tn 2) (fDay tr tn tst ab c) := by
  refine BOK_eq (fCarv_ok (ab := ab) hS h (tn 1)) ?_
  show (fPay tr (tn 2) (tn 3) (fGnaw tr (tn 2) (fRust (fOilA tr tst (fCarv tr (tn 4) tst ab c (tn 1)) (tn 4)) (tn 2)))).1.2.2.2.1 = _
  rw [fPay_b']
  show (fRust (fOilA tr tst (fCarv tr (tn 4) tst ab c (tn 1)) (tn 4)) (tn 2)).1.2.2.2.1 = _
  rw [fRust_b', fOilA_b]
theorem fLive_ok (hS : SOK tn tr tst sq K sr) (h : BOK (tn 0) (tn 2) c) : ∀ i, BOK (tn 0) (tn 2) (fLive tr tn tst ab c i) := by
  intro i
  induction i with
  | zero => exact h
  | succ i ih => exact fDay_ok hS ih
theorem fBsp_in : ∀ n, fBsp tr o n = (-1) ∨ inC (fBsp tr o n) n := by
  intro n
  induction n with
  | zero => exact Or.inl rfl
  | succ n ih =>
    unfold fBsp
    split
    · exact Or.inr ⟨n, by omega, rfl⟩
    · exact ih.imp id (fun h => inC_le h (by omega))
/-! walks' leaves -/
theorem mOp_a {fb : Nat → Int32} {d : Decidable (rat 20 (tr 9) o = (-1))} (h : @decide (rat 20 (tr 9) o = (-1)) d = true) : fOpen tr fb o = false := by
  unfold fOpen; rw [df (p := ¬ rat 20 (tr 9) o = (-1)) (fun x => x (of_decide_eq_true h))]; rfl
theorem mOp_t {fb : Nat → Int32} {d : Decidable (rat 20 (tr 9) o = (-1))} (h : @decide (rat 20 (tr 9) o = (-1)) d = false) (h2 : ¬ rat 10 fb (rat 20 (tr 8) o) = rat 20 (tr 9) o) : fOpen tr fb o = true := by
  unfold fOpen; rw [dt (df' h), dt h2]; rfl
theorem fCar0_n (h : oI (fToday tr nO tst c.1 k) = (-1)) : fCar0 tr nO tst c k = c := if_pos h
theorem fCar0_w (h : ¬ oI (fToday tr nO tst c.1 k) = (-1)) : fCar0 tr nO tst c k = fWork tr c (oI (fToday tr nO tst c.1 k)) (nI k) := if_neg h
theorem fNeed_m : 2 * rat 10 (tr 5) (rat 20 (tr 8) o) * rat 8 (tr 1) (rat 20 (tr 9) o) = fNeed tr o := by
  unfold fNeed; rw [Int32.mul_assoc, Int32.mul_comm]
theorem fWork_n {g : Int32} (hg : g = fGain tr o w) (h : rat 20 (rput 20 c.2.2.1 o (rat 20 c.2.2.1 o + g)) o < 2 * rat 10 (tr 5) (rat 20 (tr 8) o) * rat 8 (tr 1) (rat 20 (tr 9) o)) : fWork tr c o w = fWk c o g := by
  subst hg; rw [fNeed_m] at h; exact if_pos h
theorem fWork_f {g z : Int32} (hg : g = fGain tr o w) (hz : z = fQl tr o w) (h : ¬ rat 20 (rput 20 c.2.2.1 o (rat 20 c.2.2.1 o + g)) o < 2 * rat 10 (tr 5) (rat 20 (tr 8) o) * rat 8 (tr 1) (rat 20 (tr 9) o)) : fWork tr c o w = fFin tr (fWk c o g) o w z := by
  subst hg; subst hz; rw [fNeed_m] at h; exact if_neg h
theorem fGain_t (h : rat 5 (tr 4) w = rat 20 (tr 9) o) : 2 * rat 5 (tr 2) w = fGain tr o w := (if_pos h).symm
theorem fGain_f (h : ¬ rat 5 (tr 4) w = rat 20 (tr 9) o) : rat 5 (tr 2) w = fGain tr o w := (if_neg h).symm
theorem fQl_t (h : rat 5 (tr 4) w = rat 20 (tr 9) o) : (if 1 < 3 * rat 5 (tr 2) w - rat 10 (tr 5) (rat 20 (tr 8) o) + 5 then 3 * rat 5 (tr 2) w - rat 10 (tr 5) (rat 20 (tr 8) o) + 5 else 1) = fQl tr o w := by
  unfold fQl fQl0; rw [if_pos h]
theorem fQl_f (h : ¬ rat 5 (tr 4) w = rat 20 (tr 9) o) : (if 1 < 3 * rat 5 (tr 2) w - rat 10 (tr 5) (rat 20 (tr 8) o) + 0 then 3 * rat 5 (tr 2) w - rat 10 (tr 5) (rat 20 (tr 8) o) + 0 else 1) = fQl tr o w := by
  unfold fQl fQl0; rw [if_neg h]
end
def fWo (f : Nat → Int32) (n : Nat) (p : Int32) : Bool := fIn p n && decide ((10 : Int32) ≤ rat 10 f p)
theorem fWo_m {f : Nat → Int32} {n k : Nat} (hk : k < n) (hn : n ≤ 10) : fWo f n (nI k - 1) = (decide (0 < k) && decide ((10 : Int32) ≤ rat 10 f (nI k - 1))) := by
  unfold fWo
  cases k with
  | zero =>
    have e : fIn (nI 0 - 1) n = false := df (fun h => absurd h.1 (by decide))
    rw [e]; rfl
  | succ k => rw [nI_pred, fIn_nI (by omega) (by omega), dt (show 0 < k + 1 by omega)]
theorem fWo_p {f : Nat → Int32} {n k : Nat} (hk : k < n) (hn : n ≤ 10) : fWo f n (nI (k + 1)) = (decide (k + 1 < n) && decide ((10 : Int32) ≤ rat 10 f (nI (k + 1)))) := by
  unfold fWo
  by_cases h : k + 1 < n
  · rw [fIn_nI h (by omega), dt h]
  · have e : fIn (nI (k + 1)) n = false := df (fun q => by
      have h2 := Int32.lt_iff_toInt_lt.mp q.2
      rw [nI_toInt (by omega), nI_toInt (by omega)] at h2
      omega)
    rw [e, df h]
theorem fWy_is {f : Nat → Int32} {n k : Nat} (hk : k < n) (hn : n ≤ 10) : fWy f n k = (fWo f n (nI k - 1) || fWo f n (nI (k + 1))) := by
  rw [fWo_m hk hn, fWo_p hk hn]; rfl
theorem fWo_a {f : Nat → Int32} {n : Nat} {p : Int32} (h : fIn p n = false) : fWo f n p = false := by unfold fWo; rw [h]; rfl
theorem fWo_b {f : Nat → Int32} {n : Nat} {p : Int32} (h : rat 10 f p < 10) : fWo f n p = false := by unfold fWo; rw [df (Int32.not_le.mpr h), Bool.and_false]
theorem fWo_c {f : Nat → Int32} {n : Nat} {p : Int32} (h : fIn p n = true) (h2 : ¬ rat 10 f p < 10) : fWo f n p = true := by unfold fWo; rw [h, dt (Int32.not_lt.mp h2)]; rfl
/-- the rust of the first stalls, the others' before -/
def fRuC (c : CS) (i : Nat) : Nat → Int32 := if c.1.2.1 < 4 ∧ ¬ c.1.1 - c.1.1 / 3 * 3 = 0 then c.1.2.2.2.2.2.2 else fRuF c.1.2.2.2.2.2.2 i
theorem fRuC_0 {c : CS} : fRuC c 0 = c.1.2.2.2.2.2.2 := by unfold fRuC; split <;> rfl
theorem fRuC_a {c : CS} {i : Nat} (h : ¬ (4 : Int32) ≤ c.1.2.1) (h2 : ¬ c.1.1 - c.1.1 / 3 * 3 = 0) : fRuC c i = fRuC c (i + 1) := by
  unfold fRuC; rw [if_pos ⟨Int32.not_le.mp h, h2⟩, if_pos ⟨Int32.not_le.mp h, h2⟩]
theorem fRuC_b {c : CS} {i : Nat} (h : ¬ (c.1.2.1 < 4 ∧ ¬ c.1.1 - c.1.1 / 3 * 3 = 0)) : fRu1 (fRuC c i) i = fRuC c (i + 1) := by
  unfold fRuC; rw [if_neg h, if_neg h]; rfl
theorem fRuC_e {c : CS} {i nS : Nat} (h : i = nS) : fRst c (fRuC c i) = fRust c nS := by
  subst h; unfold fRuC fRust; split
  · rfl
  · rfl
theorem sI_1 {h : Nat → Int32} {i : Nat} {y : Int32} (hy : y = sumI h i) (hh : h i = 0) : y = sumI h (i + 1) := by
  show y = sumI h i + h i; rw [hh, ← hy, Int32.add_zero]
theorem sI_2 {h : Nat → Int32} {i : Nat} {y d : Int32} (hy : y = sumI h i) (hh : h i = d) : y + d = sumI h (i + 1) := by
  show y + d = sumI h i + h i; rw [hh, ← hy]
theorem sI_3 {h : Nat → Int32} {i : Nat} {y : Int32} (hy : y = sumI h i) (hh : h i = 0 - 3) : y + (-3) = sumI h (i + 1) := by
  show y + (-3) = sumI h i + h i; rw [hh, ← hy]; rfl
theorem sI_4 {h : Nat → Int32} {i : Nat} {y d : Int32} (hy : y = sumI h i) (hh : h i = d - 3) : y + d + (-3) = sumI h (i + 1) := by
  show y + d + (-3) = sumI h i + h i; rw [hh, ← hy, Int32.add_assoc, Int32.sub_eq_add_neg]
section
variable {tr : Nat → Nat → Int32} {fb fq fr : Nat → Int32} {b : Int32} {k : Nat}
theorem fPl1_a (h : rat 10 fb (nI k) = (-1)) (h2 : fSq fr (nI k) = false) : fPl1 tr fb fq fr b k = 0 := by
  unfold fPl1 fDel fCost; rw [if_pos h, h2]; rfl
theorem fPl1_b (h : ¬ rat 10 fb (nI k) = (-1)) (h2 : fSq fr (nI k) = false) : fPl1 tr fb fq fr b k = rat 10 fq (nI k) - 2 * fAbs (rat 8 (tr 0) (rat 10 fb (nI k)) - rat 6 (tr 6) b) := by
  unfold fPl1 fDel fCost; rw [if_neg h, h2]; exact Int32.sub_zero _
theorem fPl1_c (h : rat 10 fb (nI k) = (-1)) (h2 : fSq fr (nI k) = true) : fPl1 tr fb fq fr b k = 0 - 3 := by
  unfold fPl1 fDel fCost; rw [if_pos h, h2]; rfl
theorem fPl1_d (h : ¬ rat 10 fb (nI k) = (-1)) (h2 : fSq fr (nI k) = true) : fPl1 tr fb fq fr b k = rat 10 fq (nI k) - 2 * fAbs (rat 8 (tr 0) (rat 10 fb (nI k)) - rat 6 (tr 6) b) - 3 := by
  unfold fPl1 fDel fCost; rw [if_neg h, h2]; rfl
end
/-- the stalls that bear x, or any (x = -1) -/
def fBg1 (fb : Nat → Int32) (x : Int32) (k : Nat) : Int32 := if x = (-1) then (if rat 10 fb (nI k) = (-1) then 0 else 1) else (if rat 10 fb (nI k) = x then 1 else 0)
def fBrg (fb : Nat → Int32) (x : Int32) (n : Nat) : Int32 := sumI (fBg1 fb x) n
theorem fBg_1 {fb : Nat → Int32} {x : Int32} {k : Nat} (h : x = (-1)) (h2 : rat 10 fb (nI k) = (-1)) : 0 = fBg1 fb x k := ((if_pos h).trans (if_pos h2)).symm
theorem fBg_2 {fb : Nat → Int32} {x : Int32} {k : Nat} (h : x = (-1)) (h2 : ¬ rat 10 fb (nI k) = (-1)) : 1 = fBg1 fb x k := ((if_pos h).trans (if_neg h2)).symm
theorem fBg_3 {fb : Nat → Int32} {x : Int32} {k : Nat} (h : ¬ x = (-1)) (h2 : rat 10 fb (nI k) = x) : 1 = fBg1 fb x k := ((if_neg h).trans (if_pos h2)).symm
theorem fBg_4 {fb : Nat → Int32} {x : Int32} {k : Nat} (h : ¬ x = (-1)) (h2 : ¬ rat 10 fb (nI k) = x) : 0 = fBg1 fb x k := ((if_neg h).trans (if_neg h2)).symm
theorem fBrg_x {fb : Nat → Int32} {x : Int32} {n : Nat} (h : ¬ x = (-1)) : fBrg fb x n = fBear fb x n := by
  unfold fBrg fBear; congr 1; funext k; exact if_neg h
theorem fBrg_n {fb : Nat → Int32} : ∀ n, fBrg fb (-1) n = nI n - fBear fb (-1) n := by
  intro n
  induction n with
  | zero => exact (by decide : (0 : Int32) = nI 0 - 0)
  | succ n ih =>
    show fBrg fb (-1) n + fBg1 fb (-1) n = nI (n + 1) - (fBear fb (-1) n + (if rat 10 fb (nI n) = (-1) then 1 else 0))
    rw [ih, ← nI_1 n]
    unfold fBg1
    rw [if_pos rfl]
    split
    · rw [Int32.add_zero, ← Int32.sub_sub, Int32.sub_eq_add_neg (nI n + 1), Int32.sub_eq_add_neg (nI n), Int32.add_assoc, Int32.add_comm 1, ← Int32.add_assoc, Int32.add_sub_cancel]
    · rw [Int32.add_zero, Int32.sub_eq_add_neg, Int32.sub_eq_add_neg, Int32.add_assoc, Int32.add_assoc, Int32.add_comm 1]
section
variable {tr : Nat → Nat → Int32} {tst : Nat → VS → Bool} {c c2 : CS} {i : Nat}
theorem bI_e1 {b : Bool} (h : bI b = 1) : b = true := by cases b with
  | true => rfl
  | false => exact absurd h (by decide)
theorem bI_n1 {b : Bool} (h : ¬ bI b = 1) : b = false := by cases b with
  | false => rfl
  | true => exact absurd rfl h
theorem mOil_a (hc : c2 = fOilA tr tst c i) {d : Decidable (rat 20 (tr 9) (nI i) = (-1))} (h : ¬ bI (@decide (rat 20 (tr 9) (nI i) = (-1)) d) = 1) : c2 = fOilA tr tst c (i + 1) := by
  subst hc; exact (if_neg (fun q => df' (bI_n1 h) q.1)).symm
theorem mOil_b (hc : c2 = fOilA tr tst c i) (h : tst i c2.1 = false) : c2 = fOilA tr tst c (i + 1) := by
  subst hc; exact (if_neg (fun q => by rw [h] at q; exact absurd q.2 (by decide))).symm
theorem mOil_c (hc : c2 = fOilA tr tst c i) {d : Decidable (rat 20 (tr 9) (nI i) = (-1))} (h : bI (@decide (rat 20 (tr 9) (nI i) = (-1)) d) = 1) (h2 : tst i c2.1 = true) : fRst c2 (rput 10 c2.1.2.2.2.2.2.2 (rat 20 (tr 8) (nI i)) 0) = fOilA tr tst c (i + 1) := by
  subst hc; exact (if_pos ⟨dt' (bI_e1 h), h2⟩).symm
end
