/-! the law's own model (Sim): its rows as the same numbers that the class holds; od: what an order is (kind, stall, beast, carver, -, test + 1, n, a, b, beast of the test) -/
def owd (od : Nat → Nat → Nat) (k q : Nat) : Int32 := if q = 5 then nI (od k 5) + (-1) else nI (od k q)
def simM (tr : Nat → Nat → Int32) (od : Nat → Nat → Nat) (c : CS) : Nat → Nat → Nat → Int32 := fun j i q =>
  if j = 0 then tr q i else if j = 1 then (if q = 3 then c.2.2.2 i else tr (2 + q) i) else if j = 2 then (if q = 0 then tr 5 i else if q = 1 then c.1.2.2.2.1 i else if q = 2 then c.1.2.2.2.2.1 i else if q = 3 then c.1.2.2.2.2.2.1 i else if q = 4 then c.1.2.2.2.2.2.2 i else 0) else if j = 3 then tr (6 + q) i else if j = 4 then (if q = 4 then c.2.2.1 i else owd od i q) else 0
/-- what an order's test says of a choir -/
def sHold (tn : Nat → Nat) (d : Nat → Nat) (v : VS) : Bool :=
  if d 5 = 0 then true else if d 5 = 1 then decide (nI (d 6) / 4 < v.1) else if d 5 = 2 then decide (v.2.2.2.2.2.2 (d 7 % tn 2) ≤ 7) else if d 5 = 3 then decide (nI (d 6) / 9 ≤ v.2.2.2.2.2.2 (d 7 % tn 2))
  else if d 5 = 4 then (decide (v.2.2.2.1 (d 7 % tn 2) = nI (d 9 % tn 0)) || decide (v.2.2.2.2.2.1 (d 8 % tn 2) < nI (d 6)))
  else if d 5 = 5 then ((decide (v.2.2.2.2.1 (d 7 % tn 2) ≤ nI (d 6) / 5) && decide (nI (d 6) / 20 < v.2.1)) || decide (¬ v.1 = nI (d 6) / 3))
  else if d 5 = 6 then decide (2 * (if nI (d 6) < v.2.2.1 then nI (d 6) else v.2.2.1) - v.1 < nI (d 6)) else if d 5 = 7 then decide (nI (d 6) - nI (d 6) / 2 * 2 = 0)
  else decide (nI (d 6) / 6 < (if v.2.2.2.2.2.1 (d 7 % tn 2) < (-v.2.2.2.2.2.2 (d 8 % tn 2)) then (-v.2.2.2.2.2.2 (d 8 % tn 2)) else v.2.2.2.2.2.1 (d 7 % tn 2)))
def CntS (tn : Nat → Nat) : Prop := 1 ≤ tn 0 ∧ tn 0 ≤ 5 ∧ 1 ≤ tn 1 ∧ tn 1 ≤ 4 ∧ 1 ≤ tn 2 ∧ tn 2 ≤ 6 ∧ tn 3 ≤ 3 ∧ tn 4 ≤ 9
def OrdS (tn : Nat → Nat) (tr : Nat → Nat → Int32) (od : Nat → Nat → Nat) (k : Nat) : Prop :=
  (od k 0 ≤ 1 ∧ od k 1 < tn 2 ∧ od k 2 < tn 0 ∧ od k 3 < tn 1 ∧ od k 5 ≤ 8 ∧ od k 6 < 130 ∧ od k 7 < 30 ∧ od k 8 < 30 ∧ od k 9 < 30) ∧ tr 8 k = nI (od k 1) ∧ (od k 0 = 0 → tr 9 k = nI (od k 2) ∧ tr 10 k = nI (od k 3)) ∧ (od k 0 = 1 → tr 9 k = (-1) ∧ tr 10 k = (-1))
def SOKs (tn : Nat → Nat) (tr : Nat → Nat → Int32) (od : Nat → Nat → Nat) : Prop :=
  CntS tn ∧ (∀ k, k < tn 0 → ∃ a b, tr 0 k = nI a ∧ a ≤ 9 ∧ tr 1 k = nI b ∧ 1 ≤ b ∧ b ≤ 9) ∧ (∀ k, k < tn 1 → ∃ a b, tr 2 k = nI a ∧ 1 ≤ a ∧ a ≤ 9 ∧ tr 3 k = nI b ∧ 1 ≤ b ∧ b ≤ 4 ∧ (tr 4 k = (-1) ∨ ∃ x, x < tn 0 ∧ tr 4 k = nI x)) ∧
  (∀ k, k < tn 2 → ∃ a, tr 5 k = nI a ∧ 1 ≤ a ∧ a ≤ 9) ∧ (∀ k, k < tn 3 → ∃ a b, tr 6 k = nI a ∧ a ≤ 9 ∧ tr 7 k = nI b ∧ b ≤ 999) ∧ (∀ k, k < tn 4 → OrdS tn tr od k)
/-- what a choir's numbers are: day d, coins m; bears, quality, worms, rust of each stall -/
def StlS (tn : Nat → Nat) (c : CS) (k : Nat) : Prop := ((c.1.2.2.2.1 k = (-1) ∧ c.1.2.2.2.2.1 k = 0) ∨ ∃ b, b < tn 0 ∧ c.1.2.2.2.1 k = nI b) ∧ ∃ q w r, c.1.2.2.2.2.1 k = nI q ∧ q ≤ 31 ∧ c.1.2.2.2.2.2.1 k = nI w ∧ w ≤ 99 ∧ c.1.2.2.2.2.2.2 k = nI r ∧ r ≤ 20
def CIn (tn : Nat → Nat) (c : CS) (d m : Nat) : Prop := c.1.1 = nI d ∧ d < 100000 ∧ (∃ x, c.1.2.1 = nI x ∧ x ≤ 9) ∧ c.1.2.2.1 = nI m ∧ m < 10000000 ∧ ∀ k, k < tn 2 → StlS tn c k
theorem nI_nm1 {n : Nat} (h : n < 2147483648) : ¬ nI n = (-1) := fun q => absurd (show nI n < 0 by rw [q]; decide) (nI_pos (by omega))
theorem dn_m {a : Nat} (ha : a < 1000) (h : nI a + (-1) = -1) : a = 0 := by
  have h2 : nI a = nI 0 := by
    have := congrArg (· + 1) h
    simp only [Int32.add_assoc] at this
    rw [show ((-1 : Int32) + 1) = 0 by decide, Int32.add_zero] at this
    exact this
  exact (nI_eq (by omega) (by decide)).mp h2
theorem dn_p {a : Nat} {v : Int32} (b : Nat) (hv : v = nI b) (ha : a < 1000) (hb : b < 1000) (h : nI a + (-1) = v) : a = b + 1 := by
  subst hv
  have h2 : nI a = nI (b + 1) := by
    have := congrArg (· + 1) h
    simp only [Int32.add_assoc] at this
    rw [show ((-1 : Int32) + 1) = 0 by decide, Int32.add_zero, nI_1] at this
    exact this
  exact (nI_eq (by omega) (by omega)).mp h2
theorem dn_nm {a : Nat} (h : ¬ nI a + (-1) = -1) : a ≠ 0 := fun q => h (by subst q; decide)
theorem dn_no {a : Nat} {v : Int32} (b : Nat) (hv : v = nI b) (h : ¬ nI a + (-1) = v) : a ≠ b + 1 := fun q => h (by rw [q, hv]; exact pk_m1 b)
theorem dn_eq {i : Nat} (h : ¬ i = 0) : nI i + (-1) = nI (i - 1) := sb_m1 (by omega)
theorem dn_lt {i : Nat} (h : nI i + (-1) < 0) : i = 0 ∨ 2147483648 ≤ i := by
  rcases Nat.eq_zero_or_pos i with q | q
  · exact Or.inl q
  · rw [sb_m1 q] at h
    rcases Nat.lt_or_ge i 2147483648 with q2 | q2
    · exact absurd h (nI_pos (by omega))
    · exact Or.inr q2
theorem dn_ge {i : Nat} (h : ¬ nI i + (-1) < 0) : ¬ i = 0 := fun q => h (by subst q; decide)
theorem sub_m1 {n : Nat} : nI n - 1 = nI n + (-1) := Int32.sub_eq_add_neg _ _
section
variable {tn : Nat → Nat} {d : Nat → Nat} {v : VS}
theorem sH_0 (h : d 5 = 0) : sHold tn d v = true := if_pos h
theorem sH_1 (h : d 5 = 1) : sHold tn d v = decide (nI (d 6) / 4 < v.1) := by unfold sHold; rw [h]; rfl
theorem sH_2 (h : d 5 = 2) : sHold tn d v = decide (v.2.2.2.2.2.2 (d 7 % tn 2) ≤ 7) := by unfold sHold; rw [h]; rfl
theorem sH_3 (h : d 5 = 3) : sHold tn d v = decide (nI (d 6) / 9 ≤ v.2.2.2.2.2.2 (d 7 % tn 2)) := by unfold sHold; rw [h]; rfl
theorem sH_4 (h : d 5 = 4) : sHold tn d v = (decide (v.2.2.2.1 (d 7 % tn 2) = nI (d 9 % tn 0)) || decide (v.2.2.2.2.2.1 (d 8 % tn 2) < nI (d 6))) := by unfold sHold; rw [h]; rfl
theorem sH_5 (h : d 5 = 5) : sHold tn d v = ((decide (v.2.2.2.2.1 (d 7 % tn 2) ≤ nI (d 6) / 5) && decide (nI (d 6) / 20 < v.2.1)) || decide (¬ v.1 = nI (d 6) / 3)) := by unfold sHold; rw [h]; rfl
theorem sH_6 (h : d 5 = 6) : sHold tn d v = decide (2 * (if nI (d 6) < v.2.2.1 then nI (d 6) else v.2.2.1) - v.1 < nI (d 6)) := by unfold sHold; rw [h]; rfl
theorem sH_7 (h : d 5 = 7) : sHold tn d v = decide (nI (d 6) - nI (d 6) / 2 * 2 = 0) := by unfold sHold; rw [h]; rfl
theorem sH_8 (h : 7 < d 5) : sHold tn d v = decide (nI (d 6) / 6 < (if v.2.2.2.2.2.1 (d 7 % tn 2) < (-v.2.2.2.2.2.2 (d 8 % tn 2)) then (-v.2.2.2.2.2.2 (d 8 % tn 2)) else v.2.2.2.2.2.1 (d 7 % tn 2))) := by
  unfold sHold; rw [if_neg (by omega), if_neg (by omega), if_neg (by omega), if_neg (by omega), if_neg (by omega), if_neg (by omega), if_neg (by omega), if_neg (by omega)]
end
section
variable {tn : Nat → Nat} {tr : Nat → Nat → Int32} {od : Nat → Nat → Nat} {fb fq fr : Nat → Int32} {k i n : Nat} {x y day b : Int32} {P : Nat → Bool} {c : CS} {dd m : Nat}
theorem sq_t (hk : k < 10) (h : ¬ fr k ≤ 7) : fSq fr (nI k) = true := by
  unfold fSq; rw [rat_nI hk (by decide)]
  refine dt ?_
  have h1 := Int32.lt_iff_toInt_lt.mp (Int32.not_le.mp h)
  rw [Int32.le_iff_toInt_le]
  have : (7 : Int32).toInt = 7 := by decide
  have : (8 : Int32).toInt = 8 := by decide
  omega
theorem sq_f (hk : k < 10) (h : fr k ≤ 7) : fSq fr (nI k) = false := by
  unfold fSq; rw [rat_nI hk (by decide)]
  refine df (fun q => ?_)
  have h1 := Int32.le_iff_toInt_le.mp h
  have h2 := Int32.le_iff_toInt_le.mp q
  have : (7 : Int32).toInt = 7 := by decide
  have : (8 : Int32).toInt = 8 := by decide
  omega
theorem op_oil (ho : OrdS tn tr od k) (hk : k < 20) (h : ¬ od k 0 = 0) : fOpen tr fb (nI k) = false := by
  unfold fOpen; rw [rat_nI (f := tr 9) hk (by decide), (ho.2.2.2 (by have := ho.1; omega)).1]; rfl
theorem op_eq (ho : OrdS tn tr od k) (hk : k < 20) (hs : tn 2 ≤ 10) (h : od k 0 = 0) (h2 : fb (od k 1) = nI (od k 2)) : fOpen tr fb (nI k) = false := by
  unfold fOpen; rw [rat_nI (f := tr 9) hk (by decide), rat_nI (f := tr 8) hk (by decide), (ho.2.2.1 h).1, ho.2.1, rat_nI (by have := ho.1; omega) (by decide), df (p := ¬ fb (od k 1) = nI (od k 2)) (fun q => q h2), Bool.and_false]
theorem op_ne (ho : OrdS tn tr od k) (hk : k < 20) (hs : tn 2 ≤ 10) (h0 : tn 0 ≤ 10) (h : od k 0 = 0) (h2 : ¬ fb (od k 1) = nI (od k 2)) : fOpen tr fb (nI k) = true := by
  have hb := ho.1
  unfold fOpen; rw [rat_nI (f := tr 9) hk (by decide), rat_nI (f := tr 8) hk (by decide), (ho.2.2.1 h).1, ho.2.1, rat_nI (by omega) (by decide), dt h2, dt (fun q => by have := nI_nm1 (n := od k 2) (by omega); exact this q)]; rfl
/-- the first place behind i where P holds -/
def FF (P : Nat → Bool) (i n : Nat) (w : Int32) : Prop := (w = (-1) ∧ ∀ j, i ≤ j → j < n → P j = false) ∨ ∃ k, w = nI k ∧ i ≤ k ∧ k < n ∧ P k = true ∧ ∀ j, i ≤ j → j < k → P j = false
theorem FF_0 : FF P n n (-1) := Or.inl ⟨rfl, fun j h1 h2 => absurd h1 (by omega)⟩
theorem FF_t (hi : ¬ i = 0) (hn : i ≤ n) (h : P (i - 1) = true) : FF P (i - 1) n (nI (i - 1)) := Or.inr ⟨i - 1, rfl, Nat.le_refl _, by omega, h, fun j h1 h2 => absurd h1 (by omega)⟩
theorem FF_f (hi : ¬ i = 0) (h : P (i - 1) = false) (hF : FF P i n x) : FF P (i - 1) n x := by
  have step : ∀ j, i - 1 ≤ j → j < i → P j = false := fun j h1 h2 => by rw [show j = i - 1 by omega]; exact h
  rcases hF with ⟨h1, h2⟩ | ⟨k, h1, h2, h3, h4, h5⟩
  · refine Or.inl ⟨h1, fun j a1 a2 => ?_⟩
    rcases Nat.lt_or_ge j i with q | q
    · exact step j a1 q
    · exact h2 j q a2
  · refine Or.inr ⟨k, h1, by omega, h3, h4, fun j a1 a2 => ?_⟩
    rcases Nat.lt_or_ge j i with q | q
    · exact step j a1 q
    · exact h5 j q a2
theorem FF_e (hF : FF P 0 n x) : x = oI (ffind P n) := by
  rcases hF with ⟨h1, h2⟩ | ⟨k, h1, h2, h3, h4, h5⟩
  · rw [ffind_none (fun j hj => h2 j (Nat.zero_le _) hj)]; exact h1
  · rw [ffind_some h3 h4 (fun j hj => h5 j (Nat.zero_le _) hj)]; exact h1
theorem rem_0 {a b : Nat} (ha : a < 1000000) (hb : 1 ≤ b) (hb2 : b < 1000) : (nI a - nI a / nI b * nI b ≤ 0 ↔ nI a - nI a / nI b * nI b = 0) := by
  rw [pk_rem (by omega) (by omega) (by omega)]
  have h := Nat.mod_le a b
  constructor
  · intro q
    have := Int32.le_iff_toInt_le.mp q
    rw [nI_toInt (by omega), Int32.toInt_zero] at this
    rw [show a % b = 0 by omega]; rfl
  · intro q; rw [q]; exact Int32.le_refl _
theorem td_no (hO : SOKs tn tr od) (hC : CIn tn c dd m) {tst : Nat → VS → Bool} (hk : k < tn 1) (h : ¬ c.1.1 - c.1.1 / tr 3 k * tr 3 k ≤ 0) : (-1) = oI (fToday tr n tst c.1 k) := by
  obtain ⟨a, p, _, _, _, h3, h4, h5, _⟩ := hO.2.2.1 k hk
  have hn := hO.1
  unfold CntS at hn
  rw [hC.1, h3] at h
  have h7 := mt (rem_0 (a := dd) (b := p) (by have := hC.2.1; omega) h4 (by omega)).mpr h
  refine fTd_b ?_ ?_
  · rw [rat_nI (by omega) (by decide), h3]; exact nI_nlt h4 (by omega)
  · rw [rat_nI (by omega) (by decide), hC.1, h3]; exact h7
theorem td_yes (hO : SOKs tn tr od) (hC : CIn tn c dd m) {tst : Nat → VS → Bool} (hk : k < tn 1) (h : c.1.1 - c.1.1 / tr 3 k * tr 3 k ≤ 0) (hx : x = oI (ffind (fTdP tr tst c.1 k) n)) : x = oI (fToday tr n tst c.1 k) := by
  obtain ⟨a, p, _, _, _, h3, h4, h5, _⟩ := hO.2.2.1 k hk
  have hn := hO.1
  unfold CntS at hn
  rw [hC.1, h3] at h
  have h7 := (rem_0 (a := dd) (b := p) (by have := hC.2.1; omega) h4 (by omega)).mp h
  unfold fToday
  rw [if_neg (by rw [rat_nI (by omega) (by decide), h3]; exact nI_nlt h4 (by omega)), if_neg (fun q => q (by rw [rat_nI (by omega) (by decide), hC.1, h3]; exact h7))]
  exact hx
theorem td_oil {tst : Nat → VS → Bool} {j : Nat} {v : VS} (ho : OrdS tn tr od j) (hj : j < 20) (h : ¬ od j 0 = 0) : fTdP tr tst v k j = false := fTdP_2 (op_oil ho hj h)
theorem td_car {tst : Nat → VS → Bool} {j : Nat} {v : VS} (ho : OrdS tn tr od j) (hj : j < 20) (h : od j 0 = 0) (h2 : ¬ od j 3 = k) (hk : k < 1000) (hn : tn 1 < 1000) : fTdP tr tst v k j = false :=
  fTdP_1 (by rw [rat_nI hj (by decide), (ho.2.2.1 h).2]; exact fun q => h2 ((nI_eq (by have := ho.1; omega) (by omega)).mp q))
theorem td_ok {tst : Nat → VS → Bool} {j : Nat} {v : VS} (ho : OrdS tn tr od j) (hj : j < 20) (h : od j 0 = 0) (h2 : od j 3 = k) (h3 : fOpen tr v.2.2.2.1 (nI j) = true) (h4 : tst j v = true) : fTdP tr tst v k j = true :=
  fTdP_t (by rw [rat_nI hj (by decide), (ho.2.2.1 h).2, h2]) h3 h4
/-- the bishop of the day among those from i on -/
def BI (f : Nat → Int32) (day : Int32) (i n : Nat) (x : Int32) : Prop := (x = (-1) ∧ ∀ k, i ≤ k → k < n → day < f k) ∨ ∃ b, x = nI b ∧ i ≤ b ∧ b < n ∧ f b ≤ day ∧ ∀ k, i ≤ k → k < n → f k ≤ day → f k ≤ f b ∧ (f b ≤ f k → k ≤ b)
theorem BI_0 {f : Nat → Int32} : BI f day n n (-1) := Or.inl ⟨rfl, fun j h1 h2 => absurd h1 (by omega)⟩
theorem BI_a {f : Nat → Int32} (hi : ¬ i = 0) (h : day < f (i - 1)) (hF : BI f day i n x) : BI f day (i - 1) n x := by
  rcases hF with ⟨h1, h2⟩ | ⟨b, h1, h2, h3, h4, h5⟩
  · refine Or.inl ⟨h1, fun j a1 a2 => ?_⟩
    rcases Nat.lt_or_ge j i with q | q
    · rw [show j = i - 1 by omega]; exact h
    · exact h2 j q a2
  · refine Or.inr ⟨b, h1, by omega, h3, h4, fun j a1 a2 a3 => ?_⟩
    rcases Nat.lt_or_ge j i with q | q
    · rw [show j = i - 1 by omega] at a3; exact absurd h (Int32.not_lt.mpr a3)
    · exact h5 j q a2 a3
theorem BI_b {f : Nat → Int32} (hi : ¬ i = 0) (hn : i ≤ n) (h : f (i - 1) ≤ day) (hx : x < 0) (hnl : n < 1000) (hF : BI f day i n x) : BI f day (i - 1) n (nI (i - 1)) := by
  rcases hF with ⟨h1, h2⟩ | ⟨b, h1, h2, h3, h4, h5⟩
  · refine Or.inr ⟨i - 1, rfl, Nat.le_refl _, by omega, h, fun j a1 a2 a3 => ?_⟩
    rcases Nat.lt_or_ge j i with q | q
    · rw [show j = i - 1 by omega]; exact ⟨Int32.le_refl _, fun _ => Nat.le_refl _⟩
    · exact absurd (h2 j q a2) (Int32.not_lt.mpr a3)
  · rw [h1] at hx; exact absurd hx (nI_pos (by omega))
theorem BI_c {f : Nat → Int32} {y : Nat} (hi : ¬ i = 0) (hn : i ≤ n) (h : f (i - 1) ≤ day) (hx : x = nI y) (hy : y < n) (hnl : n < 1000) (h2 : ¬ f (i - 1) ≤ f y) (hF : BI f day i n x) : BI f day (i - 1) n (nI (i - 1)) := by
  rcases hF with ⟨h1, _⟩ | ⟨b, h1, h3, h4, h5, h6⟩
  · rw [hx] at h1; exact absurd h1 (nI_nm1 (by omega))
  · obtain rfl : y = b := (nI_eq (by omega) (by omega)).mp (hx.symm.trans h1)
    refine Or.inr ⟨i - 1, rfl, Nat.le_refl _, by omega, h, fun j a1 a2 a3 => ?_⟩
    rcases Nat.lt_or_ge j i with q | q
    · rw [show j = i - 1 by omega]; exact ⟨Int32.le_refl _, fun _ => Nat.le_refl _⟩
    · have h7 := (h6 j q a2 a3).1
      have h8 : f j < f (i - 1) := Int32.lt_of_le_of_lt h7 (Int32.not_le.mp h2)
      exact ⟨Int32.le_of_lt h8, fun q => absurd h8 (Int32.not_lt.mpr q)⟩
theorem BI_d {f : Nat → Int32} {y : Nat} (hi : ¬ i = 0) (hx : x = nI y) (hy : y < n) (hnl : n < 1000) (h2 : f (i - 1) ≤ f y) (hF : BI f day i n x) : BI f day (i - 1) n (nI y) := by
  rcases hF with ⟨h1, _⟩ | ⟨b, h1, h3, h4, h5, h6⟩
  · rw [hx] at h1; exact absurd h1 (nI_nm1 (by omega))
  · obtain rfl : y = b := (nI_eq (by omega) (by omega)).mp (hx.symm.trans h1)
    refine Or.inr ⟨y, rfl, by omega, h4, h5, fun j a1 a2 a3 => ?_⟩
    rcases Nat.lt_or_ge j i with q | q
    · rw [show j = i - 1 by omega]; exact ⟨h2, fun _ => by omega⟩
    · exact h6 j q a2 a3
theorem BI_x {f : Nat → Int32} (hF : BI f day i n x) : x = (-1) ∨ ∃ b, b < n ∧ x = nI b := by
  rcases hF with ⟨h1, _⟩ | ⟨b, h1, _, h4, _⟩
  · exact Or.inl h1
  · exact Or.inr ⟨b, h4, h1⟩
theorem fBsp_BI (hn : n ≤ 6) : BI (tr 7) day 0 n (fBsp tr day n) := by
  induction n with
  | zero => exact Or.inl ⟨rfl, fun k _ h => absurd h (Nat.not_lt_zero _)⟩
  | succ n ih =>
    have ih := ih (by omega)
    have hr : rat 6 (tr 7) (nI n) = tr 7 n := rat_nI (by omega) (by decide)
    by_cases hd : tr 7 n ≤ day
    · rcases ih with ⟨h1, h2⟩ | ⟨b, h1, _, h4, h5, h6⟩
      · rw [← fBsp_b (tr := tr) (day := day) (i := n) rfl (by rw [hr]; exact Int32.not_lt.mpr hd) h1]
        refine Or.inr ⟨n, rfl, Nat.zero_le _, Nat.lt_succ_self _, hd, fun j a1 a2 a3 => ?_⟩
        rcases Nat.lt_or_ge j n with q | q
        · exact absurd (h2 j a1 q) (Int32.not_lt.mpr a3)
        · rw [show j = n by omega]; exact ⟨Int32.le_refl _, fun _ => Nat.le_refl _⟩
      · have hrb : rat 6 (tr 7) (fBsp tr day n) = tr 7 b := by rw [h1]; exact rat_nI (by omega) (by decide)
        by_cases hc : tr 7 n < tr 7 b
        · rw [← fBsp_c (tr := tr) (day := day) (i := n) rfl (by rw [h1]; exact nI_nm1 (by omega)) (by rw [hr, hrb]; exact hc)]
          refine Or.inr ⟨b, h1, Nat.zero_le _, by omega, h5, fun j a1 a2 a3 => ?_⟩
          rcases Nat.lt_or_ge j n with q | q
          · exact h6 j a1 q a3
          · rw [show j = n by omega]; exact ⟨Int32.le_of_lt hc, fun q => absurd hc (Int32.not_lt.mpr q)⟩
        · rw [← fBsp_d (tr := tr) (day := day) (i := n) rfl (by rw [hr]; exact Int32.not_lt.mpr hd) (by rw [hr, hrb]; exact hc)]
          refine Or.inr ⟨n, rfl, Nat.zero_le _, Nat.lt_succ_self _, hd, fun j a1 a2 a3 => ?_⟩
          rcases Nat.lt_or_ge j n with q | q
          · exact ⟨Int32.le_trans (h6 j a1 q a3).1 (Int32.not_lt.mp hc), fun _ => by omega⟩
          · rw [show j = n by omega]; exact ⟨Int32.le_refl _, fun _ => Nat.le_refl _⟩
    · rw [← fBsp_a (tr := tr) (day := day) (i := n) rfl (by rw [hr]; exact Int32.not_le.mp hd)]
      rcases ih with ⟨h1, h2⟩ | ⟨b, h1, _, h4, h5, h6⟩
      · refine Or.inl ⟨h1, fun j a1 a2 => ?_⟩
        rcases Nat.lt_or_ge j n with q | q
        · exact h2 j a1 q
        · rw [show j = n by omega]; exact Int32.not_le.mp hd
      · refine Or.inr ⟨b, h1, Nat.zero_le _, by omega, h5, fun j a1 a2 a3 => ?_⟩
        rcases Nat.lt_or_ge j n with q | q
        · exact h6 j a1 q a3
        · rw [show j = n by omega] at a3; exact absurd a3 hd
theorem BI_e (hn : n ≤ 6) (hF : BI (tr 7) day 0 n x) : x = fBsp tr day n := by
  have hG := fBsp_BI (tr := tr) (day := day) hn
  rcases hF with ⟨h1, h2⟩ | ⟨b, h1, _, h4, h5, h6⟩
  · rcases hG with ⟨g1, _⟩ | ⟨a, g1, _, g4, g5, g6⟩
    · rw [h1, g1]
    · exact absurd (h2 a (Nat.zero_le _) g4) (Int32.not_lt.mpr g5)
  · rcases hG with ⟨_, g2⟩ | ⟨a, g1, _, g4, g5, g6⟩
    · exact absurd (g2 b (Nat.zero_le _) h4) (Int32.not_lt.mpr h5)
    · have e1 := h6 a (Nat.zero_le _) g4 g5
      have e2 := g6 b (Nat.zero_le _) h4 h5
      have : a = b := Nat.le_antisymm (e1.2 e2.1) (e2.2 e1.1)
      rw [h1, g1, this]
end
section
variable {tn : Nat → Nat} {tr : Nat → Nat → Int32} {od : Nat → Nat → Nat} {fb fq fr : Nat → Int32} {k i n : Nat} {x y day b : Int32} {P : Nat → Bool} {c : CS} {dd m : Nat}
theorem del_no (hk : k < 10) (h : fb k = (-1)) : 0 = fDel tr fb fq b (nI k) := by unfold fDel; rw [rat_nI hk (by decide), if_pos h]
theorem ab_f {x : Int32} (h : x < 0) : -x = fAbs x := by unfold fAbs; rw [if_neg (Int32.not_le.mpr h)]; exact (Int32.zero_sub x).symm
theorem ab_t {x : Int32} (h : ¬ x < 0) : x = fAbs x := by unfold fAbs; rw [if_pos (Int32.not_lt.mp h)]
theorem del_b {e B : Nat} (hk : k < 10) (he : e < 8) (hB : B < 6) (h : fb k = nI e) {w : Int32} (hw : w = fAbs (tr 0 e - tr 6 B)) : fq k - 2 * w = fDel tr fb fq (nI B) (nI k) := by
  unfold fDel; rw [rat_nI hk (by decide), h, if_neg (nI_nm1 (by omega)), rat_nI hk (by decide), rat_nI he (by decide), rat_nI hB (by decide), hw]
theorem cost_t (h : fSq fr (nI k) = true) : 3 = fCost fr (nI k) := (if_pos h).symm
theorem cost_f (h : fSq fr (nI k) = false) : 0 = fCost fr (nI k) := (if_neg (by rw [h]; decide)).symm
theorem bear_ge (hs : StlS tn c k) (hn : tn 0 < 1000) (h : ¬ c.1.2.2.2.1 k < 0) : ∃ e, e < tn 0 ∧ c.1.2.2.2.1 k = nI e := by
  rcases hs.1 with ⟨h1, _⟩ | h1
  · rw [h1] at h; exact absurd (by decide) h
  · exact h1
theorem bear_lt (hs : StlS tn c k) (hn : tn 0 < 1000) (h : c.1.2.2.2.1 k < 0) : c.1.2.2.2.1 k = (-1) := by
  rcases hs.1 with ⟨h1, _⟩ | ⟨e, h1, h2⟩
  · exact h1
  · rw [h2] at h; exact absurd h (nI_pos (by omega))
/-- the least pleasing stall among those from i on -/
def WI (B : Nat → Bool) (f : Nat → Int32) (i n : Nat) (x y : Int32) : Prop := (x = (-1) ∧ ∀ k, i ≤ k → k < n → B k = false) ∨ ∃ b, x = nI b ∧ i ≤ b ∧ b < n ∧ B b = true ∧ y = f b ∧ ∀ k, i ≤ k → k < n → B k = true → f b ≤ f k ∧ (f k ≤ f b → b ≤ k)
variable {B : Nat → Bool} {f : Nat → Int32}
theorem WI_0 : WI B f n n (-1) 0 := Or.inl ⟨rfl, fun j h1 h2 => absurd h1 (by omega)⟩
theorem WI_a (hi : ¬ i = 0) (h : B (i - 1) = false) (hF : WI B f i n x y) : WI B f (i - 1) n x y := by
  rcases hF with ⟨h1, h2⟩ | ⟨b, h1, h2, h3, h4, h5, h6⟩
  · refine Or.inl ⟨h1, fun j a1 a2 => ?_⟩
    rcases Nat.lt_or_ge j i with q | q
    · rw [show j = i - 1 by omega]; exact h
    · exact h2 j q a2
  · refine Or.inr ⟨b, h1, by omega, h3, h4, h5, fun j a1 a2 a3 => ?_⟩
    rcases Nat.lt_or_ge j i with q | q
    · rw [show j = i - 1 by omega, h] at a3; cases a3
    · exact h6 j q a2 a3
theorem WI_b (hi : ¬ i = 0) (hn : i ≤ n) (h : B (i - 1) = true) (hnl : n < 1000) (hx : x < 0 ∨ f (i - 1) ≤ y) (hF : WI B f i n x y) : WI B f (i - 1) n (nI (i - 1)) (f (i - 1)) := by
  refine Or.inr ⟨i - 1, rfl, Nat.le_refl _, by omega, h, rfl, fun j a1 a2 a3 => ?_⟩
  rcases Nat.lt_or_ge j i with q | q
  · rw [show j = i - 1 by omega]; exact ⟨Int32.le_refl _, fun _ => Nat.le_refl _⟩
  · rcases hF with ⟨h1, h2⟩ | ⟨b, h1, h2, h3, h4, h5, h6⟩
    · rw [h2 j q a2] at a3; cases a3
    · rcases hx with hx | hx
      · rw [h1] at hx; exact absurd hx (nI_pos (by omega))
      · rw [h5] at hx; exact ⟨Int32.le_trans hx (h6 j q a2 a3).1, fun _ => by omega⟩
theorem WI_c (hi : ¬ i = 0) (hnl : n < 1000) (hx : ¬ x < 0) (h : ¬ f (i - 1) ≤ y) (hF : WI B f i n x y) : WI B f (i - 1) n x y := by
  rcases hF with ⟨h1, h2⟩ | ⟨b, h1, h2, h3, h4, h5, h6⟩
  · rw [h1] at hx; exact absurd (by decide) hx
  · refine Or.inr ⟨b, h1, by omega, h3, h4, h5, fun j a1 a2 a3 => ?_⟩
    rcases Nat.lt_or_ge j i with q | q
    · rw [show j = i - 1 by omega]
      rw [h5] at h
      exact ⟨Int32.le_of_lt (Int32.not_le.mp h), fun q => absurd q h⟩
    · exact h6 j q a2 a3
theorem fWst_WI (hn : n ≤ 10) : WI (fun k => decide (¬ fb k = (-1))) (fPl1 tr fb fq fr b) 0 n (fWst tr fb fq fr b n).1 (fWst tr fb fq fr b n).2 := by
  induction n with
  | zero => exact Or.inl ⟨rfl, fun k _ h => absurd h (Nat.not_lt_zero _)⟩
  | succ n ih =>
    have ih := ih (by omega)
    have hr : rat 10 fb (nI n) = fb n := rat_nI (by omega) (by decide)
    show WI _ _ 0 (n + 1) (if _ then _ else _ : Int32 × Int32).1 (if _ then _ else _ : Int32 × Int32).2
    by_cases hc : ¬ rat 10 fb (nI n) = (-1) ∧ ((fWst tr fb fq fr b n).1 = (-1) ∨ fPl1 tr fb fq fr b n < (fWst tr fb fq fr b n).2)
    · rw [if_pos hc]
      rw [hr] at hc
      refine Or.inr ⟨n, rfl, Nat.zero_le _, Nat.lt_succ_self _, dt hc.1, rfl, fun j a1 a2 a3 => ?_⟩
      rcases Nat.lt_or_ge j n with q | q
      · rcases ih with ⟨h1, h2⟩ | ⟨e, h1, h2, h3, h4, h5, h6⟩
        · rw [h2 j a1 q] at a3; cases a3
        · rcases hc.2 with q1 | q1
          · rw [h1] at q1; exact absurd q1 (nI_nm1 (by omega))
          · rw [h5] at q1
            have h8 := Int32.lt_of_lt_of_le q1 (h6 j a1 q a3).1
            exact ⟨Int32.le_of_lt h8, fun q2 => absurd h8 (Int32.not_lt.mpr q2)⟩
      · rw [show j = n by omega]; exact ⟨Int32.le_refl _, fun _ => Nat.le_refl _⟩
    · rw [if_neg hc]
      rw [hr] at hc
      rcases ih with ⟨h1, h2⟩ | ⟨e, h1, h2, h3, h4, h5, h6⟩
      · refine Or.inl ⟨h1, fun j a1 a2 => ?_⟩
        rcases Nat.lt_or_ge j n with q | q
        · exact h2 j a1 q
        · rw [show j = n by omega]
          exact df (fun q1 => hc ⟨q1, Or.inl h1⟩)
      · refine Or.inr ⟨e, h1, h2, by omega, h4, h5, fun j a1 a2 a3 => ?_⟩
        rcases Nat.lt_or_ge j n with q | q
        · exact h6 j a1 q a3
        · rw [show j = n by omega] at a3 ⊢
          have q1 := dt' a3
          have q2 : ¬ fPl1 tr fb fq fr b n < (fWst tr fb fq fr b n).2 := fun q2 => hc ⟨q1, Or.inr q2⟩
          rw [h5] at q2
          exact ⟨Int32.not_lt.mp q2, fun _ => by omega⟩
theorem WI_e (hn : n ≤ 10) (hF : WI (fun k => decide (¬ fb k = (-1))) (fPl1 tr fb fq fr b) 0 n x y) : x = (fWst tr fb fq fr b n).1 := by
  have hG := fWst_WI (tr := tr) (fb := fb) (fq := fq) (fr := fr) (b := b) hn
  rcases hF with ⟨h1, h2⟩ | ⟨a, h1, _, h3, h4, h5, h6⟩
  · rcases hG with ⟨g1, _⟩ | ⟨e, g1, _, g3, g4, g5, g6⟩
    · rw [h1, g1]
    · rw [h2 e (Nat.zero_le _) g3] at g4; cases g4
  · rcases hG with ⟨_, g2⟩ | ⟨e, g1, _, g3, g4, g5, g6⟩
    · rw [g2 a (Nat.zero_le _) h3] at h4; cases h4
    · have e1 := h6 e (Nat.zero_le _) g3 g4
      have e2 := g6 a (Nat.zero_le _) h3 h4
      have : a = e := Nat.le_antisymm (e1.2 e2.1) (e2.2 e1.1)
      rw [h1, g1, this]
end
