/-! the reference: places, kinds of tokens; its recogniser as functions of the signs -/
def updN (f : Nat → Nat) (j x : Nat) : Nat → Nat := fun i => if i = j then x else f i
def updR {α : Type} (f : Nat → α) (j : Nat) (x : α) : Nat → α := fun i => if i = j then x else f i
def inC (i : Int32) (n : Nat) : Prop := ∃ k, k < n ∧ i = nI k
theorem inC_v {i : Int32} {m n : Nat} (h : inC i m) (hm : m ≤ n) (hn : n < 2147483648) : vp_in i n := by
  obtain ⟨k, hk, rfl⟩ := h; exact vp_in_nI (by omega) hn
def KML : List Int32 := [70, 71, 30, 31, 72, 40, 41, 42, 43, 44, 45, 46, 47, 48, 49, 50, 51, 52, 53, 54, 0, 1, 2, 3, 4, 5, 6, 7, 8, 9, 10, 11, 12, 13, 14, 15, 16, 17, 18, 19, 20, 21, 22, 23, 24, 25, 26, 27, 28]
def km (s : Nat) : Int32 := KML.getD s 0
theorem km_eqD : ∀ a, a < 49 → ∀ b, b < 49 → (km a = km b ↔ a = b) := by decide +kernel
theorem km_eq {a b : Nat} (ha : a < 49) (hb : b < 49) : km a = km b ↔ a = b := km_eqD a ha b hb
def fIn (i : Int32) (n : Nat) : Bool := decide (0 ≤ i ∧ i < nI n)
theorem fIn_c {i : Int32} {n : Nat} (hn : n < 1000) : (0 ≤ i ∧ i ≤ nI n - 1) ↔ (0 ≤ i ∧ i < nI n) := by
  rw [Int32.le_iff_toInt_le, Int32.le_iff_toInt_le, Int32.lt_iff_toInt_lt, nI_toInt (by omega)]
  cases n with
  | zero =>
    have e : (nI 0 - 1).toInt = -1 := by decide
    rw [e, show (0 : Int32).toInt = 0 from rfl]; omega
  | succ n => rw [nI_pred, nI_toInt (by omega)]; omega
theorem fIn_is {i : Int32} {n : Nat} (hn : n < 1000) : decide (0 ≤ i ∧ i ≤ nI n - 1) = fIn i n := decide_eq_decide.mpr (fIn_c hn)
theorem inC_of {i : Int32} {n : Nat} (hn : n < 1000) (h : fIn i n = true) : inC i n := by
  have h2 := of_decide_eq_true h
  rw [Int32.le_iff_toInt_le, Int32.lt_iff_toInt_lt, nI_toInt (by omega)] at h2
  have h0 : (0 : Int32).toInt = 0 := rfl
  refine ⟨i.toInt.toNat, by omega, ?_⟩
  apply Int32.toInt_inj.mp
  rw [nI_toInt (by omega)]; omega
theorem fIn_nI {k n : Nat} (hk : k < n) (hn : n < 1000) : fIn (nI k) n = true := by
  refine decide_eq_true ?_
  rw [Int32.le_iff_toInt_le, Int32.lt_iff_toInt_lt, nI_toInt (by omega), nI_toInt (by omega)]
  have h0 : (0 : Int32).toInt = 0 := rfl
  omega
def fB (f : Nat → Int32) (n k : Nat) : Int32 := if k < n then f k else -1
theorem fB_lt {f : Nat → Int32} {n k : Nat} (h : k < n) : fB f n k = f k := if_pos h
theorem fB_ge {f : Nat → Int32} {n k : Nat} (h : n ≤ k) : fB f n k = -1 := if_neg (by omega)
theorem fB_L {f : Nat → Int32} {n k : Nat} (h : isL (fB f n k) = true) : k < n := by
  rcases Nat.lt_or_ge k n with q | q
  · exact q
  · rw [fB_ge q] at h; exact absurd h (by decide)
theorem fB_D {f : Nat → Int32} {n k : Nat} (h : isD (fB f n k) = true) : k < n := by
  rcases Nat.lt_or_ge k n with q | q
  · exact q
  · rw [fB_ge q] at h; exact absurd h (by decide)
theorem fB_eq {f : Nat → Int32} {n k : Nat} {x : Int32} (h : fB f n k = x) (hx : ¬ (-1 : Int32) = x) : k < n := by
  rcases Nat.lt_or_ge k n with q | q
  · exact q
  · rw [fB_ge q] at h; exact absurd h hx
/-- how far a word (l) or a number goes on from p -/
def rwF (f : Nat → Int32) (l : Bool) : Nat → Nat → Nat
  | 0, p => p
  | k + 1, p => if (isD (f p) || (l && isL (f p))) = true then rwF f l k (p + 1) else p
def rwe (f : Nat → Int32) (n : Nat) (l : Bool) (p : Nat) : Nat := rwF f l (n - p) p
theorem rwe_go {f : Nat → Int32} {n p : Nat} {l : Bool} (h : p < n) (hb : (isD (fB f n p) || (l && isL (fB f n p))) = true) : rwe f n l p = rwe f n l (p + 1) := by
  rw [fB_lt h] at hb
  unfold rwe; rw [show n - p = (n - (p + 1)) + 1 by omega]; exact if_pos hb
theorem rwe_stop {f : Nat → Int32} {n p : Nat} {l : Bool} (hb : isD (fB f n p) = false) (hl : l = false ∨ isL (fB f n p) = false) : rwe f n l p = p := by
  rcases Nat.lt_or_ge p n with h | h
  · rw [fB_lt h] at hb hl
    unfold rwe; rw [show n - p = (n - (p + 1)) + 1 by omega]
    refine if_neg ?_
    rcases hl with hl | hl
    · rw [hb, hl]; simp
    · rw [hb, hl]; simp
  · unfold rwe; rw [show n - p = 0 by omega]; rfl
theorem rwF_w {f : Nat → Int32} : ∀ (k p : Nat) (c : Int64), (wdF f k p c).1 = rwF f true k p := by
  intro k
  induction k with
  | zero => intro p c; rfl
  | succ k ih =>
    intro p c
    show (if (isL (f p) || isD (f p)) = true then wdF f k (p + 1) (lgr c (f p)) else (p, c)).1 = if (isD (f p) || (true && isL (f p))) = true then rwF f true k (p + 1) else p
    rw [Bool.true_and, Bool.or_comm (isD (f p))]
    split
    · exact ih _ _
    · rfl
theorem rwF_n {f : Nat → Int32} : ∀ (k p : Nat) (c : Int64), (nbF f k p c).1 = rwF f false k p := by
  intro k
  induction k with
  | zero => intro p c; rfl
  | succ k ih =>
    intro p c
    show (if isD (f p) = true then nbF f k (p + 1) (dig c (f p)) else (p, c)).1 = if (isD (f p) || (false && isL (f p))) = true then rwF f false k (p + 1) else p
    rw [Bool.false_and, Bool.or_false]
    split
    · exact ih _ _
    · rfl
theorem rwe_w {f : Nat → Int32} {n p : Nat} {c : Int64} : (wdp f n p c).1 = rwe f n true p := rwF_w _ _ _
theorem rwe_n {f : Nat → Int32} {n p : Nat} {c : Int64} : (nbp f n p c).1 = rwe f n false p := rwF_n _ _ _
/-- the length of the token at p, as the reference has it -/
def rln (f : Nat → Int32) (n p : Nat) : Nat := if n ≤ p then 1 else lexE f n p 0 - p
theorem rln_e {f : Nat → Int32} {n p : Nat} (h : n ≤ p) : rln f n p = 1 := if_pos h
theorem rln_w {f : Nat → Int32} {n p : Nat} (h : p < n) (hl : isL (f p) = true) : rln f n p = rwe f n true (p + 1) - p := by
  unfold rln lexE; rw [if_neg (by omega), if_neg (by omega), if_pos hl, rwe_w, rwe_go h (by rw [fB_lt h, hl]; simp)]
theorem rln_d {f : Nat → Int32} {n p : Nat} (h : p < n) (hl : isL (f p) = false) (hd : isD (f p) = true) : rln f n p = rwe f n false (p + 1) - p := by
  unfold rln lexE; rw [if_neg (by omega), if_neg (by omega), if_neg (by rw [hl]; decide), if_pos hd, rwe_n, rwe_go h (by rw [fB_lt h, hd]; simp)]
theorem rln_s {f : Nat → Int32} {n p : Nat} (h : p < n) (hl : isL (f p) = false) (hd : isD (f p) = false) : rln f n p = symL (f p) (isE f n (p + 1)) := by
  unfold rln lexE; rw [if_neg (by omega), if_neg (by omega), if_neg (by rw [hl]; decide), if_neg (by rw [hd]; decide)]; omega
theorem rln_0 {f : Nat → Int32} {n p : Nat} (hl : isL (fB f n p) = false) (hd : isD (fB f n p) = false) (h6 : ¬ fB f n p = 60 ∧ ¬ fB f n p = 62 ∨ ¬ fB f n (p + 1) = 61) : rln f n p = 1 := by
  rcases Nat.lt_or_ge p n with h | h
  · rw [fB_lt h] at hl hd h6
    rw [rln_s h hl hd]; unfold symL
    refine if_neg ?_
    rintro ⟨a, b⟩
    rcases h6 with h6 | h6
    · rcases a with a | a
      · exact h6.1 a
      · exact h6.2 a
    · have b2 := of_decide_eq_true b
      exact h6 ((fB_lt b2.1).trans b2.2)
  · exact rln_e h
theorem rln_2 {f : Nat → Int32} {n p : Nat} (hl : isL (fB f n p) = false) (hd : isD (fB f n p) = false) (h6 : fB f n p = 60 ∨ fB f n p = 62) (h1 : fB f n (p + 1) = 61) : rln f n p = 2 := by
  have h : p < n := by rcases h6 with h6 | h6 <;> exact fB_eq h6 (by decide)
  have h' : p + 1 < n := fB_eq h1 (by decide)
  rw [fB_lt h] at hl hd h6
  rw [fB_lt h'] at h1
  rw [rln_s h hl hd]; unfold symL
  exact if_pos ⟨h6, decide_eq_true ⟨h', h1⟩⟩
theorem rln_l {f : Nat → Int32} {n p i : Nat} {l : Bool} (hp : p < n) (hb : isL (fB f n p) = l) (hd : l = true ∨ isD (fB f n p) = true) (hs : rwe f n l i = rwe f n l (p + 1)) (h : rwe f n l i = i) : i - p = rln f n p := by
  rw [fB_lt hp] at hb hd
  cases l with
  | true => rw [rln_w hp hb, ← hs, h]
  | false =>
    rcases hd with hd | hd
    · cases hd
    · rw [rln_d hp hb hd, ← hs, h]
theorem symL_1 (b : Int32) (q : Bool) : 1 ≤ symL b q ∧ symL b q ≤ 2 := by unfold symL; split <;> omega
/-! the recogniser -/
abbrev RF : Type := Nat → Bool × Nat
def TKO (sq : Nat → Nat) (K : Nat) (kF : Nat → Int32) : Prop := K ≤ 400 ∧ (∀ j, j ≤ K → kF j = km (sq j)) ∧ (∀ j, sq j < 49) ∧ (∀ j, j < K → sq j ≠ 0 ∧ sq j ≠ 1) ∧ (sq K = 0 ∨ sq K = 1)
theorem tko_s {sq : Nat → Nat} {K t : Nat} {kF : Nat → Int32} (hT : TKO sq K kF) (ht : t ≤ K) (h : 2 ≤ sq t) : t + 1 ≤ K := by
  rcases Nat.lt_or_ge t K with q | q
  · exact q
  · have e : t = K := by omega
    subst e
    have := hT.2.2.2.2; omega
def rEat (sq : Nat → Nat) (s t : Nat) : Bool × Nat := if sq t = s then (true, t + 1) else (false, t)
def rIn (sq : Nat → Nat) (a b t : Nat) : Bool × Nat := if a ≤ sq t ∧ sq t ≤ b then (true, t + 1) else (false, t)
def rDn (sq : Nat → Nat) (s d t : Nat) : Bool × Nat × Nat := if sq t = s ∧ d < 8 then (true, t + 1, d + 1) else (false, t, d)
theorem rEat_t {sq : Nat → Nat} {s t : Nat} (h : (rEat sq s t).1 = true) : sq t = s ∧ rEat sq s t = (true, t + 1) := by
  by_cases c : sq t = s
  · exact ⟨c, if_pos c⟩
  · rw [show rEat sq s t = (false, t) from if_neg c] at h; cases h
theorem rEat_f {sq : Nat → Nat} {s t : Nat} (h : (rEat sq s t).1 = false) : ¬ sq t = s ∧ rEat sq s t = (false, t) := by
  by_cases c : sq t = s
  · rw [show rEat sq s t = (true, t + 1) from if_pos c] at h; cases h
  · exact ⟨c, if_neg c⟩
theorem rEat_a {sq : Nat → Nat} {s t : Nat} (h : sq t = s) : rEat sq s t = (true, t + 1) := if_pos h
theorem rEat_b {sq : Nat → Nat} {s t : Nat} (h : ¬ sq t = s) : rEat sq s t = (false, t) := if_neg h
theorem rIn_t {sq : Nat → Nat} {a b t : Nat} (h : (rIn sq a b t).1 = true) : (a ≤ sq t ∧ sq t ≤ b) ∧ rIn sq a b t = (true, t + 1) := by
  by_cases c : a ≤ sq t ∧ sq t ≤ b
  · exact ⟨c, if_pos c⟩
  · rw [show rIn sq a b t = (false, t) from if_neg c] at h; cases h
theorem rIn_f {sq : Nat → Nat} {a b t : Nat} (h : (rIn sq a b t).1 = false) : ¬ (a ≤ sq t ∧ sq t ≤ b) ∧ rIn sq a b t = (false, t) := by
  by_cases c : a ≤ sq t ∧ sq t ≤ b
  · rw [show rIn sq a b t = (true, t + 1) from if_pos c] at h; cases h
  · exact ⟨c, if_neg c⟩
theorem rIn_a {sq : Nat → Nat} {a b t : Nat} (h : a ≤ sq t ∧ sq t ≤ b) : rIn sq a b t = (true, t + 1) := if_pos h
theorem rIn_b {sq : Nat → Nat} {a b t : Nat} (h : ¬ (a ≤ sq t ∧ sq t ≤ b)) : rIn sq a b t = (false, t) := if_neg h
theorem rDn_t {sq : Nat → Nat} {s d t : Nat} (h : (rDn sq s d t).1 = true) : (sq t = s ∧ d < 8) ∧ rDn sq s d t = (true, t + 1, d + 1) := by
  by_cases c : sq t = s ∧ d < 8
  · exact ⟨c, if_pos c⟩
  · rw [show rDn sq s d t = (false, t, d) from if_neg c] at h; cases h
theorem rDn_f {sq : Nat → Nat} {s d t : Nat} (h : (rDn sq s d t).1 = false) : ¬ (sq t = s ∧ d < 8) ∧ rDn sq s d t = (false, t, d) := by
  by_cases c : sq t = s ∧ d < 8
  · rw [show rDn sq s d t = (true, t + 1, d + 1) from if_pos c] at h; cases h
  · exact ⟨c, if_neg c⟩
theorem rDn_a {sq : Nat → Nat} {s d t : Nat} (h : sq t = s) (h2 : ¬ d = 8) (h3 : d ≤ 8) : rDn sq s d t = (true, t + 1, d + 1) := if_pos ⟨h, by omega⟩
theorem rDn_b {sq : Nat → Nat} {s d t : Nat} (h : ¬ sq t = s) : rDn sq s d t = (false, t, d) := if_neg (fun q => h q.1)
theorem rDn_c {sq : Nat → Nat} {s d t : Nat} (h : d = 8) : rDn sq s d t = (false, t, d) := if_neg (fun q => by omega)
def rThen (r : Bool × Nat) (f : RF) : Bool × Nat := if r.1 = true then f r.2 else (false, r.2)
theorem rThen_t {r : Bool × Nat} {f : RF} (h : r.1 = true) : rThen r f = f r.2 := if_pos h
theorem rThen_f {r : Bool × Nat} {f : RF} (h : r.1 = false) : rThen r f = (false, r.2) := if_neg (by rw [h]; decide)
def rDeep (b : Bool) (f : RF) (t : Nat) : Bool × Nat := if b = true then f (t + 1) else (false, t)
def rDo (sq : Nat → Nat) (a b : Nat) (body : RF) : Nat → RF
  | 0, t => (false, t)
  | m + 1, t => if (body t).1 = true then (if a ≤ sq (body t).2 ∧ sq (body t).2 ≤ b then rDo sq a b body m ((body t).2 + 1) else (true, (body t).2)) else (false, (body t).2)
def rCh2 (sq : Nat → Nat) (ls : RF) : RF := fun t => rThen (ls t) (fun t => rThen (rEat sq 10 t) (fun t => rThen (ls t) (rEat sq 6)))
def rValF (sq : Nat → Nat) (deep : Bool) (lv ls : RF) (t : Nat) : Bool × Nat :=
  if sq t = 12 then rDeep deep lv t
  else if sq t = 3 ∨ sq t = 36 ∨ sq t = 37 ∨ sq t = 41 then (true, t + 1)
  else if 38 ≤ sq t ∧ sq t ≤ 40 then rEat sq 2 (t + 1)
  else if 47 ≤ sq t ∧ sq t ≤ 48 then (if sq (t + 1) = 5 then rDeep deep (rCh2 sq ls) (t + 1) else (false, t + 1))
  else if sq t = 5 then rDeep deep (fun t => rThen (ls t) (rEat sq 6)) t
  else (false, t)
def rSinF (sq : Nat → Nat) (deep : Bool) (lg lt s : RF) (t : Nat) : Bool × Nat :=
  if sq t = 44 then rDeep deep lg t
  else if sq t = 7 then rDeep deep (fun t => rThen (lt t) (rEat sq 8)) t
  else if sq t = 42 then rThen (rEat sq 2 (t + 1)) (rEat sq 2)
  else if sq t = 43 then rEat sq 2 (t + 1)
  else rThen (s t) (fun t => rThen (rIn sq 15 19 t) s)
def rNo : RF := fun t => (false, t)
def rMk (sq : Nat → Nat) (deep : Bool) (lo : RF × RF × RF × RF) : RF × RF × RF × RF :=
  (rValF sq deep lo.1 lo.2.1, rDo sq 11 12 (rDo sq 13 14 (rValF sq deep lo.1 lo.2.1) 401) 401,
   rSinF sq deep lo.2.2.1 lo.2.2.2 (rDo sq 11 12 (rDo sq 13 14 (rValF sq deep lo.1 lo.2.1) 401) 401),
   rDo sq 46 46 (rDo sq 45 45 (rSinF sq deep lo.2.2.1 lo.2.2.2 (rDo sq 11 12 (rDo sq 13 14 (rValF sq deep lo.1 lo.2.1) 401) 401)) 401) 401)
def rL (sq : Nat → Nat) : Nat → RF × RF × RF × RF
  | 0 => (rNo, rNo, rNo, rNo)
  | n + 1 => rMk sq (deepb n) (rL sq n)
def rVal (sq : Nat → Nat) (n : Nat) : RF := (rL sq (n + 1)).1
def rPro (sq : Nat → Nat) (n : Nat) : RF := rDo sq 13 14 (rVal sq n) 401
def rSum (sq : Nat → Nat) (n : Nat) : RF := (rL sq (n + 1)).2.1
def rSin (sq : Nat → Nat) (n : Nat) : RF := (rL sq (n + 1)).2.2.1
def rBot (sq : Nat → Nat) (n : Nat) : RF := rDo sq 45 45 (rSin sq n) 401
def rTes (sq : Nat → Nat) (n : Nat) : RF := (rL sq (n + 1)).2.2.2
section
variable {sq : Nat → Nat} {n t : Nat}
theorem rVal_s (n : Nat) : rVal sq (n + 1) = rValF sq true (rVal sq n) (rSum sq n) := rfl
theorem rVal_0 : rVal sq 0 = rValF sq false rNo rNo := rfl
theorem rL_s : rL sq (n + 1) = rMk sq (deepb n) (rL sq n) := rfl
theorem rSum_is : rSum sq n = rDo sq 11 12 (rPro sq n) 401 := by unfold rSum rPro rVal; rw [rL_s]; unfold rMk; dsimp only
theorem rSin_s (n : Nat) : rSin sq (n + 1) = rSinF sq true (rSin sq n) (rTes sq n) (rSum sq (n + 1)) := rfl
theorem rSin_0 : rSin sq 0 = rSinF sq false rNo rNo (rSum sq 0) := rfl
theorem rTes_is : rTes sq n = rDo sq 46 46 (rBot sq n) 401 := by unfold rTes rBot rSin; rw [rL_s]; unfold rMk; dsimp only
theorem rVal_p (h : 0 < n) : rVal sq n = rValF sq true (rVal sq (n - 1)) (rSum sq (n - 1)) := by
  obtain ⟨m, rfl⟩ : ∃ m, n = m + 1 := ⟨n - 1, by omega⟩
  exact rVal_s m
theorem rSin_p (h : 0 < n) : rSin sq n = rSinF sq true (rSin sq (n - 1)) (rTes sq (n - 1)) (rSum sq n) := by
  obtain ⟨m, rfl⟩ : ∃ m, n = m + 1 := ⟨n - 1, by omega⟩
  exact rSin_s m
theorem rVal_1 (h : sq t = 12) (hn : 0 < n) : rVal sq n t = rVal sq (n - 1) (t + 1) := by rw [rVal_p hn]; exact if_pos h
theorem rVal_1z (h : sq t = 12) (hn : n = 0) : rVal sq n t = (false, t) := by subst hn; exact if_pos h
theorem rValF_2 {d : Bool} {lv ls : RF} (h : sq t = 3 ∨ sq t = 36 ∨ sq t = 37 ∨ sq t = 41) : rValF sq d lv ls t = (true, t + 1) := by
  unfold rValF; rw [if_neg (by omega), if_pos h]
theorem rValF_3 {d : Bool} {lv ls : RF} (h : 38 ≤ sq t ∧ sq t ≤ 40) : rValF sq d lv ls t = rEat sq 2 (t + 1) := by
  unfold rValF; rw [if_neg (by omega), if_neg (by omega), if_pos h]
theorem rValF_4 {d : Bool} {lv ls : RF} (h : 47 ≤ sq t ∧ sq t ≤ 48) : rValF sq d lv ls t = if sq (t + 1) = 5 then rDeep d (rCh2 sq ls) (t + 1) else (false, t + 1) := by
  unfold rValF; rw [if_neg (by omega), if_neg (by omega), if_neg (by omega), if_pos h]
theorem rValF_5 {d : Bool} {lv ls : RF} (h : sq t = 5) : rValF sq d lv ls t = rDeep d (fun t => rThen (ls t) (rEat sq 6)) t := by
  unfold rValF; rw [if_neg (by omega), if_neg (by omega), if_neg (by omega), if_neg (by omega), if_pos h]
theorem rValF_6 {d : Bool} {lv ls : RF} (h1 : ¬ sq t = 12) (h2 : ¬ sq t = 3) (h3 : ¬ (36 ≤ sq t ∧ sq t ≤ 37)) (h4 : ¬ sq t = 41) (h5 : ¬ (38 ≤ sq t ∧ sq t ≤ 40)) (h6 : ¬ (47 ≤ sq t ∧ sq t ≤ 48)) (h7 : ¬ sq t = 5) : rValF sq d lv ls t = (false, t) := by
  unfold rValF; rw [if_neg h1, if_neg (by omega), if_neg h5, if_neg h6, if_neg h7]
theorem rVal_any (P : RF → Prop) (h : ∀ d lv ls, P (rValF sq d lv ls)) (n : Nat) : P (rVal sq n) := by
  cases n with
  | zero => exact h _ _ _
  | succ n => exact h _ _ _
theorem rSin_any (P : RF → Prop) (n : Nat) (h : ∀ d lg lt, P (rSinF sq d lg lt (rSum sq n))) : P (rSin sq n) := by
  cases n with
  | zero => exact h _ _ _
  | succ n => exact h _ _ _
theorem rVal_2 (h : sq t = 3 ∨ sq t = 36 ∨ sq t = 37 ∨ sq t = 41) : rVal sq n t = (true, t + 1) := rVal_any (fun f => f t = (true, t + 1)) (fun _ _ _ => rValF_2 h) n
theorem rVal_3 (h : 38 ≤ sq t ∧ sq t ≤ 40) : rVal sq n t = rEat sq 2 (t + 1) := rVal_any (fun f => f t = rEat sq 2 (t + 1)) (fun _ _ _ => rValF_3 h) n
theorem rVal_4 (h : 47 ≤ sq t ∧ sq t ≤ 48) (h5 : sq (t + 1) = 5) (hn : 0 < n) : rVal sq n t = rThen (rSum sq (n - 1) (t + 1 + 1)) (fun t => rThen (rEat sq 10 t) (fun t => rThen (rSum sq (n - 1) t) (rEat sq 6))) := by
  rw [rVal_p hn, rValF_4 h, if_pos h5]; rfl
theorem rVal_4z (h : 47 ≤ sq t ∧ sq t ≤ 48) (hn : n = 0 ∨ ¬ sq (t + 1) = 5) : rVal sq n t = (false, t + 1) := by
  rcases hn with hn | hn
  · subst hn; rw [rVal_0, rValF_4 h]; split <;> rfl
  · exact rVal_any (fun f => f t = (false, t + 1)) (fun _ _ _ => by rw [rValF_4 h, if_neg hn]) n
theorem rVal_5 (h : sq t = 5) (hn : 0 < n) : rVal sq n t = rThen (rSum sq (n - 1) (t + 1)) (rEat sq 6) := by
  rw [rVal_p hn, rValF_5 h]; rfl
theorem rVal_5z (h : sq t = 5) (hn : n = 0) : rVal sq n t = (false, t) := by subst hn; rw [rVal_0, rValF_5 h]; rfl
theorem rVal_6 (h1 : ¬ sq t = 12) (h2 : ¬ sq t = 3) (h3 : ¬ (36 ≤ sq t ∧ sq t ≤ 37)) (h4 : ¬ sq t = 41) (h5 : ¬ (38 ≤ sq t ∧ sq t ≤ 40)) (h6 : ¬ (47 ≤ sq t ∧ sq t ≤ 48)) (h7 : ¬ sq t = 5) : rVal sq n t = (false, t) := rVal_any (fun f => f t = (false, t)) (fun _ _ _ => rValF_6 h1 h2 h3 h4 h5 h6 h7) n
theorem rSin_1 (h : sq t = 44) (hn : 0 < n) : rSin sq n t = rSin sq (n - 1) (t + 1) := by rw [rSin_p hn]; exact if_pos h
theorem rSin_1z (h : sq t = 44) (hn : n = 0) : rSin sq n t = (false, t) := by subst hn; exact if_pos h
theorem rSin_2 (h : sq t = 7) (hn : 0 < n) : rSin sq n t = rThen (rTes sq (n - 1) (t + 1)) (rEat sq 8) := by
  rw [rSin_p hn]; unfold rSinF; rw [if_neg (by omega), if_pos h]; rfl
theorem rSin_2z (h : sq t = 7) (hn : n = 0) : rSin sq n t = (false, t) := by subst hn; rw [rSin_0]; unfold rSinF; rw [if_neg (by omega), if_pos h]; rfl
theorem rSin_3 (h : sq t = 42) : rSin sq n t = rThen (rEat sq 2 (t + 1)) (rEat sq 2) := rSin_any (fun f => f t = rThen (rEat sq 2 (t + 1)) (rEat sq 2)) n (fun _ _ _ => by unfold rSinF; rw [if_neg (by omega), if_neg (by omega), if_pos h])
theorem rSin_4 (h : sq t = 43) : rSin sq n t = rEat sq 2 (t + 1) := rSin_any (fun f => f t = rEat sq 2 (t + 1)) n (fun _ _ _ => by unfold rSinF; rw [if_neg (by omega), if_neg (by omega), if_neg (by omega), if_pos h])
theorem rSin_5 (h1 : ¬ sq t = 44) (h2 : ¬ sq t = 7) (h3 : ¬ sq t = 42) (h4 : ¬ sq t = 43) : rSin sq n t = rThen (rSum sq n t) (fun t => rThen (rIn sq 15 19 t) (rSum sq n)) := rSin_any (fun f => f t = rThen (rSum sq n t) (fun t => rThen (rIn sq 15 19 t) (rSum sq n))) n (fun _ _ _ => by unfold rSinF; rw [if_neg h1, if_neg h2, if_neg h3, if_neg h4])
end
/-- goes forward, and not past K -/
def rOk (K : Nat) (f : RF) : Prop := ∀ t, t ≤ K → t ≤ (f t).2 ∧ (f t).2 ≤ K
section
variable {sq : Nat → Nat} {K n t : Nat} {kF : Nat → Int32} {f g : RF}
theorem rOk_eat (hT : TKO sq K kF) {s : Nat} (hs : 2 ≤ s) : rOk K (rEat sq s) := by
  intro t ht
  by_cases c : sq t = s
  · rw [rEat_a c]; have := tko_s hT ht (by omega); exact ⟨by show t ≤ t + 1; omega, this⟩
  · rw [rEat_b c]; exact ⟨Nat.le_refl _, ht⟩
theorem rOk_in (hT : TKO sq K kF) {a b : Nat} (hs : 2 ≤ a) : rOk K (rIn sq a b) := by
  intro t ht
  by_cases c : a ≤ sq t ∧ sq t ≤ b
  · rw [rIn_a c]; have := tko_s hT ht (by omega); exact ⟨by show t ≤ t + 1; omega, this⟩
  · rw [rIn_b c]; exact ⟨Nat.le_refl _, ht⟩
theorem rOk_then {r : Bool × Nat} (h0 : t ≤ r.2 ∧ r.2 ≤ K) (hg : rOk K g) : t ≤ (rThen r g).2 ∧ (rThen r g).2 ≤ K := by
  unfold rThen; split
  · have := hg r.2 h0.2; exact ⟨by omega, this.2⟩
  · exact h0
theorem rOk_thenF (hf : rOk K f) (hg : rOk K g) : rOk K (fun t => rThen (f t) g) := fun t ht => rOk_then (hf t ht) hg
theorem rOk_do (hT : TKO sq K kF) {a b : Nat} (ha : 2 ≤ a) (hf : rOk K f) : ∀ m, rOk K (rDo sq a b f m) := by
  intro m
  induction m with
  | zero => intro t ht; exact ⟨Nat.le_refl _, ht⟩
  | succ m ih =>
    intro t ht
    have h1 := hf t ht
    show t ≤ (if (f t).1 = true then _ else _ : Bool × Nat).2 ∧ (if (f t).1 = true then _ else _ : Bool × Nat).2 ≤ K
    split
    · split
      · rename_i hc
        have h2 := tko_s hT h1.2 (by omega)
        have h3 := ih ((f t).2 + 1) h2
        exact ⟨by omega, h3.2⟩
      · exact h1
    · exact h1
theorem rOk_deep (hT : TKO sq K kF) {d : Bool} (hf : rOk K f) (h2 : 2 ≤ sq t) (ht : t ≤ K) : t ≤ (rDeep d f t).2 ∧ (rDeep d f t).2 ≤ K := by
  unfold rDeep; split
  · have := hf (t + 1) (tko_s hT ht h2); exact ⟨by omega, this.2⟩
  · exact ⟨Nat.le_refl _, ht⟩
theorem rOk_valF (hT : TKO sq K kF) {d : Bool} (hf : rOk K f) (hg : rOk K g) : rOk K (rValF sq d f g) := by
  intro t ht
  have he : ∀ {s : Nat}, 2 ≤ s → rOk K (rEat sq s) := fun hs => rOk_eat hT hs
  unfold rValF
  split
  · exact rOk_deep hT hf (by omega) ht
  split
  · have := tko_s hT ht (by omega); exact ⟨by show t ≤ t + 1; omega, this⟩
  split
  · have h1 := tko_s hT ht (by omega); have h2 := he (s := 2) (by omega) (t + 1) h1; exact ⟨by omega, h2.2⟩
  split
  · have h1 := tko_s hT ht (by omega)
    split
    · have h3 := rOk_deep (t := t + 1) (d := d) hT (f := rCh2 sq g) (rOk_thenF hg (rOk_thenF (he (by omega)) (rOk_thenF hg (he (by omega))))) (by omega) h1
      exact ⟨by omega, h3.2⟩
    · exact ⟨by show t ≤ t + 1; omega, h1⟩
  split
  · exact rOk_deep hT (rOk_thenF hg (he (by omega))) (by omega) ht
  · exact ⟨Nat.le_refl _, ht⟩
theorem rOk_sinF (hT : TKO sq K kF) {d : Bool} {h : RF} (hf : rOk K f) (hg : rOk K g) (hh : rOk K h) : rOk K (rSinF sq d f g h) := by
  intro t ht
  have he : ∀ {s : Nat}, 2 ≤ s → rOk K (rEat sq s) := fun hs => rOk_eat hT hs
  unfold rSinF
  split
  · exact rOk_deep hT hf (by omega) ht
  split
  · exact rOk_deep hT (rOk_thenF hg (he (by omega))) (by omega) ht
  split
  · have h1 := tko_s hT ht (by omega)
    have h2 := rOk_then (he (s := 2) (by omega) (t + 1) h1) (he (s := 2) (by omega)); exact ⟨by omega, h2.2⟩
  split
  · have h1 := tko_s hT ht (by omega); have h2 := he (s := 2) (by omega) (t + 1) h1; exact ⟨by omega, h2.2⟩
  · exact rOk_then (hh t ht) (rOk_thenF (rOk_in hT (by omega)) hh)
theorem rOk_no : rOk K rNo := fun t ht => ⟨Nat.le_refl _, ht⟩
theorem rOk_mk (hT : TKO sq K kF) {d : Bool} {lo : RF × RF × RF × RF} (h1 : rOk K lo.1) (h2 : rOk K lo.2.1) (h3 : rOk K lo.2.2.1) (h4 : rOk K lo.2.2.2) : rOk K (rMk sq d lo).1 ∧ rOk K (rMk sq d lo).2.1 ∧ rOk K (rMk sq d lo).2.2.1 ∧ rOk K (rMk sq d lo).2.2.2 := by
  have a1 := rOk_valF hT (d := d) h1 h2
  have a2 := rOk_do hT (a := 11) (b := 12) (by omega) (rOk_do hT (a := 13) (b := 14) (by omega) a1 401) 401
  have a3 := rOk_sinF hT (d := d) h3 h4 a2
  exact ⟨a1, a2, a3, rOk_do hT (by omega) (rOk_do hT (by omega) a3 401) 401⟩
theorem rOk_L (hT : TKO sq K kF) : ∀ n, rOk K (rL sq n).1 ∧ rOk K (rL sq n).2.1 ∧ rOk K (rL sq n).2.2.1 ∧ rOk K (rL sq n).2.2.2 := by
  intro n
  induction n with
  | zero => exact ⟨rOk_no, rOk_no, rOk_no, rOk_no⟩
  | succ n ih => exact rOk_mk hT ih.1 ih.2.1 ih.2.2.1 ih.2.2.2
theorem rVal_ok (hT : TKO sq K kF) : rOk K (rVal sq n) := (rOk_L hT (n + 1)).1
theorem rPro_ok (hT : TKO sq K kF) : rOk K (rPro sq n) := rOk_do hT (by omega) (rVal_ok hT) _
theorem rSum_ok (hT : TKO sq K kF) : rOk K (rSum sq n) := (rOk_L hT (n + 1)).2.1
theorem rSin_ok (hT : TKO sq K kF) : rOk K (rSin sq n) := (rOk_L hT (n + 1)).2.2.1
theorem rBot_ok (hT : TKO sq K kF) : rOk K (rBot sq n) := rOk_do hT (by omega) (rSin_ok hT) _
theorem rTes_ok (hT : TKO sq K kF) : rOk K (rTes sq n) := (rOk_L hT (n + 1)).2.2.2
variable {a b j : Nat}
theorem rDo_x (h : j ≤ t) (ht : t ≤ K) (hK : K ≤ 400) (hc : (f t).1 = false) : rDo sq a b f (401 - j) t = (false, (f t).2) := by
  rw [show 401 - j = (400 - j) + 1 by omega]; exact if_neg (by rw [hc]; decide)
theorem rDo_y (h : j ≤ t) (ht : t ≤ K) (hK : K ≤ 400) (hc : (f t).1 = true) (hn : ¬ (a ≤ sq (f t).2 ∧ sq (f t).2 ≤ b)) : rDo sq a b f (401 - j) t = (true, (f t).2) := by
  rw [show 401 - j = (400 - j) + 1 by omega]; exact (if_pos hc).trans (if_neg hn)
theorem rDo_z (h : j ≤ t) (ht : t ≤ K) (hK : K ≤ 400) (hc : (f t).1 = true) (hn : a ≤ sq (f t).2 ∧ sq (f t).2 ≤ b) : rDo sq a b f (401 - j) t = rDo sq a b f (401 - (j + 1)) ((f t).2 + 1) := by
  rw [show 401 - j = (401 - (j + 1)) + 1 by omega]; exact (if_pos hc).trans (if_pos hn)
end
