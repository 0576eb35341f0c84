/-! what a token tells, in the reference's reading. RS: counts, names' tokens by sort, rows as the sheet has them, the line -/
abbrev RS : Type := (Nat → Nat) × (Nat → Nat → Nat) × (Nat → Nat → Int32) × Int32
theorem nI_m1 {n : Nat} (h : 1 ≤ n) : nI n - 1 = nI (n - 1) := by
  obtain ⟨m, rfl⟩ : ∃ m, n = m + 1 := ⟨n - 1, by omega⟩
  rw [nI_pred]; rfl
theorem upd_nIf {f : Nat → Nat} {i m : Nat} : upd (fun j => nI (f j)) i (nI m) = fun j => nI (updN f i m j) := by
  funext j
  show (if j = i then nI m else nI (f j)) = nI (if j = i then m else f j)
  split <;> rfl
def tkM (f : Nat → Int32) (n j : Nat) : Nat := rln f n (tkP f n j)
def TKL (f : Nat → Int32) (n K : Nat) (fF mF : Nat → Int32) : Prop := n ≤ 2000 ∧ ∀ j, j < K → fF j = nI (tkP f n j) ∧ mF j = nI (tkM f n j) ∧ tkP f n j + tkM f n j ≤ n
def numI (f : Nat → Int32) (p : Nat) : Nat → Int32
  | 0 => 0
  | i + 1 => 10 * numI f p i + f (p + i) - 48
def sameB (f : Nat → Int32) (pa la pb lb : Nat) : Bool := decide (la = lb ∧ ∀ i, i < la → f (pa + i) = f (pb + i))
def smT (f : Nat → Int32) (n a b : Nat) : Bool := sameB f (tkP f n a) (tkM f n a) (tkP f n b) (tkM f n b)
def smI (f : Nat → Int32) (n a b i : Nat) : Bool := decide (tkM f n a = tkM f n b ∧ ∀ j, j < i → f (tkP f n a + j) = f (tkP f n b + j))
section
variable {f : Nat → Int32} {n a b i : Nat} {c : Bool}
theorem smI_0t (h : tkM f n a = tkM f n b) : smI f n a b 0 = true := decide_eq_true ⟨h, fun j hj => absurd hj (Nat.not_lt_zero j)⟩
theorem smI_0f (h : ¬ tkM f n a = tkM f n b) : smI f n a b 0 = false := decide_eq_false (fun q => h q.1)
theorem smI_t (h : smI f n a b i = true) (e : f (tkP f n a + i) = f (tkP f n b + i)) : smI f n a b (i + 1) = true := by
  have h2 := of_decide_eq_true h
  exact decide_eq_true ⟨h2.1, ltS h2.2 e⟩
theorem smI_f (e : ¬ f (tkP f n a + i) = f (tkP f n b + i)) : smI f n a b (i + 1) = false := decide_eq_false (fun q => e (q.2 i (by omega)))
theorem smI_m (h : smI f n a b i = true) : tkM f n a = tkM f n b := (of_decide_eq_true h).1
theorem smI_x (hc : c = smI f n a b i) (h : c = false) (hi : i ≤ tkM f n a) : c = smT f n a b := by
  subst hc
  rw [h]
  refine (decide_eq_false (fun q => ?_)).symm
  exact of_decide_eq_false h ⟨q.1, fun j hj => q.2 j (by omega)⟩
theorem smI_y (hc : c = smI f n a b i) (hi : i = tkM f n a) : c = smT f n a b := by subst hc; subst hi; rfl
end
theorem toInt_ne {x y : Int32} (h : ¬ x = y) : ¬ x.toInt = y.toInt := fun e => h (Int32.toInt_inj.mp e)
theorem k_look {d x : Int} : ∀ {ps : List (Int × Int)}, (∀ p ∈ ps, ¬ x = p.1) → Op.lookupswitch.offset ps d x = d := by
  intro ps
  induction ps with
  | nil => intro _; rfl
  | cons p ps ih =>
    intro h
    obtain ⟨a, b⟩ := p
    have h1 : ¬ x = a := h (a, b) List.mem_cons_self
    have h2 := ih (fun q hq => h q (List.mem_cons_of_mem _ hq))
    rw [Op.lookupswitch.offset_cons, if_neg (fun e => h1 e.symm)]
    exact h2
def eRg (v lo hi : Int32) : Int32 := if lo ≤ v ∧ v ≤ hi then 0 else 5
def sbS (s : Nat) : Nat := if s = 26 ∨ s = 31 ∨ s = 2 then 20 else if s = 33 then 23 else 27
def qNew (sm : Nat → Nat → Bool) (j cap k : Nat) (q : RS) : Int32 × RS :=
  if ffind (fun i => sm (q.2.1 j i) k) (q.1 j) = none then
    (if q.1 j = cap then (4, q) else (0, updN q.1 j (q.1 j + 1), updR q.2.1 j (updN (q.2.1 j) (q.1 j) k), (if j = 1 then updR q.2.2.1 10 (upd (q.2.2.1 10) (q.1 1) (-1)) else q.2.2.1), q.2.2.2))
  else (2, q)
def qMean (q : RS) (k : Nat) (x : Int32) : RS := (q.1, q.2.1, updR q.2.2.1 3 (upd (q.2.2.1 3) k x), q.2.2.2)
def qRow (q : RS) (r i : Nat) (x : Int32) : RS := (q.1, q.2.1, updR q.2.2.1 r (upd (q.2.2.1 r) i x), q.2.2.2)
def srS (s : Nat) : Nat := if s = 20 then 0 else if s = 23 then 1 else if s = 27 then 2 else 3
def qOld (sq : Nat → Nat) (sm : Nat → Nat → Bool) (k : Nat) (q : RS) : Option Nat := ffind (fun i => sm (q.2.1 (srS (sbS (sq (k - 1)))) i) k) (q.1 (srS (sbS (sq (k - 1)))))
def qNam (sq : Nat → Nat) (sm : Nat → Nat → Bool) (k : Nat) (q : RS) : Int32 × RS :=
  if sq (k - 1) = 20 then qNew sm 0 8 k q else if sq (k - 1) = 23 then qNew sm 1 5 k q else if sq (k - 1) = 27 then qNew sm 2 10 k q else if sq (k - 1) = 29 then qNew sm 3 6 k q
  else match qOld sq sm k q with
    | none => (3, q)
    | some x => (0, if sq (k - 1) = 26 then qRow (qMean q k (nI x)) 10 (q.1 1 - 1) (nI x) else if sq (k - 1) = 31 then qRow (qMean q k (nI x)) 17 (q.1 4 - 1) (nI x)
        else if sq (k - 1) = 32 ∨ sq (k - 1) = 34 then qRow (qMean q k (nI x)) 18 (q.1 4 - 1) (nI x) else if sq (k - 1) = 33 then qRow (qMean q k (nI x)) 19 (q.1 4 - 1) (nI x) else qMean q k (nI x))
def qNum (sq : Nat → Nat) (v : Int32) (k : Nat) (q : RS) : Int32 × RS :=
  if sq (k - 1) = 21 then (eRg v 0 9, if q.2.2.2 = 0 then qRow (qMean q k v) 5 (q.1 0 - 1) v else qRow (qMean q k v) 14 (q.1 3 - 1) v)
  else if sq (k - 1) = 22 then (eRg v 1 9, qRow (qMean q k v) 6 (q.1 0 - 1) v)
  else if sq (k - 1) = 24 then (eRg v 1 9, qRow (qMean q k v) 8 (q.1 1 - 1) v)
  else if sq (k - 1) = 25 then (eRg v 1 4, qRow (qMean q k v) 9 (q.1 1 - 1) v)
  else if sq (k - 1) = 28 then (eRg v 1 9, qRow (qMean q k v) 12 (q.1 2 - 1) v)
  else if sq (k - 1) = 30 then (eRg v 0 999, qRow (qMean q k v) 15 (q.1 3 - 1) v)
  else (0, qMean q k v)
def qOrS (q : RS) (o : Int32) : RS := (updN q.1 4 (q.1 4 + 1), q.2.1, updR (updR (updR (updR q.2.2.1 16 (upd (q.2.2.1 16) (q.1 4) o)) 17 (upd (q.2.2.1 17) (q.1 4) (-1))) 19 (upd (q.2.2.1 19) (q.1 4) (-1))) 20 (upd (q.2.2.1 20) (q.1 4) (-1)), q.2.2.2)
def qOrd (s : Nat) (q : RS) : Int32 × RS := if q.1 4 = 20 then (4, q) else (0, qOrS q (if s = 34 then 1 else 0))
def qErr (sq : Nat → Nat) (sm : Nat → Nat → Bool) (num : Nat → Int32) (k : Nat) (q : RS) : Int32 × RS :=
  if sq k = 2 then qNam sq sm k q else if sq k = 3 then qNum sq (num k) k q else if sq k = 31 ∨ sq k = 34 then qOrd (sq k) q
  else if sq k = 20 ∨ sq k = 29 then (0, q.1, q.2.1, q.2.2.1, km (sq k)) else if sq k = 35 then (0, qRow q 20 (q.1 4 - 1) (nI (k + 1))) else (0, q)
def qAt (sq : Nat → Nat) (sm : Nat → Nat → Bool) (num : Nat → Int32) (q : RS) : Nat → RS
  | 0 => q
  | k + 1 => (qErr sq sm num k (qAt sq sm num q k)).2
def CNQ (q : RS) : Prop := q.1 0 ≤ 8 ∧ q.1 1 ≤ 5 ∧ q.1 2 ≤ 10 ∧ q.1 3 ≤ 6 ∧ q.1 4 ≤ 20
def NMQ (K : Nat) (q : RS) : Prop := ∀ s, s < 4 → ∀ i, i < q.1 s → q.2.1 s i < K
/-- what of the state the token k needs -/
def WFQ (sq : Nat → Nat) (k : Nat) (q : RS) : Prop :=
  (sq k = 2 ∨ sq k = 3 → 1 ≤ k) ∧ (sq k = 2 → sq (k - 1) = 26 → 1 ≤ q.1 1) ∧ (sq k = 2 → 31 ≤ sq (k - 1) → sq (k - 1) ≤ 34 → 1 ≤ q.1 4) ∧
  (sq k = 3 → sq (k - 1) = 21 → q.2.2.2 = 0 → 1 ≤ q.1 0) ∧ (sq k = 3 → sq (k - 1) = 21 → ¬ q.2.2.2 = 0 → 1 ≤ q.1 3) ∧ (sq k = 3 → sq (k - 1) = 22 → 1 ≤ q.1 0) ∧
  (sq k = 3 → sq (k - 1) = 24 ∨ sq (k - 1) = 25 → 1 ≤ q.1 1) ∧ (sq k = 3 → sq (k - 1) = 28 → 1 ≤ q.1 2) ∧ (sq k = 3 → sq (k - 1) = 30 → 1 ≤ q.1 3) ∧ (sq k = 35 → 1 ≤ q.1 4)
section
variable {sm : Nat → Nat → Bool} {j cap k x : Nat} {q : RS} {sq : Nat → Nat} {v : Int32} {num : Nat → Int32}
theorem oI_m1 {o : Option Nat} {m : Nat} (h : ∀ i, o = some i → i < m) (hm : m < 2147483648) : oI o = -1 ↔ o = none := by
  cases o with
  | none => exact ⟨fun _ => rfl, fun _ => rfl⟩
  | some i =>
    refine ⟨fun e => ?_, fun e => by cases e⟩
    have h1 := h i rfl
    have h2 : (nI i).toInt = (i : Int) := nI_toInt (by omega)
    have e' : nI i = -1 := e
    rw [e'] at h2
    exact absurd h2 (by rw [show ((-1 : Int32)).toInt = -1 from by decide]; omega)
theorem ff_m1 {p : Nat → Bool} {m : Nat} (hm : m < 2147483648) : oI (ffind p m) = -1 ↔ ffind p m = none := oI_m1 (fun _ h => (ffind_lt h).1) hm
theorem qNew_a (h : ¬ ffind (fun i => sm (q.2.1 j i) k) (q.1 j) = none) : qNew sm j cap k q = (2, q) := if_neg h
theorem qNew_b (h : ffind (fun i => sm (q.2.1 j i) k) (q.1 j) = none) (h2 : q.1 j = cap) : qNew sm j cap k q = (4, q) := (if_pos h).trans (if_pos h2)
theorem qNew_c (h : ffind (fun i => sm (q.2.1 j i) k) (q.1 j) = none) (h2 : ¬ q.1 j = cap) : qNew sm j cap k q = (0, updN q.1 j (q.1 j + 1), updR q.2.1 j (updN (q.2.1 j) (q.1 j) k), (if j = 1 then updR q.2.2.1 10 (upd (q.2.2.1 10) (q.1 1) (-1)) else q.2.2.1), q.2.2.2) := (if_pos h).trans (if_neg h2)
theorem qNew_r {i : Nat} (h : ¬ (j = 1 ∧ i = 10)) : (qNew sm j cap k q).2.2.2.1 i = q.2.2.1 i := by
  unfold qNew
  split
  · split
    · rfl
    · show (if j = 1 then updR q.2.2.1 10 (upd (q.2.2.1 10) (q.1 1) (-1)) else q.2.2.1) i = q.2.2.1 i
      split
      · show (if i = 10 then _ else q.2.2.1 i) = q.2.2.1 i
        exact if_neg (fun e => h ⟨by assumption, e⟩)
      · rfl
  · rfl
theorem qNew_m {i : Nat} (h : ¬ i = j) : (qNew sm j cap k q).2.2.1 i = q.2.1 i := by
  unfold qNew
  split
  · split
    · rfl
    · exact if_neg h
  · rfl
theorem qNam_0 (h : sq (k - 1) = 20) : qNam sq sm k q = qNew sm 0 8 k q := if_pos h
theorem qNam_1 (h : sq (k - 1) = 23) : qNam sq sm k q = qNew sm 1 5 k q := by unfold qNam; rw [if_neg (by omega), if_pos h]
theorem qNam_2 (h : sq (k - 1) = 27) : qNam sq sm k q = qNew sm 2 10 k q := by unfold qNam; rw [if_neg (by omega), if_neg (by omega), if_pos h]
theorem qNam_3 (h : sq (k - 1) = 29) : qNam sq sm k q = qNew sm 3 6 k q := by unfold qNam; rw [if_neg (by omega), if_neg (by omega), if_neg (by omega), if_pos h]
def qNon (s : Nat) : Prop := ¬ s = 20 ∧ ¬ s = 23 ∧ ¬ s = 27 ∧ ¬ s = 29
theorem qNam_n (h : qNon (sq (k - 1))) (h2 : qOld sq sm k q = none) : qNam sq sm k q = (3, q) := by
  unfold qNam; rw [if_neg h.1, if_neg h.2.1, if_neg h.2.2.1, if_neg h.2.2.2, h2]
theorem qNam_s (h : qNon (sq (k - 1))) (h2 : qOld sq sm k q = some x) : qNam sq sm k q = (0, if sq (k - 1) = 26 then qRow (qMean q k (nI x)) 10 (q.1 1 - 1) (nI x) else if sq (k - 1) = 31 then qRow (qMean q k (nI x)) 17 (q.1 4 - 1) (nI x)
        else if sq (k - 1) = 32 ∨ sq (k - 1) = 34 then qRow (qMean q k (nI x)) 18 (q.1 4 - 1) (nI x) else if sq (k - 1) = 33 then qRow (qMean q k (nI x)) 19 (q.1 4 - 1) (nI x) else qMean q k (nI x)) := by
  unfold qNam; rw [if_neg h.1, if_neg h.2.1, if_neg h.2.2.1, if_neg h.2.2.2, h2]
theorem qNam_s1 (h : qNon (sq (k - 1))) (h2 : qOld sq sm k q = some x) (c : sq (k - 1) = 26) : qNam sq sm k q = (0, qRow (qMean q k (nI x)) 10 (q.1 1 - 1) (nI x)) := by rw [qNam_s h h2, if_pos c]
theorem qNam_s2 (h : qNon (sq (k - 1))) (h2 : qOld sq sm k q = some x) (c : sq (k - 1) = 31) : qNam sq sm k q = (0, qRow (qMean q k (nI x)) 17 (q.1 4 - 1) (nI x)) := by rw [qNam_s h h2, if_neg (by omega), if_pos c]
theorem qNam_s3 (h : qNon (sq (k - 1))) (h2 : qOld sq sm k q = some x) (c : sq (k - 1) = 32 ∨ sq (k - 1) = 34) : qNam sq sm k q = (0, qRow (qMean q k (nI x)) 18 (q.1 4 - 1) (nI x)) := by rw [qNam_s h h2, if_neg (by omega), if_neg (by omega), if_pos c]
theorem qNam_s4 (h : qNon (sq (k - 1))) (h2 : qOld sq sm k q = some x) (c : sq (k - 1) = 33) : qNam sq sm k q = (0, qRow (qMean q k (nI x)) 19 (q.1 4 - 1) (nI x)) := by rw [qNam_s h h2, if_neg (by omega), if_neg (by omega), if_neg (by omega), if_pos c]
theorem qNam_s5 (h : qNon (sq (k - 1))) (h2 : qOld sq sm k q = some x) (c1 : ¬ sq (k - 1) = 26) (c2 : ¬ sq (k - 1) = 31) (c3 : ¬ sq (k - 1) = 32) (c4 : ¬ sq (k - 1) = 34) (c5 : ¬ sq (k - 1) = 33) : qNam sq sm k q = (0, qMean q k (nI x)) := by rw [qNam_s h h2, if_neg c1, if_neg c2, if_neg (by omega), if_neg c5]
theorem qNum_1 (h : sq (k - 1) = 21) (h2 : q.2.2.2 = 0) : qNum sq v k q = (eRg v 0 9, qRow (qMean q k v) 5 (q.1 0 - 1) v) := by unfold qNum; rw [if_pos h, if_pos h2]
theorem qNum_2 (h : sq (k - 1) = 21) (h2 : ¬ q.2.2.2 = 0) : qNum sq v k q = (eRg v 0 9, qRow (qMean q k v) 14 (q.1 3 - 1) v) := by unfold qNum; rw [if_pos h, if_neg h2]
theorem qNum_3 (h : sq (k - 1) = 22) : qNum sq v k q = (eRg v 1 9, qRow (qMean q k v) 6 (q.1 0 - 1) v) := by unfold qNum; rw [if_neg (by omega), if_pos h]
theorem qNum_4 (h : sq (k - 1) = 24) : qNum sq v k q = (eRg v 1 9, qRow (qMean q k v) 8 (q.1 1 - 1) v) := by unfold qNum; rw [if_neg (by omega), if_neg (by omega), if_pos h]
theorem qNum_5 (h : sq (k - 1) = 25) : qNum sq v k q = (eRg v 1 4, qRow (qMean q k v) 9 (q.1 1 - 1) v) := by unfold qNum; rw [if_neg (by omega), if_neg (by omega), if_neg (by omega), if_pos h]
theorem qNum_6 (h : sq (k - 1) = 28) : qNum sq v k q = (eRg v 1 9, qRow (qMean q k v) 12 (q.1 2 - 1) v) := by unfold qNum; rw [if_neg (by omega), if_neg (by omega), if_neg (by omega), if_neg (by omega), if_pos h]
theorem qNum_7 (h : sq (k - 1) = 30) : qNum sq v k q = (eRg v 0 999, qRow (qMean q k v) 15 (q.1 3 - 1) v) := by unfold qNum; rw [if_neg (by omega), if_neg (by omega), if_neg (by omega), if_neg (by omega), if_neg (by omega), if_pos h]
theorem qNum_8 (h : ¬ sq (k - 1) = 21 ∧ ¬ sq (k - 1) = 22 ∧ ¬ sq (k - 1) = 24 ∧ ¬ sq (k - 1) = 25 ∧ ¬ sq (k - 1) = 28 ∧ ¬ sq (k - 1) = 30) : qNum sq v k q = (0, qMean q k v) := by
  unfold qNum; rw [if_neg h.1, if_neg h.2.1, if_neg h.2.2.1, if_neg h.2.2.2.1, if_neg h.2.2.2.2.1, if_neg h.2.2.2.2.2]
theorem qOrd_a {s : Nat} (h : q.1 4 = 20) : qOrd s q = (4, q) := if_pos h
theorem qOrd_b {s : Nat} (h : ¬ q.1 4 = 20) (h2 : s = 34) : qOrd s q = (0, qOrS q 1) := by unfold qOrd; rw [if_neg h, if_pos h2]
theorem qOrd_c {s : Nat} (h : ¬ q.1 4 = 20) (h2 : ¬ s = 34) : qOrd s q = (0, qOrS q 0) := by unfold qOrd; rw [if_neg h, if_neg h2]
theorem qErr_1 (h : sq k = 2) : qErr sq sm num k q = qNam sq sm k q := if_pos h
theorem qErr_2 (h : sq k = 3) : qErr sq sm num k q = qNum sq (num k) k q := by unfold qErr; rw [if_neg (by omega), if_pos h]
theorem qErr_3 (h : sq k = 31 ∨ sq k = 34) : qErr sq sm num k q = qOrd (sq k) q := by unfold qErr; rw [if_neg (by omega), if_neg (by omega), if_pos h]
theorem qErr_4 (h : sq k = 20 ∨ sq k = 29) : qErr sq sm num k q = (0, q.1, q.2.1, q.2.2.1, km (sq k)) := by unfold qErr; rw [if_neg (by omega), if_neg (by omega), if_neg (by omega), if_pos h]
theorem qErr_5 (h : sq k = 35) : qErr sq sm num k q = (0, qRow q 20 (q.1 4 - 1) (nI (k + 1))) := by unfold qErr; rw [if_neg (by omega), if_neg (by omega), if_neg (by omega), if_neg (by omega), if_pos h]
theorem qErr_6 (h : ¬ sq k = 2 ∧ ¬ sq k = 3 ∧ ¬ sq k = 31 ∧ ¬ sq k = 34 ∧ ¬ sq k = 20 ∧ ¬ sq k = 29 ∧ ¬ sq k = 35) : qErr sq sm num k q = (0, q) := by
  unfold qErr; rw [if_neg h.1, if_neg h.2.1, if_neg (by omega), if_neg (by omega), if_neg h.2.2.2.2.2.2]
theorem updR_ne {α : Type} {f : Nat → α} {r i : Nat} {x : α} (h : ¬ i = r) : updR f r x i = f i := if_neg h
theorem qMean_r {i : Nat} (h : ¬ i = 3) : (qMean q k v).2.2.1 i = q.2.2.1 i := if_neg h
theorem qRow_r {i r j : Nat} (h : ¬ i = r) : (qRow q r j v).2.2.1 i = q.2.2.1 i := if_neg h
theorem qNam_r {i : Nat} (h : ¬ i = 3 ∧ ¬ i = 10 ∧ ¬ i = 17 ∧ ¬ i = 18 ∧ ¬ i = 19) : (qNam sq sm k q).2.2.2.1 i = q.2.2.1 i := by
  unfold qNam
  split
  · exact qNew_r (fun e => h.2.1 e.2)
  split
  · exact qNew_r (fun e => h.2.1 e.2)
  split
  · exact qNew_r (fun e => h.2.1 e.2)
  split
  · exact qNew_r (fun e => h.2.1 e.2)
  split
  · rfl
  · show (if _ then _ else _ : RS).2.2.1 i = _
    split
    · rw [qRow_r h.2.1, qMean_r h.1]
    split
    · rw [qRow_r h.2.2.1, qMean_r h.1]
    split
    · rw [qRow_r h.2.2.2.1, qMean_r h.1]
    split
    · rw [qRow_r h.2.2.2.2, qMean_r h.1]
    · rw [qMean_r h.1]
theorem qNum_r {i : Nat} (h : ¬ i = 3 ∧ ¬ i = 5 ∧ ¬ i = 14 ∧ ¬ i = 6 ∧ ¬ i = 8 ∧ ¬ i = 9 ∧ ¬ i = 12 ∧ ¬ i = 15) : (qNum sq v k q).2.2.2.1 i = q.2.2.1 i := by
  obtain ⟨h1, h2, h3, h4, h5, h6, h7, h8⟩ := h
  unfold qNum
  split
  · show (if _ then _ else _ : RS).2.2.1 i = _
    split
    · rw [qRow_r h2, qMean_r h1]
    · rw [qRow_r h3, qMean_r h1]
  split
  · show (qRow _ _ _ _).2.2.1 i = _; rw [qRow_r h4, qMean_r h1]
  split
  · show (qRow _ _ _ _).2.2.1 i = _; rw [qRow_r h5, qMean_r h1]
  split
  · show (qRow _ _ _ _).2.2.1 i = _; rw [qRow_r h6, qMean_r h1]
  split
  · show (qRow _ _ _ _).2.2.1 i = _; rw [qRow_r h7, qMean_r h1]
  split
  · show (qRow _ _ _ _).2.2.1 i = _; rw [qRow_r h8, qMean_r h1]
  · exact qMean_r h1
theorem qNum_m : (qNum sq v k q).2.2.1 = q.2.1 := by
  unfold qNum
  split
  · show (if _ then _ else _ : RS).2.1 = _
    split <;> rfl
  split
  · rfl
  split
  · rfl
  split
  · rfl
  split
  · rfl
  split <;> rfl
theorem qOrd_r {i s : Nat} (h : ¬ i = 16 ∧ ¬ i = 17 ∧ ¬ i = 19 ∧ ¬ i = 20) : (qOrd s q).2.2.2.1 i = q.2.2.1 i := by
  unfold qOrd
  split
  · rfl
  · show (updR (updR (updR (updR q.2.2.1 16 _) 17 _) 19 _) 20 _) i = _
    rw [updR_ne h.2.2.2, updR_ne h.2.2.1, updR_ne h.2.1, updR_ne h.1]
theorem qOrd_m {s : Nat} : (qOrd s q).2.2.1 = q.2.1 := by
  unfold qOrd
  split <;> rfl
/-- the first token that tells an error -/
def qFst (sq : Nat → Nat) (sm : Nat → Nat → Bool) (num : Nat → Int32) (q : RS) (T : Nat) : Option Nat := ffind (fun k => decide (¬ (qErr sq sm num k (qAt sq sm num q k)).1 = 0)) T
end
