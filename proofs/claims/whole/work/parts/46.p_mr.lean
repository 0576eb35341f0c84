/-! the reference's reading of a whole list -/
def numT (f : Nat → Int32) (n : Nat) : Nat → Int32 := fun k => numI f (tkP f n k) (tkM f n k)
abbrev qAtT (f : Nat → Int32) (n : Nat) (q : RS) (k : Nat) : RS := qAt (tkS f n) (smT f n) (numT f n) q k
abbrev qErT (f : Nat → Int32) (n : Nat) (k : Nat) (q : RS) : Int32 × RS := qErr (tkS f n) (smT f n) (numT f n) k q
def qFsT (f : Nat → Int32) (n : Nat) (q : RS) (T : Nat) : Option Nat := ffind (fun k => decide (¬ (qErT f n k (qAtT f n q k)).1 = 0)) T
def rdR (f : Nat → Int32) (n : Nat) (q : RS) : Int32 :=
  if (rLst (tkS f n) 401 0).1 = true then (match qFsT f n q (rLst (tkS f n) 401 0).2 with
    | none => 0
    | some k => (qErT f n k (qAtT f n q k)).1) else 1
def rdA (f : Nat → Int32) (n : Nat) (q : RS) (ea : Int32) : Int32 :=
  if (rLst (tkS f n) 401 0).1 = true then (match qFsT f n q (rLst (tkS f n) 401 0).2 with
    | none => ea
    | some k => nI (tkP f n k)) else nI (tkP f n (rLst (tkS f n) 401 0).2)
def KOK (f : Nat → Int32) (n K : Nat) : Prop := K ≤ 400 ∧ (∀ j, j < K → tkS f n j ≠ 0 ∧ tkS f n j ≠ 1) ∧ (tkS f n K = 0 ∨ tkS f n K = 1)
section
variable {f : Nat → Int32} {n K : Nat} {q : RS} {g : Nat → Int32} {ea : Int32}
theorem tko_of (h : KOK f n K) : TKO (tkS f n) K (cutN (K + 1) (fun j => km (tkS f n j)) g) := ⟨h.1, fun j hj => if_pos (by omega), tkS_lt f n, h.2.1, h.2.2⟩
theorem tkl_of {g2 : Nat → Int32} (hn : n ≤ 2000) (h : KOK f n K) : TKL f n K (cutN (K + 1) (fun j => nI (tkP f n j)) g) (cutN (K + 1) (fun j => nI (tkM f n j)) g2) := by
  refine ⟨hn, fun j hj => ⟨if_pos (by omega), if_pos (by omega), ?_⟩⟩
  have h1 := h.2.1 j hj
  have h2 := tkM_e h1.1 h1.2
  exact rln_le (Nat.le_of_lt h2) h2
theorem rLst_0 {sq : Nat → Nat} : ∀ m t, (rLst sq m t).1 = true → sq (rLst sq m t).2 = 0 := by
  intro m
  induction m with
  | zero => intro t h; cases h
  | succ m ih =>
    intro t h
    by_cases c : sq t = 0
    · rw [show rLst sq (m + 1) t = (true, t) from if_pos c]; exact c
    · rw [show rLst sq (m + 1) t = rThen (rThen (rLine sq t) (rEat sq 9)) (rLst sq m) from if_neg c] at h ⊢
      obtain ⟨a, b, c⟩ := rThen_inv h
      rw [c]; exact ih _ b
theorem rLst_K (h : KOK f n K) (h1 : (rLst (tkS f n) 401 0).1 = true) : (rLst (tkS f n) 401 0).2 = K := by
  have h2 := (rLst_ok (tko_of (g := fun _ => 0) h) 401 0 (Nat.zero_le _)).2
  have h3 := rLst_0 401 0 h1
  rcases Nat.lt_or_ge (rLst (tkS f n) 401 0).2 K with c | c
  · exact absurd h3 (h.2.1 _ c).1
  · omega
theorem rdR_1 (h : (rLst (tkS f n) 401 0).1 = false) : 1 = rdR f n q := (if_neg (by rw [h]; decide)).symm
theorem rdA_1 (h : (rLst (tkS f n) 401 0).1 = false) : rdA f n q ea = nI (tkP f n (rLst (tkS f n) 401 0).2) := if_neg (by rw [h]; decide)
theorem qFsT_n {T : Nat} (h : ∀ j, j < T → (qErT f n j (qAtT f n q j)).1 = 0) : qFsT f n q T = none := ffind_none (fun j hj => decide_eq_false (fun x => x (h j hj)))
theorem qFsT_s {T k : Nat} (hk : k < T) (h : ∀ j, j < k → (qErT f n j (qAtT f n q j)).1 = 0) (h2 : ¬ (qErT f n k (qAtT f n q k)).1 = 0) : qFsT f n q T = some k := ffind_some hk (decide_eq_true h2) (fun j hj => decide_eq_false (fun x => x (h j hj)))
theorem rdR_0 (h : (rLst (tkS f n) 401 0).1 = true) (h1 : qFsT f n q (rLst (tkS f n) 401 0).2 = none) : 0 = rdR f n q := by unfold rdR; rw [if_pos h, h1]
theorem rdA_0 (h : (rLst (tkS f n) 401 0).1 = true) (h1 : qFsT f n q (rLst (tkS f n) 401 0).2 = none) : rdA f n q ea = ea := by unfold rdA; rw [if_pos h, h1]
theorem rdR_s {k : Nat} (h : (rLst (tkS f n) 401 0).1 = true) (h1 : qFsT f n q (rLst (tkS f n) 401 0).2 = some k) : (qErT f n k (qAtT f n q k)).1 = rdR f n q := by unfold rdR; rw [if_pos h, h1]
theorem rdA_s {k : Nat} (h : (rLst (tkS f n) 401 0).1 = true) (h1 : qFsT f n q (rLst (tkS f n) 401 0).2 = some k) : rdA f n q ea = nI (tkP f n k) := by unfold rdA; rw [if_pos h, h1]
end
