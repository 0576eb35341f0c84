/-! names: the codes of one sort, in the order told; what find answers -/
def nfind (f : Nat → Int64) (c : Int64) : Nat → Option Nat
  | 0 => none
  | k + 1 => match nfind f c k with
    | some i => some i
    | none => if f k = c then some k else none
def oI (o : Option Nat) : Int32 := match o with
  | some i => nI i
  | none => -1
theorem nfind_none {f : Nat → Int64} {c : Int64} : ∀ {k : Nat}, nfind f c k = none ↔ ∀ i, i < k → f i ≠ c := by
  intro k
  induction k with
  | zero => simp [nfind]
  | succ k ih =>
    simp only [nfind]
    cases h : nfind f c k with
    | some i =>
      simp only [reduceCtorEq, false_iff]
      intro hh
      have := ih.mpr (fun j hj => hh j (by omega))
      rw [h] at this; cases this
    | none =>
      have h2 := ih.mp h
      by_cases hc : f k = c
      · simp only [hc, if_true, reduceCtorEq, false_iff]
        intro hh; exact hh k (by omega) hc
      · simp only [hc, if_false, true_iff]
        intro i hi
        rcases Nat.lt_or_ge i k with q | q
        · exact h2 i q
        · have : i = k := by omega
          subst this; exact hc
theorem nfind_some {f : Nat → Int64} {c : Int64} {i : Nat} : ∀ {k : Nat}, i < k → f i = c → (∀ j, j < i → f j ≠ c) → nfind f c k = some i := by
  intro k
  induction k with
  | zero => intro h; omega
  | succ k ih =>
    intro hi hf hj
    simp only [nfind]
    rcases Nat.lt_or_ge i k with q | q
    · rw [ih q hf hj]
    · have : i = k := by omega
      subst this
      rw [nfind_none.mpr hj]
      simp [hf]
theorem nfind_lt {f : Nat → Int64} {c : Int64} : ∀ {k i : Nat}, nfind f c k = some i → i < k ∧ f i = c := by
  intro k
  induction k with
  | zero => intro i h; simp [nfind] at h
  | succ k ih =>
    intro i h
    simp only [nfind] at h
    cases h2 : nfind f c k with
    | some j => rw [h2] at h; simp only [Option.some.injEq] at h; subst h; have := ih h2; exact ⟨by omega, this.2⟩
    | none =>
      rw [h2] at h
      by_cases hc : f k = c
      · simp only [hc, if_true, Option.some.injEq] at h; subst h; exact ⟨by omega, hc⟩
      · simp [hc] at h
/-- one more letter of a word -/
def lgr (c : Int64) (b : Int32) : Int64 := c * 37 + (if (57 : Int32) < b then b - 97 + 11 else b - 48 + 1).toInt64
/-- the first constant with this code, else NAME -/
def sword (c : Int64) : Nat := sg ((nfind (fun k => SGc.getD k 0) c 49).getD 2)
