/-! a day of the law's model, place by place -/
theorem upd2 {f : Nat → Int32} {k : Nat} {x y : Int32} : upd (upd f k x) k y = upd f k y := by
  funext j
  by_cases h : j = k
  · subst h; rw [pk_us, pk_us]
  · rw [pk_un h, pk_un h, pk_un h]
theorem upd_id {f : Nat → Int32} {k : Nat} : upd f k (f k) = f := by
  funext j
  by_cases h : j = k
  · subst h; exact pk_us
  · exact pk_un h
theorem sm_up {M M' : Nat → Nat → Nat → Int32} {j k q : Nat} {v : Int32} (h1 : M' j k q = v) (h2 : ∀ j' i' q', ¬ (j' = j ∧ i' = k ∧ q' = q) → M' j' i' q' = M j' i' q') : upE M j k q v = M' := by
  funext j' i' q'
  by_cases h : j' = j ∧ i' = k
  · obtain ⟨rfl, rfl⟩ := h
    rw [upE_s]
    by_cases hq : q' = q
    · subst hq; rw [pk_us, h1]
    · rw [pk_un hq, h2 _ _ _ (fun z => hq z.2.2)]
  · rw [upE_n h, h2 _ _ _ (fun z => h ⟨z.1, z.2.1⟩)]
def uWk (c : CS) (k : Nat) (v : Int32) : CS := (c.1, c.2.1, upd c.2.2.1 k v, c.2.2.2)
theorem uWk2 {c : CS} {k : Nat} {v w : Int32} : uWk (uWk c k v) k w = uWk c k w := by unfold uWk; dsimp only; rw [upd2]
theorem sm_Wk {tr : Nat → Nat → Int32} {od : Nat → Nat → Nat} {c : CS} {k : Nat} {v : Int32} : upE (simM tr od c) 4 k 4 v = simM tr od (uWk c k v) := by
  refine sm_up (show upd c.2.2.1 k v k = v from pk_us) (fun j' i' q' h => ?_)
  by_cases hj : j' = 4
  · subst hj
    show (if q' = 4 then upd c.2.2.1 k v i' else owd od i' q') = (if q' = 4 then c.2.2.1 i' else owd od i' q')
    by_cases hq : q' = 4
    · subst hq
      show upd c.2.2.1 k v i' = c.2.2.1 i'
      exact pk_un (fun z => h ⟨rfl, z, rfl⟩)
    · simp only [if_neg hq]
  · unfold simM
    simp only [if_neg hj]
    rfl
theorem sm_Wk2 {tr : Nat → Nat → Int32} {od : Nat → Nat → Nat} {c : CS} {k : Nat} {v w : Int32} : upE (simM tr od (uWk c k v)) 4 k 4 w = simM tr od (uWk c k w) := by rw [sm_Wk, uWk2]
def uBe (c : CS) (k : Nat) (v : Int32) : CS := ((c.1.1, c.1.2.1, c.1.2.2.1, upd c.1.2.2.2.1 k v, c.1.2.2.2.2), c.2)
theorem uBe2 {c : CS} {k : Nat} {v w : Int32} : uBe (uBe c k v) k w = uBe c k w := by unfold uBe; dsimp only; rw [upd2]
theorem sm_Be {tr : Nat → Nat → Int32} {od : Nat → Nat → Nat} {c : CS} {k : Nat} {v : Int32} : upE (simM tr od c) 2 k 1 v = simM tr od (uBe c k v) := by
  refine sm_up (show upd c.1.2.2.2.1 k v k = v from pk_us) (fun j' i' q' h => ?_)
  by_cases hj : j' = 2
  · subst hj
    show (if q' = 0 then tr 5 i' else if q' = 1 then upd c.1.2.2.2.1 k v i' else if q' = 2 then c.1.2.2.2.2.1 i' else if q' = 3 then c.1.2.2.2.2.2.1 i' else if q' = 4 then c.1.2.2.2.2.2.2 i' else 0) = (if q' = 0 then tr 5 i' else if q' = 1 then c.1.2.2.2.1 i' else if q' = 2 then c.1.2.2.2.2.1 i' else if q' = 3 then c.1.2.2.2.2.2.1 i' else if q' = 4 then c.1.2.2.2.2.2.2 i' else 0)
    by_cases hq : q' = 1
    · subst hq
      show upd c.1.2.2.2.1 k v i' = c.1.2.2.2.1 i'
      exact pk_un (fun z => h ⟨rfl, z, rfl⟩)
    · simp only [if_neg hq]
  · unfold simM
    simp only [if_neg hj]
    rfl
theorem sm_Be2 {tr : Nat → Nat → Int32} {od : Nat → Nat → Nat} {c : CS} {k : Nat} {v w : Int32} : upE (simM tr od (uBe c k v)) 2 k 1 w = simM tr od (uBe c k w) := by rw [sm_Be, uBe2]
def uQu (c : CS) (k : Nat) (v : Int32) : CS := ((c.1.1, c.1.2.1, c.1.2.2.1, c.1.2.2.2.1, upd c.1.2.2.2.2.1 k v, c.1.2.2.2.2.2), c.2)
theorem uQu2 {c : CS} {k : Nat} {v w : Int32} : uQu (uQu c k v) k w = uQu c k w := by unfold uQu; dsimp only; rw [upd2]
theorem sm_Qu {tr : Nat → Nat → Int32} {od : Nat → Nat → Nat} {c : CS} {k : Nat} {v : Int32} : upE (simM tr od c) 2 k 2 v = simM tr od (uQu c k v) := by
  refine sm_up (show upd c.1.2.2.2.2.1 k v k = v from pk_us) (fun j' i' q' h => ?_)
  by_cases hj : j' = 2
  · subst hj
    show (if q' = 0 then tr 5 i' else if q' = 1 then c.1.2.2.2.1 i' else if q' = 2 then upd c.1.2.2.2.2.1 k v i' else if q' = 3 then c.1.2.2.2.2.2.1 i' else if q' = 4 then c.1.2.2.2.2.2.2 i' else 0) = (if q' = 0 then tr 5 i' else if q' = 1 then c.1.2.2.2.1 i' else if q' = 2 then c.1.2.2.2.2.1 i' else if q' = 3 then c.1.2.2.2.2.2.1 i' else if q' = 4 then c.1.2.2.2.2.2.2 i' else 0)
    by_cases hq : q' = 2
    · subst hq
      show upd c.1.2.2.2.2.1 k v i' = c.1.2.2.2.2.1 i'
      exact pk_un (fun z => h ⟨rfl, z, rfl⟩)
    · simp only [if_neg hq]
  · unfold simM
    simp only [if_neg hj]
    rfl
theorem sm_Qu2 {tr : Nat → Nat → Int32} {od : Nat → Nat → Nat} {c : CS} {k : Nat} {v w : Int32} : upE (simM tr od (uQu c k v)) 2 k 2 w = simM tr od (uQu c k w) := by rw [sm_Qu, uQu2]
def uWo (c : CS) (k : Nat) (v : Int32) : CS := ((c.1.1, c.1.2.1, c.1.2.2.1, c.1.2.2.2.1, c.1.2.2.2.2.1, upd c.1.2.2.2.2.2.1 k v, c.1.2.2.2.2.2.2), c.2)
theorem uWo2 {c : CS} {k : Nat} {v w : Int32} : uWo (uWo c k v) k w = uWo c k w := by unfold uWo; dsimp only; rw [upd2]
theorem sm_Wo {tr : Nat → Nat → Int32} {od : Nat → Nat → Nat} {c : CS} {k : Nat} {v : Int32} : upE (simM tr od c) 2 k 3 v = simM tr od (uWo c k v) := by
  refine sm_up (show upd c.1.2.2.2.2.2.1 k v k = v from pk_us) (fun j' i' q' h => ?_)
  by_cases hj : j' = 2
  · subst hj
    show (if q' = 0 then tr 5 i' else if q' = 1 then c.1.2.2.2.1 i' else if q' = 2 then c.1.2.2.2.2.1 i' else if q' = 3 then upd c.1.2.2.2.2.2.1 k v i' else if q' = 4 then c.1.2.2.2.2.2.2 i' else 0) = (if q' = 0 then tr 5 i' else if q' = 1 then c.1.2.2.2.1 i' else if q' = 2 then c.1.2.2.2.2.1 i' else if q' = 3 then c.1.2.2.2.2.2.1 i' else if q' = 4 then c.1.2.2.2.2.2.2 i' else 0)
    by_cases hq : q' = 3
    · subst hq
      show upd c.1.2.2.2.2.2.1 k v i' = c.1.2.2.2.2.2.1 i'
      exact pk_un (fun z => h ⟨rfl, z, rfl⟩)
    · simp only [if_neg hq]
  · unfold simM
    simp only [if_neg hj]
    rfl
theorem sm_Wo2 {tr : Nat → Nat → Int32} {od : Nat → Nat → Nat} {c : CS} {k : Nat} {v w : Int32} : upE (simM tr od (uWo c k v)) 2 k 3 w = simM tr od (uWo c k w) := by rw [sm_Wo, uWo2]
def uRu (c : CS) (k : Nat) (v : Int32) : CS := fRst c (upd c.1.2.2.2.2.2.2 k v)
theorem uRu2 {c : CS} {k : Nat} {v w : Int32} : uRu (uRu c k v) k w = uRu c k w := by unfold uRu fRst; dsimp only; rw [upd2]
theorem sm_Ru {tr : Nat → Nat → Int32} {od : Nat → Nat → Nat} {c : CS} {k : Nat} {v : Int32} : upE (simM tr od c) 2 k 4 v = simM tr od (uRu c k v) := by
  refine sm_up (show upd c.1.2.2.2.2.2.2 k v k = v from pk_us) (fun j' i' q' h => ?_)
  by_cases hj : j' = 2
  · subst hj
    show (if q' = 0 then tr 5 i' else if q' = 1 then c.1.2.2.2.1 i' else if q' = 2 then c.1.2.2.2.2.1 i' else if q' = 3 then c.1.2.2.2.2.2.1 i' else if q' = 4 then upd c.1.2.2.2.2.2.2 k v i' else 0) = (if q' = 0 then tr 5 i' else if q' = 1 then c.1.2.2.2.1 i' else if q' = 2 then c.1.2.2.2.2.1 i' else if q' = 3 then c.1.2.2.2.2.2.1 i' else if q' = 4 then c.1.2.2.2.2.2.2 i' else 0)
    by_cases hq : q' = 4
    · subst hq
      show upd c.1.2.2.2.2.2.2 k v i' = c.1.2.2.2.2.2.2 i'
      exact pk_un (fun z => h ⟨rfl, z, rfl⟩)
    · simp only [if_neg hq]
  · unfold simM
    simp only [if_neg hj]
    rfl
theorem sm_Ru2 {tr : Nat → Nat → Int32} {od : Nat → Nat → Nat} {c : CS} {k : Nat} {v w : Int32} : upE (simM tr od (uRu c k v)) 2 k 4 w = simM tr od (uRu c k w) := by rw [sm_Ru, uRu2]
def uCb (c : CS) (k : Nat) (v : Int32) : CS := (c.1, c.2.1, c.2.2.1, upd c.2.2.2 k v)
theorem uCb2 {c : CS} {k : Nat} {v w : Int32} : uCb (uCb c k v) k w = uCb c k w := by unfold uCb; dsimp only; rw [upd2]
theorem sm_Cb {tr : Nat → Nat → Int32} {od : Nat → Nat → Nat} {c : CS} {k : Nat} {v : Int32} : upE (simM tr od c) 1 k 3 v = simM tr od (uCb c k v) := by
  refine sm_up (show upd c.2.2.2 k v k = v from pk_us) (fun j' i' q' h => ?_)
  by_cases hj : j' = 1
  · subst hj
    show (if q' = 3 then upd c.2.2.2 k v i' else tr (2 + q') i') = (if q' = 3 then c.2.2.2 i' else tr (2 + q') i')
    by_cases hq : q' = 3
    · subst hq
      show upd c.2.2.2 k v i' = c.2.2.2 i'
      exact pk_un (fun z => h ⟨rfl, z, rfl⟩)
    · simp only [if_neg hq]
  · unfold simM
    simp only [if_neg hj]
    rfl
theorem sm_Cb2 {tr : Nat → Nat → Int32} {od : Nat → Nat → Nat} {c : CS} {k : Nat} {v w : Int32} : upE (simM tr od (uCb c k v)) 1 k 3 w = simM tr od (uCb c k w) := by rw [sm_Cb, uCb2]
def uAll (c : CS) (v : Int32) : CS := (c.1, v, c.2.2)
theorem sm_All {tr : Nat → Nat → Int32} {od : Nat → Nat → Nat} {c : CS} {v : Int32} : simM tr od (uAll c v) = simM tr od c := rfl
theorem sm_Coi {tr : Nat → Nat → Int32} {od : Nat → Nat → Nat} {c : CS} {v : Int32} : simM tr od (fCoi c v) = simM tr od c := rfl
theorem sm_Next {tr : Nat → Nat → Int32} {od : Nat → Nat → Nat} {c : CS} : simM tr od (fNext c) = simM tr od c := rfl
theorem i_add {a b : Int32} (h1 : -2147483648 ≤ a.toInt + b.toInt) (h2 : a.toInt + b.toInt < 2147483648) : (a + b).toInt = a.toInt + b.toInt := by
  rw [Int32.toInt_add]; exact Int.bmod_eq_of_le (by omega) (by omega)
theorem i_sub {a b : Int32} (h1 : -2147483648 ≤ a.toInt - b.toInt) (h2 : a.toInt - b.toInt < 2147483648) : (a - b).toInt = a.toInt - b.toInt := by
  rw [Int32.toInt_sub]; exact Int.bmod_eq_of_le (by omega) (by omega)
theorem i_0 : (0 : Int32).toInt = 0 := by decide
theorem i_1 : (1 : Int32).toInt = 1 := by decide
theorem i_99 : (99 : Int32).toInt = 99 := by decide
theorem oI_ge {q : Option Nat} (h : ¬ oI q < 0) : ∃ o, q = some o := by
  cases q with
  | none => exact absurd (by decide) h
  | some o => exact ⟨o, rfl⟩
theorem oI_lt {q : Option Nat} (hq : ∀ o, q = some o → o < 1000) (h : oI q < 0) : oI q = (-1) := by
  cases q with
  | none => rfl
  | some o => exact absurd h (nI_pos (by have := hq o rfl; omega))
section
variable {tn : Nat → Nat} {tr : Nat → Nat → Int32} {od : Nat → Nat → Nat} {c c2 c3 c4 c5 : CS} {dd m i j k o s : Nat} {v x y w ab : Int32} {T : Nat → VS → Bool}
theorem CIn.up (h : CIn tn c dd m) (h1 : c2.1.1 = c.1.1) (h2 : c2.1.2.1 = c.1.2.1) (h3 : c2.1.2.2.1 = c.1.2.2.1) (h4 : ∀ k, k < tn 2 → StlS tn c2 k) : CIn tn c2 dd m :=
  ⟨h1.trans h.1, h.2.1, by rw [h2]; exact h.2.2.1, h3.trans h.2.2.2.1, h.2.2.2.2.1, h4⟩
theorem td_some (hO : SOKs tn tr od) (hC : c.1.1 = nI dd) (hd : dd < 1000000) (hk : k < tn 1) (h : fToday tr (tn 4) T c.1 k = some o) : o < tn 4 ∧ od o 0 = 0 ∧ od o 3 = k ∧ fOpen tr c.1.2.2.2.1 (nI o) = true ∧ T o c.1 = true ∧ ∃ p, tr 3 k = nI p ∧ 1 ≤ p ∧ p ≤ 4 ∧ dd % p = 0 := by
  obtain ⟨a, p, _, _, _, h3, h4, h5, _⟩ := hO.2.2.1 k hk
  have hn := hO.1
  unfold CntS at hn
  unfold fToday at h
  rw [rat_nI (n := 5) (f := tr 3) (by omega) (by decide), h3] at h
  have h1 : ¬ nI p < 1 := nI_nlt (b := 1) h4 (by omega)
  rw [if_neg h1] at h
  by_cases h2 : ¬ c.1.1 - c.1.1 / nI p * nI p = 0
  · rw [if_pos h2] at h; cases h
  rw [if_neg h2] at h
  have h2 := Decidable.not_not.mp h2
  rw [hC, pk_rem (by omega) (by omega) (by omega)] at h2
  have h2 : dd % p = 0 := (nI_eq (a := dd % p) (b := 0) (by have := Nat.mod_le dd p; omega) (by omega)).mp h2
  obtain ⟨ho, hp⟩ := ffind_lt h
  have hoo := hO.2.2.2.2.2 o ho
  by_cases h0 : od o 0 = 0
  · by_cases h9 : od o 3 = k
    · unfold fTdP at hp
      rw [Bool.and_eq_true, Bool.and_eq_true] at hp
      exact ⟨ho, h0, h9, hp.2.1, hp.2.2, p, h3, h4, h5, h2⟩
    · rw [td_car hoo (by omega) h0 h9 (by omega) (by omega)] at hp; cases hp
  · rw [td_oil hoo (by omega) h0] at hp; cases hp
theorem fWk_nI (ho : o < 20) : fWk c (nI o) x = uWk c o (c.2.2.1 o + x) := by
  unfold fWk uWk; rw [rput_nI ho (by decide), rat_nI (f := c.2.2.1) ho (by decide)]
theorem fGain_nI (ho : OrdS tn tr od o) (h0 : od o 0 = 0) (h20 : o < 20) (hk : k < 5) : fGain tr (nI o) (nI k) = if tr 4 k = nI (od o 2) then 2 * tr 2 k else tr 2 k := by
  unfold fGain; rw [rat_nI (f := tr 4) hk (by decide), rat_nI (f := tr 9) h20 (by decide), rat_nI (f := tr 2) hk (by decide), (ho.2.2.1 h0).1]
theorem fNeed_nI (ho : OrdS tn tr od o) (h0 : od o 0 = 0) (h20 : o < 20) (hs : od o 1 < 10) (hb : od o 2 < 8) : fNeed tr (nI o) = tr 5 (od o 1) * tr 1 (od o 2) * 2 := by
  unfold fNeed; rw [rat_nI (f := tr 8) h20 (by decide), ho.2.1, rat_nI (f := tr 9) h20 (by decide), (ho.2.2.1 h0).1, rat_nI (f := tr 5) hs (by decide), rat_nI (f := tr 1) hb (by decide)]
theorem fQl0_nI (ho : OrdS tn tr od o) (h0 : od o 0 = 0) (h20 : o < 20) (hk : k < 5) (hs : od o 1 < 10) : fQl0 tr (nI o) (nI k) = 3 * tr 2 k - tr 5 (od o 1) + (if tr 4 k = nI (od o 2) then 5 else 0) := by
  unfold fQl0; rw [rat_nI (f := tr 8) h20 (by decide), ho.2.1, rat_nI (f := tr 9) h20 (by decide), (ho.2.2.1 h0).1, rat_nI (f := tr 5) hs (by decide), rat_nI (f := tr 2) hk (by decide), rat_nI (f := tr 4) hk (by decide)]
theorem fWork_lt (h20 : o < 20) (h : c.2.2.1 o + fGain tr (nI o) (nI k) < fNeed tr (nI o)) : fWork tr c (nI o) (nI k) = uWk c o (c.2.2.1 o + fGain tr (nI o) (nI k)) := by
  unfold fWork
  rw [fWk_nI h20, rat_nI (f := (uWk c o (c.2.2.1 o + fGain tr (nI o) (nI k))).2.2.1) h20 (by decide), show (uWk c o (c.2.2.1 o + fGain tr (nI o) (nI k))).2.2.1 o = c.2.2.1 o + fGain tr (nI o) (nI k) from pk_us]
  exact if_pos h
theorem fWork_ge (ho : OrdS tn tr od o) (h0 : od o 0 = 0) (h20 : o < 20) (hk : k < 5) (hs : od o 1 < 10) (hx : x = fQl tr (nI o) (nI k)) (h : ¬ c.2.2.1 o + fGain tr (nI o) (nI k) < fNeed tr (nI o)) :
    fWork tr c (nI o) (nI k) = uAll (uCb (uWo (uQu (uBe (uWk c o 0) (od o 1) (nI (od o 2))) (od o 1) x) (od o 1) 0) k (c.2.2.2 k + 1)) (c.2.1 + 1) := by
  subst hx
  unfold fWork
  rw [fWk_nI h20, rat_nI (f := (uWk c o (c.2.2.1 o + fGain tr (nI o) (nI k))).2.2.1) h20 (by decide), show (uWk c o (c.2.2.1 o + fGain tr (nI o) (nI k))).2.2.1 o = c.2.2.1 o + fGain tr (nI o) (nI k) from pk_us, if_neg h]
  unfold fFin
  rw [rat_nI (f := tr 8) h20 (by decide), ho.2.1, rat_nI (f := tr 9) h20 (by decide), (ho.2.2.1 h0).1, rput_nI hs (by decide), rput_nI hs (by decide), rput_nI hs (by decide), rput_nI h20 (by decide), rput_nI hk (by decide), rat_nI (f := (uWk c o (c.2.2.1 o + fGain tr (nI o) (nI k))).2.2.2) hk (by decide)]
  have e : upd (uWk c o (c.2.2.1 o + fGain tr (nI o) (nI k))).2.2.1 o 0 = upd c.2.2.1 o 0 := upd2
  rw [e]
  rfl
theorem ql_t (h : ¬ x < 1) : x = if 1 < x then x else 1 := by
  by_cases q : 1 < x
  · rw [if_pos q]
  · rw [if_neg q]; exact Int32.le_antisymm (Int32.not_lt.mp q) (Int32.not_lt.mp h)
theorem ql_f (h : x < 1) : 1 = if 1 < x then x else 1 := by
  rw [if_neg (fun q => Int32.lt_irrefl (Int32.lt_trans h q))]
/-- an order's work, in the words of the law's model -/
theorem pw_a (ho : OrdS tn tr od o) (h0 : od o 0 = 0) (h20 : o < 20) (hk : k < 5) (hs : od o 1 < 10) (hb : od o 2 < 8) (hl : ¬ tr 4 k = nI (od o 2)) (h : c.2.2.1 o + tr 2 k * 1 < tr 5 (od o 1) * tr 1 (od o 2) * 2) : uWk c o (c.2.2.1 o + tr 2 k * 1) = fWork tr c (nI o) (nI k) := by
  have e : fGain tr (nI o) (nI k) = tr 2 k * 1 := by rw [fGain_nI ho h0 h20 hk, if_neg hl, Int32.mul_one]
  rw [← e] at h ⊢
  exact (fWork_lt h20 (by rw [fNeed_nI ho h0 h20 hs hb]; exact h)).symm
theorem pw_b (ho : OrdS tn tr od o) (h0 : od o 0 = 0) (h20 : o < 20) (hk : k < 5) (hs : od o 1 < 10) (hb : od o 2 < 8) (hl : tr 4 k = nI (od o 2)) (h : c.2.2.1 o + tr 2 k * 2 < tr 5 (od o 1) * tr 1 (od o 2) * 2) : uWk c o (c.2.2.1 o + tr 2 k * 2) = fWork tr c (nI o) (nI k) := by
  have e : fGain tr (nI o) (nI k) = tr 2 k * 2 := by rw [fGain_nI ho h0 h20 hk, if_pos hl, Int32.mul_comm]
  rw [← e] at h ⊢
  exact (fWork_lt h20 (by rw [fNeed_nI ho h0 h20 hs hb]; exact h)).symm
theorem pw_c (ho : OrdS tn tr od o) (h0 : od o 0 = 0) (h20 : o < 20) (hk : k < 5) (hs : od o 1 < 10) (hb : od o 2 < 8) (hl : ¬ tr 4 k = nI (od o 2)) (h : ¬ c.2.2.1 o + tr 2 k * 1 < tr 5 (od o 1) * tr 1 (od o 2) * 2) (hx : (¬ tr 2 k * 3 - tr 5 (od o 1) < 1 ∧ x = tr 2 k * 3 - tr 5 (od o 1)) ∨ (tr 2 k * 3 - tr 5 (od o 1) < 1 ∧ x = 1)) :
    uAll (uCb (uWo (uQu (uBe (uWk c o 0) (od o 1) (nI (od o 2))) (od o 1) x) (od o 1) 0) k (c.2.2.2 k + 1)) (c.2.1 + 1) = fWork tr c (nI o) (nI k) := by
  have e : fGain tr (nI o) (nI k) = tr 2 k * 1 := by rw [fGain_nI ho h0 h20 hk, if_neg hl, Int32.mul_one]
  rw [← e] at h
  refine (fWork_ge ho h0 h20 hk hs ?_ (by rw [fNeed_nI ho h0 h20 hs hb]; exact h)).symm
  unfold fQl
  rw [fQl0_nI ho h0 h20 hk hs, if_neg hl, Int32.add_zero, Int32.mul_comm 3]
  rcases hx with ⟨h1, rfl⟩ | ⟨h1, rfl⟩
  · exact ql_t h1
  · exact ql_f h1
theorem pw_d (ho : OrdS tn tr od o) (h0 : od o 0 = 0) (h20 : o < 20) (hk : k < 5) (hs : od o 1 < 10) (hb : od o 2 < 8) (hl : tr 4 k = nI (od o 2)) (h : ¬ c.2.2.1 o + tr 2 k * 2 < tr 5 (od o 1) * tr 1 (od o 2) * 2) (hx : (¬ tr 2 k * 3 - tr 5 (od o 1) + 5 < 1 ∧ x = tr 2 k * 3 - tr 5 (od o 1) + 5) ∨ (tr 2 k * 3 - tr 5 (od o 1) + 5 < 1 ∧ x = 1)) :
    uAll (uCb (uWo (uQu (uBe (uWk c o 0) (od o 1) (nI (od o 2))) (od o 1) x) (od o 1) 0) k (c.2.2.2 k + 1)) (c.2.1 + 1) = fWork tr c (nI o) (nI k) := by
  have e : fGain tr (nI o) (nI k) = tr 2 k * 2 := by rw [fGain_nI ho h0 h20 hk, if_pos hl, Int32.mul_comm]
  rw [← e] at h
  refine (fWork_ge ho h0 h20 hk hs ?_ (by rw [fNeed_nI ho h0 h20 hs hb]; exact h)).symm
  unfold fQl
  rw [fQl0_nI ho h0 h20 hk hs, if_pos hl, Int32.mul_comm 3]
  rcases hx with ⟨h1, rfl⟩ | ⟨h1, rfl⟩
  · exact ql_t h1
  · exact ql_f h1
theorem ql_dec : ∀ a, a < 10 → ∀ b, b < 9 → ∀ e : Bool, (1 ≤ (if 1 < 3 * nI a - nI (b + 1) + (if e = true then 5 else 0) then 3 * nI a - nI (b + 1) + (if e = true then 5 else 0) else 1).toNatClampNeg ∧ (if 1 < 3 * nI a - nI (b + 1) + (if e = true then 5 else 0) then 3 * nI a - nI (b + 1) + (if e = true then 5 else 0) else 1).toNatClampNeg ≤ 31) ∧
    (if 1 < 3 * nI a - nI (b + 1) + (if e = true then 5 else 0) then 3 * nI a - nI (b + 1) + (if e = true then 5 else 0) else 1) = nI (if 1 < 3 * nI a - nI (b + 1) + (if e = true then 5 else 0) then 3 * nI a - nI (b + 1) + (if e = true then 5 else 0) else 1).toNatClampNeg := by decide +kernel
theorem ql_ok (hO : SOKs tn tr od) (ho : o < tn 4) (h0 : od o 0 = 0) (hk : k < tn 1) : ∃ q, fQl tr (nI o) (nI k) = nI q ∧ 1 ≤ q ∧ q ≤ 31 := by
  have hn := hO.1
  unfold CntS at hn
  have hoo := hO.2.2.2.2.2 o ho
  have hob := hoo.1
  obtain ⟨a, _, e1, a1, a2, _⟩ := hO.2.2.1 k hk
  obtain ⟨b, e2, b1, b2⟩ := hO.2.2.2.1 (od o 1) hob.2.1
  obtain ⟨b', rfl⟩ : ∃ b', b = b' + 1 := ⟨b - 1, by omega⟩
  unfold fQl
  rw [fQl0_nI hoo h0 (by omega) (by omega) (by omega), e1, e2]
  by_cases hl : tr 4 k = nI (od o 2)
  · rw [if_pos hl]; exact ⟨_, (ql_dec a (by omega) b' (by omega) true).2, (ql_dec a (by omega) b' (by omega) true).1⟩
  · rw [if_neg hl]; exact ⟨_, (ql_dec a (by omega) b' (by omega) false).2, (ql_dec a (by omega) b' (by omega) false).1⟩
/-- what a carver does to a stall -/
theorem fWork_st (hO : SOKs tn tr od) (ho : o < tn 4) (h0 : od o 0 = 0) (hk : k < tn 1) : (fWork tr c (nI o) (nI k) = uWk c o (c.2.2.1 o + fGain tr (nI o) (nI k)) ∧ c.2.2.1 o + fGain tr (nI o) (nI k) < fNeed tr (nI o)) ∨
    ∃ q, 1 ≤ q ∧ q ≤ 31 ∧ fWork tr c (nI o) (nI k) = uAll (uCb (uWo (uQu (uBe (uWk c o 0) (od o 1) (nI (od o 2))) (od o 1) (nI q)) (od o 1) 0) k (c.2.2.2 k + 1)) (c.2.1 + 1) := by
  have hn := hO.1
  unfold CntS at hn
  have hoo := hO.2.2.2.2.2 o ho
  have hob := hoo.1
  by_cases h : c.2.2.1 o + fGain tr (nI o) (nI k) < fNeed tr (nI o)
  · exact Or.inl ⟨fWork_lt (by omega) h, h⟩
  · obtain ⟨q, e, q1, q2⟩ := ql_ok hO ho h0 hk
    exact Or.inr ⟨q, q1, q2, by rw [← e]; exact fWork_ge hoo h0 (by omega) (by omega) (by omega) rfl h⟩
theorem fWork_C (hO : SOKs tn tr od) (hC : CIn tn c dd m) (ho : o < tn 4) (h0 : od o 0 = 0) (hk : k < tn 1) : CIn tn (fWork tr c (nI o) (nI k)) dd m := by
  have hoo := hO.2.2.2.2.2 o ho
  have hob := hoo.1
  rcases fWork_st (c := c) hO ho h0 hk with ⟨e, _⟩ | ⟨q, q1, q2, e⟩
  · rw [e]; exact hC.up rfl rfl rfl hC.2.2.2.2.2
  · rw [e]
    refine hC.up rfl rfl rfl (fun s hs => ?_)
    have h9 := hC.2.2.2.2.2 s hs
    by_cases hse : s = od o 1
    · subst hse
      obtain ⟨_, _, _, r, _, _, _, _, hr, hr2⟩ := h9
      refine ⟨Or.inr ⟨od o 2, hob.2.2.1, ?_⟩, q, 0, r, ?_, q2, ?_, Nat.zero_le _, hr, hr2⟩
      · exact pk_us (f := c.1.2.2.2.1)
      · exact pk_us (f := c.1.2.2.2.2.1)
      · exact pk_us (f := c.1.2.2.2.2.2.1)
    · have e1 : upd c.1.2.2.2.1 (od o 1) (nI (od o 2)) s = c.1.2.2.2.1 s := pk_un hse
      have e2 : upd c.1.2.2.2.2.1 (od o 1) (nI q) s = c.1.2.2.2.2.1 s := pk_un hse
      have e3 : upd c.1.2.2.2.2.2.1 (od o 1) 0 s = c.1.2.2.2.2.2.1 s := pk_un hse
      show ((upd c.1.2.2.2.1 (od o 1) (nI (od o 2)) s = (-1) ∧ upd c.1.2.2.2.2.1 (od o 1) (nI q) s = 0) ∨ ∃ b, b < tn 0 ∧ upd c.1.2.2.2.1 (od o 1) (nI (od o 2)) s = nI b) ∧ ∃ q' w r, upd c.1.2.2.2.2.1 (od o 1) (nI q) s = nI q' ∧ q' ≤ 31 ∧ upd c.1.2.2.2.2.2.1 (od o 1) 0 s = nI w ∧ w ≤ 99 ∧ c.1.2.2.2.2.2.2 s = nI r ∧ r ≤ 20
      rw [e1, e2, e3]; exact h9
/-- one carver's turn -/
theorem car_st (hO : SOKs tn tr od) (hC : CIn tn c dd m) (hi : i < tn 1) (hne : ¬ nI i = ab) : (fToday tr (tn 4) T c.1 i = none ∧ fCar1 tr (tn 4) T ab c i = c) ∨ ∃ o, fToday tr (tn 4) T c.1 i = some o ∧ fCar1 tr (tn 4) T ab c i = fWork tr c (nI o) (nI i) := by
  unfold fCar1
  rw [if_neg hne]
  cases h : fToday tr (tn 4) T c.1 i with
  | none => exact Or.inl ⟨rfl, if_pos rfl⟩
  | some o =>
    have hn := hO.1
    unfold CntS at hn
    have ho := (td_some hO hC.1 (by have := hC.2.1; omega) hi h).1
    exact Or.inr ⟨o, rfl, if_neg (nI_nm1 (by omega))⟩
theorem carv_C (hO : SOKs tn tr od) (hC : CIn tn c dd m) (i : Nat) (hi : i ≤ tn 1) : CIn tn (fCarv tr (tn 4) T (-1) c i) dd m := by
  induction i with
  | zero => exact hC
  | succ i ih =>
    have ih := ih (by omega)
    have hn := hO.1
    unfold CntS at hn
    show CIn tn (fCar1 tr (tn 4) T (-1) (fCarv tr (tn 4) T (-1) c i) i) dd m
    rcases car_st (T := T) (ab := -1) (i := i) hO ih (by omega) (nI_nm1 (by omega)) with ⟨_, e⟩ | ⟨o, h, e⟩
    · rw [e]; exact ih
    · rw [e]
      have h9 := td_some hO ih.1 (by have := ih.2.1; omega) (by omega) h
      exact fWork_C hO ih h9.1 h9.2.1 (by omega)
theorem pc_no (hO : SOKs tn tr od) (hC2 : CIn tn c2 dd m) (hi : i < tn 1) (hc : c2 = fCarv tr (tn 4) T (-1) c i) (h : oI (fToday tr (tn 4) T c2.1 i) < 0) : c2 = fCarv tr (tn 4) T (-1) c (i + 1) := by
  have hn := hO.1
  unfold CntS at hn
  exact fCarv_b hc (nI_nm1 (by omega)) (oI_lt (fun o ho => by have := (td_some hO hC2.1 (by have := hC2.2.1; omega) hi ho).1; omega) h)
theorem pc_yes (hO : SOKs tn tr od) (hi : i < tn 1) (ho1 : o < tn 4) (hc : c2 = fCarv tr (tn 4) T (-1) c i) (ho : fToday tr (tn 4) T c2.1 i = some o) (h : c3 = fWork tr c2 (nI o) (nI i)) : c3 = fCarv tr (tn 4) T (-1) c (i + 1) := by
  have hn := hO.1
  unfold CntS at hn
  have h2 : oI (fToday tr (tn 4) T c2.1 i) = nI o := by rw [ho]; rfl
  rw [h, ← h2]
  exact fCarv_c hc (nI_nm1 (by omega)) (by rw [h2]; exact nI_nm1 (by omega))
/-! oil -/
theorem tr9_0 (h0 : tn 0 < 2147483648) (ho : OrdS tn tr od i) (h20 : i < 20) (h : ¬ od i 0 = 1) : ¬ rat 20 (tr 9) (nI i) = (-1) := by
  rw [rat_nI h20 (by decide), (ho.2.2.1 (by have := ho.1; omega)).1]; exact nI_nm1 (Nat.lt_trans ho.1.2.2.1 h0)
theorem tr9_1 (ho : OrdS tn tr od i) (h20 : i < 20) (h : od i 0 = 1) : rat 20 (tr 9) (nI i) = (-1) := by
  rw [rat_nI h20 (by decide), (ho.2.2.2 h).1]
theorem oi_a (h0 : tn 0 < 2147483648) (ho : OrdS tn tr od i) (h20 : i < 20) (h : ¬ od i 0 = 1) (hc : c2 = fOilA tr T c i) : c2 = fOilA tr T c (i + 1) := fOil_a (d := inferInstance) hc (dt (tr9_0 h0 ho h20 h))
theorem oi_c (ho : OrdS tn tr od i) (h20 : i < 20) (hs : od i 1 < 10) (h : od i 0 = 1) (h2 : T i c2.1 = true) (hc : c2 = fOilA tr T c i) : uRu c2 (od i 1) 0 = fOilA tr T c (i + 1) := by
  have e := fOil_c (d := inferInstance) hc (df (fun q => q (tr9_1 ho h20 h))) h2
  rw [rat_nI (f := tr 8) h20 (by decide), ho.2.1, rput_nI hs (by decide)] at e
  exact e
theorem ru_C (hC : CIn tn c dd m) (h : ∃ r, v = nI r ∧ r ≤ 20) : CIn tn (uRu c k v) dd m := by
  obtain ⟨r', e', h'⟩ := h
  refine hC.up rfl rfl rfl (fun s hs => ?_)
  obtain ⟨h1, q, w, r, h2, h3, h4, h5, h6, h7⟩ := hC.2.2.2.2.2 s hs
  by_cases hse : s = k
  · subst hse
    exact ⟨h1, q, w, r', h2, h3, h4, h5, (pk_us (f := c.1.2.2.2.2.2.2)).trans e', h'⟩
  · exact ⟨h1, q, w, r, h2, h3, h4, h5, (pk_un (f := c.1.2.2.2.2.2.2) hse).trans h6, h7⟩
theorem oil_st (hO : SOKs tn tr od) (hi : i < tn 4) : (fOil1 tr T c i = c ∧ ¬ (od i 0 = 1 ∧ T i c.1 = true)) ∨ (od i 0 = 1 ∧ T i c.1 = true ∧ fOil1 tr T c i = uRu c (od i 1) 0) := by
  have hn := hO.1
  unfold CntS at hn
  have hoo := hO.2.2.2.2.2 i hi
  have hob := hoo.1
  unfold fOil1
  by_cases h : od i 0 = 1 ∧ T i c.1 = true
  · rw [if_pos ⟨tr9_1 hoo (by omega) h.1, h.2⟩, rat_nI (f := tr 8) (by omega) (by decide), hoo.2.1, rput_nI (by omega) (by decide)]
    exact Or.inr ⟨h.1, h.2, rfl⟩
  · refine Or.inl ⟨if_neg (fun q => h ⟨?_, q.2⟩), h⟩
    exact Decidable.not_not.mp (fun z => tr9_0 (by omega) hoo (by omega) z q.1)
theorem oil_C (hO : SOKs tn tr od) (hC : CIn tn c dd m) (i : Nat) (hi : i ≤ tn 4) : CIn tn (fOilA tr T c i) dd m := by
  induction i with
  | zero => exact hC
  | succ i ih =>
    have ih := ih (by omega)
    show CIn tn (fOil1 tr T (fOilA tr T c i) i) dd m
    rcases oil_st (T := T) (c := fOilA tr T c i) hO (i := i) (by omega) with ⟨e, _⟩ | ⟨_, _, e⟩
    · rw [e]; exact ih
    · rw [e]; exact ru_C ih ⟨0, rfl, Nat.zero_le _⟩
/-! rust -/
def fRsI (c : CS) (i : Nat) : CS := if (c.1.2.1 < 4 ∧ ¬ c.1.1 - c.1.1 / 3 * 3 = 0) then c else fRst c (fRuF c.1.2.2.2.2.2.2 i)
theorem fRsI_0 : c = fRsI c 0 := by
  unfold fRsI; split
  · rfl
  · rfl
theorem fRsI_e : fRsI c (tn 2) = fRust c (tn 2) := rfl
theorem fRsI_w : (fRsI c i).1.2.2.2.2.2.1 = c.1.2.2.2.2.2.1 ∧ (fRsI c i).1.2.1 = c.1.2.1 ∧ (fRsI c i).1.1 = c.1.1 ∧ (fRsI c i).1.2.2.1 = c.1.2.2.1 ∧ (fRsI c i).1.2.2.2.1 = c.1.2.2.2.1 ∧ (fRsI c i).1.2.2.2.2.1 = c.1.2.2.2.2.1 ∧ (fRsI c i).2 = c.2 := by
  unfold fRsI; split <;> exact ⟨rfl, rfl, rfl, rfl, rfl, rfl, rfl⟩
theorem ru_1 {f : Nat → Int32} {r : Nat} (hi : i < 10) (h : f i = nI r) (hr : r ≤ 20) : fRu1 f i = upd f i (nI (if r < 20 then r + 1 else 20)) := by
  unfold fRu1
  rw [rput_nI hi (by decide), rat_nI hi (by decide), h, nI_1]
  congr 1
  by_cases q : r + 1 < 20
  · rw [if_pos (show nI (r + 1) < 20 from nI_lt (b := 20) q (by decide)), if_pos (by omega)]
  · rw [if_neg (show ¬ nI (r + 1) < 20 from nI_nlt (b := 20) (by omega) (by omega))]
    by_cases q2 : r < 20
    · rw [if_pos q2, show r + 1 = 20 by omega]; rfl
    · rw [if_neg q2]; rfl
theorem ru_F {f : Nat → Int32} (hn : tn 2 ≤ 10) (h : ∀ k, k < tn 2 → ∃ r, f k = nI r ∧ r ≤ 20) : ∀ i, i ≤ tn 2 → ∀ k, (k < i → ∃ r, f k = nI r ∧ r ≤ 20 ∧ fRuF f i k = nI (if r < 20 then r + 1 else 20)) ∧ (i ≤ k → fRuF f i k = f k) := by
  intro i
  induction i with
  | zero => intro _ k; exact ⟨fun q => absurd q (Nat.not_lt_zero _), fun _ => rfl⟩
  | succ i ih =>
    intro hi k
    have ih := ih (by omega)
    obtain ⟨r, e, hr⟩ := h i (by omega)
    have e2 : fRuF f (i + 1) = upd (fRuF f i) i (nI (if r < 20 then r + 1 else 20)) := ru_1 (f := fRuF f i) (by omega) (((ih i).2 (Nat.le_refl _)).trans e) hr
    rw [e2]
    by_cases hk : k = i
    · subst hk
      exact ⟨fun _ => ⟨r, e, hr, pk_us⟩, fun q => absurd q (by omega)⟩
    · rw [pk_un hk]
      exact ⟨fun q => (ih k).1 (by omega), fun q => (ih k).2 (by omega)⟩
theorem rust_C (hO : SOKs tn tr od) (hC : CIn tn c dd m) (i : Nat) (hi : i ≤ tn 2) : CIn tn (fRsI c i) dd m := by
  have hn := hO.1
  unfold CntS at hn
  unfold fRsI
  split
  · exact hC
  · refine hC.up rfl rfl rfl (fun k hk => ?_)
    obtain ⟨h1, q, w, r, h2, h3, h4, h5, h6, h7⟩ := hC.2.2.2.2.2 k hk
    have h8 := ru_F (tn := tn) (f := c.1.2.2.2.2.2.2) (by omega) (fun k hk => by obtain ⟨_, _, _, r, _, _, _, _, a, b⟩ := hC.2.2.2.2.2 k hk; exact ⟨r, a, b⟩) i hi k
    rcases Nat.lt_or_ge k i with z | z
    · obtain ⟨r', e, hr', e2⟩ := h8.1 z
      exact ⟨h1, q, w, _, h2, h3, h4, h5, e2, by split <;> omega⟩
    · exact ⟨h1, q, w, r, h2, h3, h4, h5, (h8.2 z).trans h6, h7⟩
theorem rs_a (hn : tn 2 ≤ 10) (hC : CIn tn c dd m) (hi : i < tn 2) (hc : c4 = fRsI c i) (h : ¬ c4.1.2.2.2.2.2.2 i < 20) : c4 = fRsI c (i + 1) := by
  subst hc
  unfold fRsI at h ⊢
  by_cases hp : (c.1.2.1 < 4 ∧ ¬ c.1.1 - c.1.1 / 3 * 3 = 0)
  · rw [if_pos hp, if_pos hp]
  · rw [if_neg hp] at h ⊢
    rw [if_neg hp]
    obtain ⟨_, _, _, r, _, _, _, _, h6, h7⟩ := hC.2.2.2.2.2 i hi
    have h8 := ((ru_F (tn := tn) (f := c.1.2.2.2.2.2.2) hn (fun k hk => by obtain ⟨_, _, _, r, _, _, _, _, a, b⟩ := hC.2.2.2.2.2 k hk; exact ⟨r, a, b⟩) i (by omega) i).2 (Nat.le_refl _)).trans h6
    have e2 : fRuF c.1.2.2.2.2.2.2 (i + 1) = upd (fRuF c.1.2.2.2.2.2.2 i) i (nI (if r < 20 then r + 1 else 20)) := ru_1 (f := fRuF c.1.2.2.2.2.2.2 i) (by omega) h8 h7
    have h9 : ¬ fRuF c.1.2.2.2.2.2.2 i i < 20 := h
    rw [h8] at h9
    have h10 : ¬ r < 20 := fun q => h9 (nI_lt (b := 20) q (by decide))
    rw [e2, if_neg h10, show nI 20 = fRuF c.1.2.2.2.2.2.2 i i by rw [h8, show r = 20 by omega], upd_id]
theorem rs_b (hc : c4 = fRsI c i) (h : ¬ 3 < c4.1.2.1) (h2 : ¬ c4.1.1 - c4.1.1 / 3 * 3 = 0) : c4 = fRsI c (i + 1) := by
  have hp : (c.1.2.1 < 4 ∧ ¬ c.1.1 - c.1.1 / 3 * 3 = 0) := by
    have e := fRsI_w (c := c) (i := i)
    rw [hc, e.2.1] at h
    rw [hc, e.2.2.1] at h2
    refine ⟨?_, h2⟩
    have h5 := Int32.le_iff_toInt_le.mp (Int32.not_lt.mp h)
    rw [Int32.lt_iff_toInt_lt]
    have : (3 : Int32).toInt = 3 := by decide
    have : (4 : Int32).toInt = 4 := by decide
    omega
  subst hc
  unfold fRsI; rw [if_pos hp, if_pos hp]
theorem rs_c (hn : tn 2 ≤ 10) (hC : CIn tn c dd m) (hi : i < tn 2) (hc : c4 = fRsI c i) (h : c4.1.2.2.2.2.2.2 i < 20) (h2 : 3 < c4.1.2.1 ∨ c4.1.1 - c4.1.1 / 3 * 3 = 0) : uRu c4 i (c4.1.2.2.2.2.2.2 i + 1) = fRsI c (i + 1) := by
  have hp : ¬ (c.1.2.1 < 4 ∧ ¬ c.1.1 - c.1.1 / 3 * 3 = 0) := by
    have e := fRsI_w (c := c) (i := i)
    rw [hc, e.2.1, e.2.2.1] at h2
    intro q
    rcases h2 with z | z
    · have h5 := Int32.lt_iff_toInt_lt.mp z
      have h6 := Int32.lt_iff_toInt_lt.mp q.1
      have : (3 : Int32).toInt = 3 := by decide
      have : (4 : Int32).toInt = 4 := by decide
      omega
    · exact q.2 z
  subst hc
  unfold fRsI at h ⊢
  rw [if_neg hp] at h ⊢
  rw [if_neg hp]
  obtain ⟨_, _, _, r, _, _, _, _, h6, h7⟩ := hC.2.2.2.2.2 i hi
  have h8 := ((ru_F (tn := tn) (f := c.1.2.2.2.2.2.2) hn (fun k hk => by obtain ⟨_, _, _, r, _, _, _, _, a, b⟩ := hC.2.2.2.2.2 k hk; exact ⟨r, a, b⟩) i (by omega) i).2 (Nat.le_refl _)).trans h6
  have e2 : fRuF c.1.2.2.2.2.2.2 (i + 1) = upd (fRuF c.1.2.2.2.2.2.2 i) i (nI (if r < 20 then r + 1 else 20)) := ru_1 (f := fRuF c.1.2.2.2.2.2.2 i) (by omega) h8 h7
  have h9 : fRuF c.1.2.2.2.2.2.2 i i < 20 := h
  rw [h8] at h9
  have h10 : r < 20 := (nI_ltI (b := 20) (by omega) (by decide)).mp h9
  show fRst c (upd (fRuF c.1.2.2.2.2.2.2 i) i (fRuF c.1.2.2.2.2.2.2 i i + 1)) = fRst c (fRuF c.1.2.2.2.2.2.2 (i + 1))
  rw [e2, h8, nI_1, if_pos h10]
/-! worms -/
def fWv (f : Nat → Int32) (i : Nat) : Nat → Int32 := fun j => if 1 ≤ j ∧ j ≤ i then f (j - 1) else 0
theorem fWv_0 {f : Nat → Int32} : (fun _ => 0) = fWv f 0 := by funext j; exact (if_neg (by omega)).symm
theorem fWv_s {f : Nat → Int32} : upd (fWv f i) (i + 1) (f i) = fWv f (i + 1) := by
  funext j
  by_cases h : j = i + 1
  · subst h; rw [pk_us]; exact (if_pos (show 1 ≤ i + 1 ∧ i + 1 ≤ i + 1 by omega)).symm
  · rw [pk_un h]
    show (if 1 ≤ j ∧ j ≤ i then f (j - 1) else 0) = if 1 ≤ j ∧ j ≤ i + 1 then f (j - 1) else 0
    by_cases q : 1 ≤ j ∧ j ≤ i
    · rw [if_pos q, if_pos (by omega)]
    · rw [if_neg q, if_neg (by omega)]
theorem fWv_at {f : Nat → Int32} (h : k < i) : fWv f i (k + 1) = f k := if_pos (show 1 ≤ k + 1 ∧ k + 1 ≤ i by omega)
theorem fWv_z {f : Nat → Int32} (h : ¬ (1 ≤ k ∧ k ≤ i)) : fWv f i k = 0 := if_neg h
theorem gt9 {x : Int32} : decide ((10 : Int32) ≤ x) = decide (9 < x) := by
  refine decide_eq_decide.mpr ?_
  rw [Int32.le_iff_toInt_le, Int32.lt_iff_toInt_lt, show (10 : Int32).toInt = 10 by decide, show (9 : Int32).toInt = 9 by decide]
  omega
theorem wy_eq {fv : Nat → Int32} {nS : Nat} (hn : nS ≤ 10) (hk : k < nS) : fWy fv nS k = decide (9 < (if fWv fv nS k < fWv fv nS (k + 2) then fWv fv nS (k + 2) else fWv fv nS k)) := by
  have a : (decide (0 < k) && decide ((10 : Int32) ≤ rat 10 fv (nI k - 1))) = decide (9 < fWv fv nS k) := by
    cases k with
    | zero => rw [fWv_z (by omega)]; rfl
    | succ n => rw [nI_pred, rat_nI (by omega) (by decide), fWv_at (by omega), dt (show 0 < n + 1 by omega), Bool.true_and]; exact gt9
  have b : (decide (k + 1 < nS) && decide ((10 : Int32) ≤ rat 10 fv (nI (k + 1)))) = decide (9 < fWv fv nS (k + 2)) := by
    by_cases h : k + 1 < nS
    · rw [rat_nI (by omega) (by decide), show k + 2 = k + 1 + 1 from rfl, fWv_at h, dt h, Bool.true_and]; exact gt9
    · rw [df h, fWv_z (by omega)]; rfl
  unfold fWy
  rw [a, b]
  generalize fWv fv nS k = x
  generalize fWv fv nS (k + 2) = y
  by_cases h : x < y
  · rw [if_pos h]
    by_cases h2 : 9 < y
    · rw [dt h2, Bool.or_true]
    · rw [df h2, df (fun q => h2 (Int32.lt_trans q h))]; rfl
  · rw [if_neg h]
    by_cases h2 : 9 < x
    · rw [dt h2]; rfl
    · rw [df h2, df (fun q => h2 (Int32.lt_of_lt_of_le q (Int32.not_lt.mp h)))]; rfl
theorem af_t {damp : Int32} {nS : Nat} {fv : Nat → Int32} (hk : k < 10) (h : fWy fv nS k = true) : fv k + damp / 2 - tr 5 k / 4 + 1 = fAf0 tr damp nS fv k := by
  unfold fAf0
  rw [h, rat_nI hk (by decide), rat_nI hk (by decide), Int32.sub_eq_add_neg, Int32.sub_eq_add_neg]
  simp only [Int32.add_assoc]
  rfl
theorem af_f {damp : Int32} {nS : Nat} {fv : Nat → Int32} (hk : k < 10) (h : fWy fv nS k = false) : fv k + damp / 2 - tr 5 k / 4 = fAf0 tr damp nS fv k := by
  unfold fAf0
  rw [h, rat_nI hk (by decide), rat_nI hk (by decide), show bI false = 0 from rfl, Int32.add_zero, Int32.sub_eq_add_neg, Int32.sub_eq_add_neg]
  simp only [Int32.add_assoc]
theorem cl_0 {x : Int32} (h : x < 0) : 0 = if 0 < (if x < 99 then x else 99) then (if x < 99 then x else 99) else 0 := by
  have h1 := Int32.lt_iff_toInt_lt.mp h
  rw [i_0] at h1
  rw [if_pos (show x < 99 by rw [Int32.lt_iff_toInt_lt, i_99]; omega), if_neg (fun q => Int32.lt_irrefl (Int32.lt_trans h q))]
theorem cl_9 {x : Int32} (h : ¬ x ≤ 99) : 99 = if 0 < (if x < 99 then x else 99) then (if x < 99 then x else 99) else 0 := by
  rw [if_neg (fun q => h (Int32.le_of_lt q))]; rfl
theorem cl_n {x : Int32} (h0 : ¬ x < 0) (h : x ≤ 99) : x = if 0 < (if x < 99 then x else 99) then (if x < 99 then x else 99) else 0 := by
  have e : (if x < 99 then x else 99) = x := by
    by_cases q : x < 99
    · exact if_pos q
    · rw [if_neg q]; exact Int32.le_antisymm (Int32.not_lt.mp q) h
  rw [e]
  by_cases q : 0 < x
  · rw [if_pos q]
  · rw [if_neg q]; exact Int32.le_antisymm (Int32.not_lt.mp q) (Int32.not_lt.mp h0)
section
variable {damp : Int32} {nS : Nat} {fb fv : Nat → Int32}
theorem aft_0 (h : fAf0 tr damp nS fv k < 0) : 0 = fAft tr damp nS fv k := cl_0 h
theorem aft_9 (h : ¬ fAf0 tr damp nS fv k ≤ 99) : 99 = fAft tr damp nS fv k := cl_9 h
theorem aft_n (h0 : ¬ fAf0 tr damp nS fv k < 0) (h : fAf0 tr damp nS fv k ≤ 99) : fAf0 tr damp nS fv k = fAft tr damp nS fv k := cl_n h0 h
theorem aft_v : ∃ w, w ≤ 99 ∧ fAft tr damp nS fv k = nI w := by
  by_cases h : fAf0 tr damp nS fv k < 0
  · exact ⟨0, Nat.zero_le _, (aft_0 h).symm⟩
  by_cases h2 : fAf0 tr damp nS fv k ≤ 99
  · obtain ⟨j, hj, e⟩ := nI_of2 (M := 99) (n := 99) (by decide) h h2
    exact ⟨j, hj, (aft_n h h2).symm.trans e⟩
  · exact ⟨99, Nat.le_refl _, (aft_9 h2).symm⟩
end
def eat1 (v : Int32) : Int32 := if 0 < v - 1 then v - 1 else 0
theorem fEat_nI {f : Nat → Int32} (hk : k < 10) : fEat f k = upd f k (eat1 (f k)) := by unfold fEat eat1; rw [rput_nI hk (by decide), rat_nI hk (by decide)]
theorem eat_n {n : Nat} (hn : n < 1000) : eat1 (nI (n + 1)) = nI n := by
  unfold eat1
  rw [nI_pred]
  by_cases h : 0 < nI n
  · rw [if_pos h]
  · rw [if_neg h]; exact Int32.le_antisymm (nI_pos' (by omega)) (Int32.not_lt.mp h)
theorem eat_0 : eat1 0 = 0 := by decide
theorem gn_P {damp : Int32} {nS : Nat} {fb fv : Nat → Int32} {x0 : (Nat → Int32) × (Nat → Int32)} (hn : nS ≤ 10) : ∀ i, i ≤ nS → ∀ k, (k < i → (fGnF tr damp nS fb fv x0 i).1 k = fAft tr damp nS fv k ∧ (fGnF tr damp nS fb fv x0 i).2 k = if ¬ fAft tr damp nS fv k < 30 ∧ ¬ fb k = (-1) then eat1 (x0.2 k) else x0.2 k) ∧ (i ≤ k → (fGnF tr damp nS fb fv x0 i).1 k = x0.1 k ∧ (fGnF tr damp nS fb fv x0 i).2 k = x0.2 k) := by
  intro i
  induction i with
  | zero => intro _ k; exact ⟨fun q => absurd q (Nat.not_lt_zero _), fun _ => ⟨rfl, rfl⟩⟩
  | succ i ih =>
    intro hi k
    have ih := ih (by omega)
    have e : fGnF tr damp nS fb fv x0 (i + 1) = (upd (fGnF tr damp nS fb fv x0 i).1 i (fAft tr damp nS fv i), if ¬ fAft tr damp nS fv i < 30 ∧ ¬ fb i = (-1) then upd (fGnF tr damp nS fb fv x0 i).2 i (eat1 ((fGnF tr damp nS fb fv x0 i).2 i)) else (fGnF tr damp nS fb fv x0 i).2) := by
      show (rput 10 _ _ _, if ¬ _ ∧ ¬ rat 10 fb (nI i) = (-1) then fEat _ i else _) = _
      rw [rput_nI (by omega) (by decide), rat_nI (by omega) (by decide), fEat_nI (by omega)]
    rw [e]
    by_cases hk : k = i
    · subst hk
      refine ⟨fun _ => ⟨pk_us, ?_⟩, fun q => absurd q (by omega)⟩
      have h9 := ((ih k).2 (Nat.le_refl _)).2
      by_cases q : ¬ fAft tr damp nS fv k < 30 ∧ ¬ fb k = (-1)
      · rw [if_pos q, if_pos q, h9]; exact pk_us
      · rw [if_neg q, if_neg q]; exact h9
    · have e1 : (upd (fGnF tr damp nS fb fv x0 i).1 i (fAft tr damp nS fv i)) k = (fGnF tr damp nS fb fv x0 i).1 k := pk_un hk
      have e2 : (if ¬ fAft tr damp nS fv i < 30 ∧ ¬ fb i = (-1) then upd (fGnF tr damp nS fb fv x0 i).2 i (eat1 ((fGnF tr damp nS fb fv x0 i).2 i)) else (fGnF tr damp nS fb fv x0 i).2) k = (fGnF tr damp nS fb fv x0 i).2 k := by
        split
        · exact pk_un hk
        · rfl
      dsimp only
      rw [e1, e2]
      exact ⟨fun q => (ih k).1 (by omega), fun q => (ih k).2 (by omega)⟩
def gnI (tr : Nat → Nat → Int32) (nS : Nat) (c : CS) (i : Nat) : CS := fGns c (fGnF tr c.1.2.1 nS c.1.2.2.2.1 c.1.2.2.2.2.2.1 (c.1.2.2.2.2.2.1, c.1.2.2.2.2.1) i)
theorem gnI_0 {nS : Nat} : c = gnI tr nS c 0 := rfl
theorem gnI_e {nS : Nat} : gnI tr nS c nS = fGnaw tr nS c := rfl
theorem gnaw_C (hO : SOKs tn tr od) (hC : CIn tn c dd m) (i : Nat) (hi : i ≤ tn 2) : CIn tn (gnI tr (tn 2) c i) dd m := by
  have hn := hO.1
  unfold CntS at hn
  refine hC.up rfl rfl rfl (fun k hk => ?_)
  obtain ⟨h1, q, w, r, h2, h3, h4, h5, h6, h7⟩ := hC.2.2.2.2.2 k hk
  have hP := gn_P (tr := tr) (damp := c.1.2.1) (nS := tn 2) (fb := c.1.2.2.2.1) (fv := c.1.2.2.2.2.2.1) (x0 := (c.1.2.2.2.2.2.1, c.1.2.2.2.2.1)) (by omega) i hi k
  show ((c.1.2.2.2.1 k = (-1) ∧ (fGnF tr c.1.2.1 (tn 2) c.1.2.2.2.1 c.1.2.2.2.2.2.1 (c.1.2.2.2.2.2.1, c.1.2.2.2.2.1) i).2 k = 0) ∨ _) ∧ ∃ q w r, (fGnF tr c.1.2.1 (tn 2) c.1.2.2.2.1 c.1.2.2.2.2.2.1 (c.1.2.2.2.2.2.1, c.1.2.2.2.2.1) i).2 k = nI q ∧ q ≤ 31 ∧ (fGnF tr c.1.2.1 (tn 2) c.1.2.2.2.1 c.1.2.2.2.2.2.1 (c.1.2.2.2.2.2.1, c.1.2.2.2.2.1) i).1 k = nI w ∧ w ≤ 99 ∧ c.1.2.2.2.2.2.2 k = nI r ∧ r ≤ 20
  rcases Nat.lt_or_ge k i with z | z
  · obtain ⟨e1, e2⟩ := hP.1 z
    obtain ⟨w', hw', ew⟩ := aft_v (tr := tr) (damp := c.1.2.1) (nS := tn 2) (fv := c.1.2.2.2.2.2.1) (k := k)
    rw [e1, e2, ew]
    by_cases hq : ¬ nI w' < 30 ∧ ¬ c.1.2.2.2.1 k = (-1)
    · rw [if_pos hq]
      refine ⟨Or.inr (h1.resolve_left (fun q9 => hq.2 q9.1)), ?_⟩
      dsimp only
      rw [h2]
      cases q with
      | zero => exact ⟨0, w', r, eat_0, Nat.zero_le _, rfl, hw', h6, h7⟩
      | succ q => exact ⟨q, w', r, eat_n (by omega), by omega, rfl, hw', h6, h7⟩
    · rw [if_neg hq]
      exact ⟨h1, q, w', r, h2, h3, rfl, hw', h6, h7⟩
  · obtain ⟨e1, e2⟩ := hP.2 z
    rw [e1, e2]
    exact ⟨h1, q, w, r, h2, h3, h4, h5, h6, h7⟩
theorem gn_s {nS : Nat} (hi : i < 10) (hc : c5 = gnI tr nS c4 i) : gnI tr nS c4 (i + 1) = if ¬ fAft tr c4.1.2.1 nS c4.1.2.2.2.2.2.1 i < 30 ∧ ¬ c4.1.2.2.2.1 i = (-1) then uQu (uWo c5 i (fAft tr c4.1.2.1 nS c4.1.2.2.2.2.2.1 i)) i (eat1 (c5.1.2.2.2.2.1 i)) else uWo c5 i (fAft tr c4.1.2.1 nS c4.1.2.2.2.2.2.1 i) := by
  subst hc
  show fGns c4 (rput 10 _ _ _, if ¬ _ ∧ ¬ rat 10 c4.1.2.2.2.1 (nI i) = (-1) then fEat _ i else _) = _
  rw [rput_nI hi (by decide), rat_nI hi (by decide), fEat_nI hi]
  split <;> rfl
theorem lt30 {x : Int32} (h : x ≤ 29) : x < 30 := by
  have h1 := Int32.le_iff_toInt_le.mp h
  rw [Int32.lt_iff_toInt_lt]
  have : (29 : Int32).toInt = 29 := by decide
  have : (30 : Int32).toInt = 30 := by decide
  omega
theorem le29 {x : Int32} (h : x < 30) : x ≤ 29 := by
  have h1 := Int32.lt_iff_toInt_lt.mp h
  rw [Int32.le_iff_toInt_le]
  have : (29 : Int32).toInt = 29 := by decide
  have : (30 : Int32).toInt = 30 := by decide
  omega
theorem gn_a {nS : Nat} (hi : i < 10) (hc : c5 = gnI tr nS c4 i) (h : fAft tr c4.1.2.1 nS c4.1.2.2.2.2.2.1 i ≤ 29) : uWo c5 i (fAft tr c4.1.2.1 nS c4.1.2.2.2.2.2.1 i) = gnI tr nS c4 (i + 1) := by
  rw [gn_s hi hc, if_neg (fun q => q.1 (lt30 h))]
theorem gn_b {nS : Nat} (hi : i < 10) (hc : c5 = gnI tr nS c4 i) (h : c4.1.2.2.2.1 i = (-1)) : uWo c5 i (fAft tr c4.1.2.1 nS c4.1.2.2.2.2.2.1 i) = gnI tr nS c4 (i + 1) := by
  rw [gn_s hi hc, if_neg (fun q => q.2 h)]
theorem gn_c {nS q : Nat} (hi : i < 10) (hc : c5 = gnI tr nS c4 i) (hq : c5.1.2.2.2.2.1 i = nI q) (hq2 : q ≤ 31) (h : c5.1.2.2.2.2.1 i ≤ 0) : uWo c5 i (fAft tr c4.1.2.1 nS c4.1.2.2.2.2.2.1 i) = gnI tr nS c4 (i + 1) := by
  rw [gn_s hi hc]
  have e : c5.1.2.2.2.2.1 i = 0 := by
    rw [hq] at h ⊢
    rcases Nat.eq_zero_or_pos q with z | z
    · rw [z]; rfl
    · exact absurd h (nI_nle z (by omega))
  split
  · rw [e, eat_0, ← e]
    show _ = ((c5.1.1, c5.1.2.1, c5.1.2.2.1, c5.1.2.2.2.1, upd c5.1.2.2.2.2.1 i (c5.1.2.2.2.2.1 i), (uWo c5 i (fAft tr c4.1.2.1 nS c4.1.2.2.2.2.2.1 i)).1.2.2.2.2.2), c5.2)
    rw [upd_id]; rfl
  · rfl
theorem gn_d {nS q : Nat} (hi : i < 10) (hc : c5 = gnI tr nS c4 i) (hq : c5.1.2.2.2.2.1 i = nI q) (hq2 : q ≤ 31) (h1 : ¬ fAft tr c4.1.2.1 nS c4.1.2.2.2.2.2.1 i ≤ 29) (h2 : ¬ c4.1.2.2.2.1 i = (-1)) (h : ¬ c5.1.2.2.2.2.1 i ≤ 0) : uQu (uWo c5 i (fAft tr c4.1.2.1 nS c4.1.2.2.2.2.2.1 i)) i (c5.1.2.2.2.2.1 i - 1) = gnI tr nS c4 (i + 1) := by
  rw [gn_s hi hc, if_pos ⟨fun z => h1 (le29 z), h2⟩]
  rw [hq] at h ⊢
  cases q with
  | zero => exact absurd (Int32.le_refl _) h
  | succ q => rw [eat_n (by omega), nI_pred]
/-! the day in all -/
theorem dy_eq (h3 : c3 = fOilA tr T (fCarv tr (tn 4) T (-1) c (tn 1)) (tn 4)) (h4 : c4 = fRsI c3 (tn 2)) (h5 : c5 = gnI tr (tn 2) c4 (tn 2)) : fDay tr tn T (-1) c = fNext (fPay tr (tn 2) (tn 3) c5) := by subst h3 h4 h5; rfl
theorem pl_no (h : fBsp tr c5.1.1 (tn 3) < 0) (hn : tn 3 ≤ 6) : fPay tr (tn 2) (tn 3) c5 = c5 := by
  refine fPay_a ?_
  rcases BI_x (fBsp_BI (tr := tr) (day := c5.1.1) hn) with z | ⟨b, hb, z⟩
  · exact z
  · rw [z] at h; exact absurd h (nI_pos (by omega))
theorem pl_lo {B : Nat} (hB : fBsp tr c5.1.1 (tn 3) = nI B) (hB2 : B < 1000) (h : fPleas tr c5.1.2.2.2.1 c5.1.2.2.2.2.1 c5.1.2.2.2.2.2.2 (nI B) (tn 2) ≤ 9) : fPay tr (tn 2) (tn 3) c5 = c5 := by
  refine fPay_b (by rw [hB]; exact nI_nm1 (by omega)) ?_
  rw [hB]
  have h3 := Int32.le_iff_toInt_le.mp h
  rw [Int32.lt_iff_toInt_lt]
  have : (9 : Int32).toInt = 9 := by decide
  have : (10 : Int32).toInt = 10 := by decide
  omega
theorem pl_hi {B : Nat} (hB : fBsp tr c5.1.1 (tn 3) = nI B) (hB2 : B < 1000) (h : ¬ fPleas tr c5.1.2.2.2.1 c5.1.2.2.2.2.1 c5.1.2.2.2.2.2.2 (nI B) (tn 2) ≤ 9) : fPay tr (tn 2) (tn 3) c5 = fCoi c5 (c5.1.2.2.1 + fPleas tr c5.1.2.2.2.1 c5.1.2.2.2.2.1 c5.1.2.2.2.2.2.2 (nI B) (tn 2) / 10) := by
  have e := fPay_c (tr := tr) (nS := tn 2) (nP := tn 3) (c := c5) (by rw [hB]; exact nI_nm1 (by omega)) (by
    rw [hB]
    intro q
    have h3 := Int32.lt_iff_toInt_lt.mp q
    refine h (Int32.le_iff_toInt_le.mpr ?_)
    have : (9 : Int32).toInt = 9 := by decide
    have : (10 : Int32).toInt = 10 := by decide
    omega)
  rw [e, hB]
end
