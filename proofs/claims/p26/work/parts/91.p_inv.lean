/-! what a day does, as far as the law asks -/
def cntB (p : Nat → Bool) : Nat → Nat
  | 0 => 0
  | n + 1 => cntB p n + (if p n = true then 1 else 0)
theorem cnt_le {p p2 : Nat → Bool} {n : Nat} (h : ∀ s, s < n → p2 s = true → p s = true) : cntB p2 n ≤ cntB p n := by
  induction n with
  | zero => exact Nat.le_refl _
  | succ n ih =>
    have h1 := ih (fun s hs => h s (by omega))
    have h2 := h n (by omega)
    show cntB p2 n + (if p2 n = true then 1 else 0) ≤ cntB p n + (if p n = true then 1 else 0)
    by_cases q : p2 n = true
    · rw [if_pos q, if_pos (h2 q)]; omega
    · rw [if_neg q]; omega
theorem cnt_one {p p2 : Nat → Bool} {s0 n : Nat} (h : ∀ s, s < n → s ≠ s0 → p2 s = true → p s = true) : cntB p2 n ≤ cntB p n + (if s0 < n then 1 else 0) := by
  induction n with
  | zero => exact Nat.zero_le _
  | succ n ih =>
    have h1 := ih (fun s hs => h s (by omega))
    have h2 := h n (by omega)
    show cntB p2 n + (if p2 n = true then 1 else 0) ≤ cntB p n + (if p n = true then 1 else 0) + (if s0 < n + 1 then 1 else 0)
    by_cases e : n = s0
    · subst e
      rw [if_neg (Nat.lt_irrefl n)] at h1
      rw [if_pos (Nat.lt_succ_self n)]
      have : (if p2 n = true then 1 else 0) ≤ 1 := by split <;> omega
      omega
    · have h3 : (if p2 n = true then 1 else 0) ≤ (if p n = true then 1 else 0) := by
        by_cases q : p2 n = true
        · rw [if_pos q, if_pos (h2 e q)]; omega
        · rw [if_neg q]; omega
      have h4 : (if s0 < n then 1 else 0) ≤ (if s0 < n + 1 then 1 else 0) := by
        by_cases q : s0 < n
        · rw [if_pos q, if_pos (by omega)]; omega
        · rw [if_neg q]; omega
      omega
theorem cnt_0 {p : Nat → Bool} {n : Nat} (h : ∀ s, s < n → p s = false) : cntB p n = 0 := by
  induction n with
  | zero => rfl
  | succ n ih =>
    show cntB p n + (if p n = true then 1 else 0) = 0
    rw [ih (fun s hs => h s (by omega)), h n (by omega)]; rfl
section
variable {tn : Nat → Nat} {tr : Nat → Nat → Int32} {od : Nat → Nat → Nat} {c c2 c3 e : CS} {dd m i j k o s : Nat} {v x y w ab : Int32} {T : Nat → VS → Bool}
/-- the work of orders -/
def WkI (tn : Nat → Nat) (od : Nat → Nat → Nat) (c : CS) : Prop := ∀ o, o < tn 4 → ∃ w, c.2.2.1 o = nI w ∧ w < 200 ∧ (od o 0 = 1 → w = 0)
/-- what has been carved by i carvers of a day, j times to the end -/
def CvI (tn : Nat → Nat) (tr : Nat → Nat → Int32) (od : Nat → Nat → Nat) (dd : Nat) (c c2 : CS) (i j : Nat) : Prop :=
  c2.2.1 = c.2.1 + nI j ∧ j ≤ i ∧ (c2.1.1 = c.1.1 ∧ c2.1.2.1 = c.1.2.1 ∧ c2.1.2.2.1 = c.1.2.2.1 ∧ c2.1.2.2.2.2.2.2 = c.1.2.2.2.2.2.2) ∧
  (∀ s, s < tn 2 → (c2.1.2.2.2.1 s = c.1.2.2.2.1 s ∧ c2.1.2.2.2.2.1 s = c.1.2.2.2.2.1 s ∧ c2.1.2.2.2.2.2.1 s = c.1.2.2.2.2.2.1 s) ∨ (0 < j ∧ (∃ b, b < tn 0 ∧ c2.1.2.2.2.1 s = nI b) ∧ (∃ q, c2.1.2.2.2.2.1 s = nI q ∧ 1 ≤ q ∧ q ≤ 31) ∧ c2.1.2.2.2.2.2.1 s = 0)) ∧
  cntB (fun s => decide (¬ c2.1.2.2.2.1 s = c.1.2.2.2.1 s)) (tn 2) ≤ j ∧
  (∀ o, o < tn 4 → c2.2.2.1 o = c.2.2.1 o ∨ (od o 0 = 0 ∧ od o 3 < i ∧ (∃ p, tr 3 (od o 3) = nI p ∧ 1 ≤ p ∧ p ≤ 4 ∧ dd % p = 0) ∧ ((c2.2.2.1 o = c.2.2.1 o + tr 2 (od o 3) ∨ c2.2.2.1 o = c.2.2.1 o + 2 * tr 2 (od o 3)) ∨ (c2.2.2.1 o = 0 ∧ 0 < j)))) ∧ WkI tn od c2
theorem CvI.mono (h : CvI tn tr od dd c c2 i j) : CvI tn tr od dd c c2 (i + 1) j := by
  obtain ⟨h1, h2, h3, h4, h5, h6, h7⟩ := h
  refine ⟨h1, by omega, h3, h4, h5, fun o ho => ?_, h7⟩
  rcases h6 o ho with z | ⟨z1, z2, z3⟩
  · exact Or.inl z
  · exact Or.inr ⟨z1, by omega, z3⟩
theorem CvI.work (hO : SOKs tn tr od) (h : CvI tn tr od dd c c2 i j) (hi : i < tn 1) (ho : o < tn 4) (h0 : od o 0 = 0) (h3 : od o 3 = i) (hp : ∃ p, tr 3 i = nI p ∧ 1 ≤ p ∧ p ≤ 4 ∧ dd % p = 0) : ∃ j2, CvI tn tr od dd c (fWork tr c2 (nI o) (nI i)) (i + 1) j2 := by
  have hn := hO.1
  unfold CntS at hn
  have hoo := hO.2.2.2.2.2 o ho
  have hob := hoo.1
  obtain ⟨h1, h2, h3', h4, h5, h6, h7⟩ := h
  have hwo : c2.2.2.1 o = c.2.2.1 o := by
    rcases h6 o ho with z | ⟨_, z2, _⟩
    · exact z
    · omega
  subst h3
  obtain ⟨a, _, ea, a1, a2, _⟩ := hO.2.2.1 (od o 3) hi
  obtain ⟨w, ew, w1, w2⟩ := h7 o ho
  rcases fWork_st (c := c2) hO ho h0 hi with ⟨e, hlt⟩ | ⟨q, q1, q2, e⟩
  · refine ⟨j, ?_⟩
    rw [e]
    have eg := fGain_nI (tr := tr) hoo h0 (by omega) (k := od o 3) (by omega)
    obtain ⟨b, eb, b1, b2⟩ := hO.2.2.2.1 (od o 1) hob.2.1
    obtain ⟨_, f, _, _, ef, f1, f2⟩ := hO.2.1 (od o 2) hob.2.2.1
    have en : fNeed tr (nI o) = nI (b * f * 2) := by
      rw [fNeed_nI hoo h0 (by omega) (by omega) (by omega), eb, ef, pk_mul]; exact pk_mul _ 2
    obtain ⟨g, eg2, g1, g2, g3⟩ : ∃ g, fGain tr (nI o) (nI (od o 3)) = nI g ∧ 1 ≤ g ∧ g ≤ 18 ∧ (fGain tr (nI o) (nI (od o 3)) = tr 2 (od o 3) ∨ fGain tr (nI o) (nI (od o 3)) = 2 * tr 2 (od o 3)) := by
      rw [eg]
      by_cases hl : tr 4 (od o 3) = nI (od o 2)
      · rw [if_pos hl]; exact ⟨2 * a, by rw [ea]; exact pk_mul 2 a, by omega, by omega, Or.inr rfl⟩
      · rw [if_neg hl]; exact ⟨a, ea, by omega, by omega, Or.inl rfl⟩
    have hbf : b * f * 2 ≤ 162 := by
      have := Nat.mul_le_mul b2 f2
      omega
    rw [eg2, ew, nI_add, en] at hlt
    have hlt2 := (nI_ltI (a := w + g) (b := b * f * 2) (by omega) (by omega)).mp hlt
    refine ⟨h1, by omega, h3', h4, h5, fun o2 ho2 => ?_, fun o2 ho2 => ?_⟩
    · by_cases hq : o2 = o
      · subst hq
        refine Or.inr ⟨h0, Nat.lt_succ_self _, hp, Or.inl ?_⟩
        have e9 : (uWk c2 o2 (c2.2.2.1 o2 + fGain tr (nI o2) (nI (od o2 3)))).2.2.1 o2 = c2.2.2.1 o2 + fGain tr (nI o2) (nI (od o2 3)) := pk_us
        rw [e9, hwo]
        rcases g3 with z | z
        · exact Or.inl (by rw [z])
        · exact Or.inr (by rw [z])
      · have e9 : (uWk c2 o (c2.2.2.1 o + fGain tr (nI o) (nI (od o 3)))).2.2.1 o2 = c2.2.2.1 o2 := pk_un hq
        rw [e9]
        rcases h6 o2 ho2 with z | ⟨z1, z2, z3⟩
        · exact Or.inl z
        · exact Or.inr ⟨z1, by omega, z3⟩
    · by_cases hq : o2 = o
      · subst hq
        have e9 : (uWk c2 o2 (c2.2.2.1 o2 + fGain tr (nI o2) (nI (od o2 3)))).2.2.1 o2 = c2.2.2.1 o2 + fGain tr (nI o2) (nI (od o2 3)) := pk_us
        exact ⟨w + g, by rw [e9, ew, eg2, nI_add], by omega, fun z => by omega⟩
      · have e9 : (uWk c2 o (c2.2.2.1 o + fGain tr (nI o) (nI (od o 3)))).2.2.1 o2 = c2.2.2.1 o2 := pk_un hq
        rw [e9]; exact h7 o2 ho2
  · refine ⟨j + 1, ?_⟩
    rw [e]
    have wk : ∀ o2, (uAll (uCb (uWo (uQu (uBe (uWk c2 o 0) (od o 1) (nI (od o 2))) (od o 1) (nI q)) (od o 1) 0) (od o 3) (c2.2.2.2 (od o 3) + 1)) (c2.2.1 + 1)).2.2.1 o2 = upd c2.2.2.1 o 0 o2 := fun _ => rfl
    refine ⟨?_, by omega, h3', fun s hs => ?_, ?_, fun o2 ho2 => ?_, fun o2 ho2 => ?_⟩
    · show c2.2.1 + 1 = c.2.1 + nI (j + 1)
      rw [h1, nI_succ, Int32.add_assoc]
    · show (upd c2.1.2.2.2.1 (od o 1) (nI (od o 2)) s = c.1.2.2.2.1 s ∧ upd c2.1.2.2.2.2.1 (od o 1) (nI q) s = c.1.2.2.2.2.1 s ∧ upd c2.1.2.2.2.2.2.1 (od o 1) 0 s = c.1.2.2.2.2.2.1 s) ∨ (0 < j + 1 ∧ (∃ b, b < tn 0 ∧ upd c2.1.2.2.2.1 (od o 1) (nI (od o 2)) s = nI b) ∧ (∃ q', upd c2.1.2.2.2.2.1 (od o 1) (nI q) s = nI q' ∧ 1 ≤ q' ∧ q' ≤ 31) ∧ upd c2.1.2.2.2.2.2.1 (od o 1) 0 s = 0)
      by_cases hq : s = od o 1
      · subst hq
        rw [pk_us, pk_us, pk_us]
        exact Or.inr ⟨by omega, ⟨od o 2, hob.2.2.1, rfl⟩, ⟨q, rfl, q1, q2⟩, rfl⟩
      · rw [pk_un hq, pk_un hq, pk_un hq]
        rcases h4 s hs with z | ⟨z1, z2⟩
        · exact Or.inl z
        · exact Or.inr ⟨by omega, z2⟩
    · have h9 := cnt_one (p := fun s => decide (¬ c2.1.2.2.2.1 s = c.1.2.2.2.1 s)) (p2 := fun s => decide (¬ upd c2.1.2.2.2.1 (od o 1) (nI (od o 2)) s = c.1.2.2.2.1 s)) (s0 := od o 1) (n := tn 2) (fun s _ hs hp => by rw [pk_un hs] at hp; exact hp)
      rw [if_pos hob.2.1] at h9
      exact Nat.le_trans h9 (by omega)
    · rw [wk]
      by_cases hq : o2 = o
      · subst hq
        rw [pk_us]
        exact Or.inr ⟨h0, Nat.lt_succ_self _, hp, Or.inr ⟨rfl, by omega⟩⟩
      · rw [pk_un hq]
        rcases h6 o2 ho2 with z | ⟨z1, z2, z3, z4⟩
        · exact Or.inl z
        · refine Or.inr ⟨z1, by omega, z3, ?_⟩
          rcases z4 with z4 | ⟨z4, z5⟩
          · exact Or.inl z4
          · exact Or.inr ⟨z4, by omega⟩
    · rw [wk]
      by_cases hq : o2 = o
      · subst hq; rw [pk_us]; exact ⟨0, rfl, by omega, fun _ => rfl⟩
      · rw [pk_un hq]; exact h7 o2 ho2
theorem carv_I (hO : SOKs tn tr od) (hC : CIn tn c dd m) (hW : WkI tn od c) : ∀ i, i ≤ tn 1 → ∃ j, CvI tn tr od dd c (fCarv tr (tn 4) T (-1) c i) i j := by
  have hn := hO.1
  unfold CntS at hn
  intro i
  induction i with
  | zero => intro _; exact ⟨0, (Int32.add_zero _).symm, Nat.le_refl _, ⟨rfl, rfl, rfl, rfl⟩, fun _ _ => Or.inl ⟨rfl, rfl, rfl⟩, by rw [cnt_0 (fun s _ => decide_eq_false (fun z => z rfl))]; exact Nat.le_refl _, fun _ _ => Or.inl rfl, hW⟩
  | succ i ih =>
    intro hi
    obtain ⟨j, ih⟩ := ih (by omega)
    have ihC := carv_C (T := T) hO hC i (by omega)
    show ∃ j, CvI tn tr od dd c (fCar1 tr (tn 4) T (-1) (fCarv tr (tn 4) T (-1) c i) i) (i + 1) j
    rcases car_st (T := T) (ab := -1) (i := i) hO ihC (by omega) (nI_nm1 (by omega)) with ⟨_, e⟩ | ⟨o, h, e⟩
    · rw [e]; exact ⟨j, ih.mono⟩
    · rw [e]
      obtain ⟨a1, a2, a3, _, _, a6⟩ := td_some hO ihC.1 (by have := ihC.2.1; omega) (by omega) h
      exact ih.work hO (by omega) a1 a2 a3 a6
/-! oil -/
theorem oil_I (hO : SOKs tn tr od) : ∀ i, i ≤ tn 4 → (fOilA tr T c i).2 = c.2 ∧ (fOilA tr T c i).1.1 = c.1.1 ∧ (fOilA tr T c i).1.2.1 = c.1.2.1 ∧ (fOilA tr T c i).1.2.2.1 = c.1.2.2.1 ∧ (fOilA tr T c i).1.2.2.2.1 = c.1.2.2.2.1 ∧ (fOilA tr T c i).1.2.2.2.2.1 = c.1.2.2.2.2.1 ∧ (fOilA tr T c i).1.2.2.2.2.2.1 = c.1.2.2.2.2.2.1 ∧
    ∀ k, (fOilA tr T c i).1.2.2.2.2.2.2 k = c.1.2.2.2.2.2.2 k ∨ ((fOilA tr T c i).1.2.2.2.2.2.2 k = 0 ∧ ∃ o, o < i ∧ od o 0 = 1 ∧ od o 1 = k) := by
  intro i
  induction i with
  | zero => intro _; exact ⟨rfl, rfl, rfl, rfl, rfl, rfl, rfl, fun _ => Or.inl rfl⟩
  | succ i ih =>
    intro hi
    obtain ⟨a1, a2, a3, a4, a5, a6, a7, a8⟩ := ih (by omega)
    have hs : ∀ k, (fOilA tr T c i).1.2.2.2.2.2.2 k = c.1.2.2.2.2.2.2 k ∨ ((fOilA tr T c i).1.2.2.2.2.2.2 k = 0 ∧ ∃ o, o < i + 1 ∧ od o 0 = 1 ∧ od o 1 = k) := fun k => by
      rcases a8 k with z | ⟨z, o, z1, z2⟩
      · exact Or.inl z
      · exact Or.inr ⟨z, o, by omega, z2⟩
    show (fOil1 tr T (fOilA tr T c i) i).2 = c.2 ∧ (fOil1 tr T (fOilA tr T c i) i).1.1 = c.1.1 ∧ (fOil1 tr T (fOilA tr T c i) i).1.2.1 = c.1.2.1 ∧ (fOil1 tr T (fOilA tr T c i) i).1.2.2.1 = c.1.2.2.1 ∧ (fOil1 tr T (fOilA tr T c i) i).1.2.2.2.1 = c.1.2.2.2.1 ∧ (fOil1 tr T (fOilA tr T c i) i).1.2.2.2.2.1 = c.1.2.2.2.2.1 ∧ (fOil1 tr T (fOilA tr T c i) i).1.2.2.2.2.2.1 = c.1.2.2.2.2.2.1 ∧
      ∀ k, (fOil1 tr T (fOilA tr T c i) i).1.2.2.2.2.2.2 k = c.1.2.2.2.2.2.2 k ∨ ((fOil1 tr T (fOilA tr T c i) i).1.2.2.2.2.2.2 k = 0 ∧ ∃ o, o < i + 1 ∧ od o 0 = 1 ∧ od o 1 = k)
    rcases oil_st (T := T) (c := fOilA tr T c i) hO (i := i) (by omega) with ⟨e, _⟩ | ⟨h0, _, e⟩
    · rw [e]; exact ⟨a1, a2, a3, a4, a5, a6, a7, hs⟩
    · rw [e]
      refine ⟨a1, a2, a3, a4, a5, a6, a7, fun k => ?_⟩
      by_cases hk : k = od i 1
      · subst hk; exact Or.inr ⟨pk_us, i, Nat.lt_succ_self _, h0, rfl⟩
      · have e9 : (uRu (fOilA tr T c i) (od i 1) 0).1.2.2.2.2.2.2 k = (fOilA tr T c i).1.2.2.2.2.2.2 k := pk_un hk
        rw [e9]; exact hs k
end
section
variable {tn : Nat → Nat} {tr : Nat → Nat → Int32} {od : Nat → Nat → Nat} {c c2 c3 e : CS} {dd m i j k o s w d n : Nat} {x y ab damp : Int32} {T : Nat → VS → Bool} {fv fb : Nat → Int32} {nS : Nat}
theorem bI_v {b : Bool} : ∃ a, a ≤ 1 ∧ bI b = nI a := by
  cases b
  · exact ⟨0, by omega, rfl⟩
  · exact ⟨1, by omega, rfl⟩
theorem aft_i (hk : k < 10) (hw : fv k = nI w) (hw2 : w ≤ 99) (hd : damp = nI d) (hd2 : d ≤ 9) (ho : tr 5 k = nI o) (ho2 : o ≤ 9) : ∃ w' b : Nat, b ≤ 1 ∧ fAft tr damp nS fv k = nI w' ∧ w' ≤ 99 ∧ ((w : Int) + d / 2 - o / 4 + b < 0 → w' = 0) ∧ ((99 : Int) < w + d / 2 - o / 4 + b → w' = 99) ∧ (0 ≤ (w : Int) + d / 2 - o / 4 + b → (w : Int) + d / 2 - o / 4 + b ≤ 99 → (w' : Int) = w + d / 2 - o / 4 + b) := by
  obtain ⟨b, hb, eb⟩ := bI_v (b := fWy fv nS k)
  have e1 : fAf0 tr damp nS fv k = nI w + (nI (d / 2) - nI (o / 4) + nI b) := by
    unfold fAf0
    rw [rat_nI hk (by decide), rat_nI hk (by decide), hw, hd, ho, eb, show (2 : Int32) = nI 2 from rfl, show (4 : Int32) = nI 4 from rfl, pk_div (by omega) (by omega) (by omega), pk_div (by omega) (by omega) (by omega)]
  have e2 : (nI (d / 2) - nI (o / 4)).toInt = ((d / 2 : Nat) : Int) - ((o / 4 : Nat) : Int) := pk_sub_toInt (by omega) (by omega)
  have eb2 : (nI b).toInt = b := nI_toInt (by omega)
  have ew2 : (nI w).toInt = w := nI_toInt (by omega)
  have e3 : (nI (d / 2) - nI (o / 4) + nI b).toInt = ((d / 2 : Nat) : Int) - ((o / 4 : Nat) : Int) + b := by rw [i_add (by rw [e2, eb2]; omega) (by rw [e2, eb2]; omega), e2, eb2]
  have e4 : (fAf0 tr damp nS fv k).toInt = w + (((d / 2 : Nat) : Int) - ((o / 4 : Nat) : Int) + b) := by rw [e1, i_add (by rw [e3, ew2]; omega) (by rw [e3, ew2]; omega), e3, ew2]
  by_cases h : fAf0 tr damp nS fv k < 0
  · have h1 := Int32.lt_iff_toInt_lt.mp h
    rw [e4, i_0] at h1
    exact ⟨0, b, hb, (aft_0 h).symm, by omega, fun _ => rfl, fun z => by omega, fun z _ => by omega⟩
  have h1 : ¬ (fAf0 tr damp nS fv k).toInt < 0 := fun z => h (Int32.lt_iff_toInt_lt.mpr (by rw [i_0]; exact z))
  rw [e4] at h1
  by_cases h2 : fAf0 tr damp nS fv k ≤ 99
  · have h3 := Int32.le_iff_toInt_le.mp h2
    rw [e4, i_99] at h3
    obtain ⟨p, hp, ep⟩ := nI_of2 (M := 99) (n := 99) (by decide) h h2
    have e5 : (p : Int) = w + (((d / 2 : Nat) : Int) - ((o / 4 : Nat) : Int) + b) := by rw [← e4, ep, nI_toInt (by omega)]
    exact ⟨p, b, hb, (aft_n h h2).symm.trans ep, hp, fun z => by omega, fun z => by omega, fun _ _ => by omega⟩
  · have h3 : ¬ (fAf0 tr damp nS fv k).toInt ≤ 99 := fun z => h2 (Int32.le_iff_toInt_le.mpr (by rw [i_99]; exact z))
    rw [e4] at h3
    exact ⟨99, b, hb, (aft_9 h2).symm, by omega, fun z => by omega, fun _ => rfl, fun z z2 => by omega⟩
theorem sumI_b {h : Nat → Int32} (hn : n ≤ 10) (H : ∀ k, k < n → -21 ≤ (h k).toInt ∧ (h k).toInt ≤ 31) : -21 * (n : Int) ≤ (sumI h n).toInt ∧ (sumI h n).toInt ≤ 31 * (n : Int) := by
  induction n with
  | zero => exact ⟨by show _ ≤ (0 : Int32).toInt; rw [i_0]; omega, by show (0 : Int32).toInt ≤ _; rw [i_0]; omega⟩
  | succ n ih =>
    have h1 := ih (by omega) (fun k hk => H k (by omega))
    have h2 := H n (by omega)
    have e : (sumI h (n + 1)).toInt = (sumI h n).toInt + (h n).toInt := i_add (by omega) (by omega)
    rw [e]; omega
theorem i_mul2 {b : Int32} (h1 : -1000 ≤ b.toInt) (h2 : b.toInt ≤ 1000) : (2 * b).toInt = 2 * b.toInt := by
  rw [Int32.toInt_mul, show (2 : Int32).toInt = 2 from by decide]; exact Int.bmod_eq_of_le (by omega) (by omega)
theorem fAbs_b {x : Int32} (h1 : -9 ≤ x.toInt) (h2 : x.toInt ≤ 9) : 0 ≤ (fAbs x).toInt ∧ (fAbs x).toInt ≤ 9 := by
  by_cases c : 0 ≤ x
  · rw [show fAbs x = x from if_pos c]
    have h3 := Int32.le_iff_toInt_le.mp c
    rw [i_0] at h3
    exact ⟨h3, h2⟩
  · rw [show fAbs x = 0 - x from if_neg c]
    have h3 := Int32.lt_iff_toInt_lt.mp (Int32.not_le.mp c)
    rw [i_0] at h3
    rw [i_sub (by rw [i_0]; omega) (by rw [i_0]; omega), i_0]
    omega
/-- what a stall pleases: within bounds, never more than its quality -/
theorem del_r {q B : Nat} {fq : Nat → Int32} (hO : SOKs tn tr od) (hk : k < 10) (hB : B < tn 3) (hb : fb k = (-1) ∨ ∃ b, b < tn 0 ∧ fb k = nI b) (hq : fq k = nI q) (hq2 : q ≤ 31) : -18 ≤ (fDel tr fb fq (nI B) (nI k)).toInt ∧ (fDel tr fb fq (nI B) (nI k)).toInt ≤ q := by
  have hn := hO.1
  unfold CntS at hn
  by_cases h : fb k = (-1)
  · rw [← del_no hk h, i_0]; omega
  · obtain ⟨b, hb, eb⟩ := hb.resolve_left h
    obtain ⟨g, _, eg, g1, _⟩ := hO.2.1 b hb
    obtain ⟨p, _, ep, p1, _⟩ := hO.2.2.2.2.1 B hB
    rw [← del_b hk (by omega) (by omega) eb rfl, hq, eg, ep]
    have b3 : (nI g - nI p).toInt = (g : Int) - p := pk_sub_toInt (by omega) (by omega)
    have b4 := fAbs_b (x := nI g - nI p) (by omega) (by omega)
    have b5 := i_mul2 (b := fAbs (nI g - nI p)) (by omega) (by omega)
    have b6 : (nI q).toInt = q := nI_toInt (by omega)
    rw [i_sub (by rw [b5, b6]; omega) (by rw [b5, b6]; omega), b5, b6]
    omega
theorem cost_r {fr : Nat → Int32} {i : Int32} : 0 ≤ (fCost fr i).toInt ∧ (fCost fr i).toInt ≤ 3 := by
  unfold fCost
  split
  · decide
  · decide
theorem StlS.b (h : StlS tn c k) : c.1.2.2.2.1 k = (-1) ∨ ∃ b, b < tn 0 ∧ c.1.2.2.2.1 k = nI b := h.1.imp (fun z => z.1) id
theorem pls_r {B : Nat} (hO : SOKs tn tr od) (hC : CIn tn c dd m) (hB : B < tn 3) : -210 ≤ (fPleas tr c.1.2.2.2.1 c.1.2.2.2.2.1 c.1.2.2.2.2.2.2 (nI B) (tn 2)).toInt ∧ (fPleas tr c.1.2.2.2.1 c.1.2.2.2.2.1 c.1.2.2.2.2.2.2 (nI B) (tn 2)).toInt ≤ 310 := by
  have hn := hO.1
  unfold CntS at hn
  have h1 := sumI_b (h := fPl1 tr c.1.2.2.2.1 c.1.2.2.2.2.1 c.1.2.2.2.2.2.2 (nI B)) (n := tn 2) (by omega) (fun k hk => by
    have hs := hC.2.2.2.2.2 k hk
    obtain ⟨q, _, _, hq, hq2, _⟩ := hs.2
    have d1 := del_r (tr := tr) (fb := c.1.2.2.2.1) (fq := c.1.2.2.2.2.1) hO (by omega) hB hs.b hq hq2
    have d2 := cost_r (fr := c.1.2.2.2.2.2.2) (i := nI k)
    unfold fPl1
    rw [i_sub (by omega) (by omega)]
    omega)
  unfold fPleas
  omega
/-- the coins of a day -/
theorem pay_I (hO : SOKs tn tr od) (hC : CIn tn c dd m) (hm : m + 31 < 10000000) : ∃ m2, m ≤ m2 ∧ m2 ≤ m + 31 ∧ fPay tr (tn 2) (tn 3) c = fCoi c (nI m2) ∧ nI m2 = c.1.2.2.1 + (if fPls0 tr (tn 2) (tn 3) c < 10 then 0 else fPls0 tr (tn 2) (tn 3) c / 10) := by
  have hn := hO.1
  unfold CntS at hn
  by_cases h : fPls0 tr (tn 2) (tn 3) c < 10
  · refine ⟨m, Nat.le_refl _, by omega, ?_, by rw [if_pos h, Int32.add_zero, hC.2.2.2.1]⟩
    rw [show fPay tr (tn 2) (tn 3) c = c from if_pos h, ← hC.2.2.2.1]; rfl
  · have h2 := Int32.le_iff_toInt_le.mp (Int32.not_lt.mp h)
    rw [show (10 : Int32).toInt = 10 from by decide] at h2
    have h1 : (fPls0 tr (tn 2) (tn 3) c).toInt ≤ 310 := by
      unfold fPls0
      rcases BI_x (fBsp_BI (tr := tr) (day := c.1.1) (n := tn 3) (by omega)) with z | ⟨B, hB, z⟩
      · rw [if_pos z, i_0]; omega
      · rw [if_neg (by rw [z]; exact nI_nm1 (by omega)), z]; exact (pls_r hO hC hB).2
    obtain ⟨p, hp, ep⟩ := nI_of (x := fPls0 tr (tn 2) (tn 3) c) (by rw [Int32.lt_iff_toInt_lt, i_0]; omega)
    rw [ep, nI_toInt hp] at h1
    have e9 : c.1.2.2.1 + fPls0 tr (tn 2) (tn 3) c / 10 = nI (m + p / 10) := by
      rw [ep, hC.2.2.2.1, show (10 : Int32) = nI 10 from rfl, pk_div (by omega) (by omega) (by omega), nI_add]
    refine ⟨m + p / 10, by omega, by omega, ?_, ?_⟩
    · rw [show fPay tr (tn 2) (tn 3) c = fCoi c (c.1.2.2.1 + fPls0 tr (tn 2) (tn 3) c / 10) from if_neg h, e9]
    · rw [if_neg h, e9]
/-- a day in all -/
def isM (c : CS) : Bool := !(decide (c.1.2.1 < 4) && decide (¬ c.1.1 - c.1.1 / 3 * 3 = 0))
def DayI (tn : Nat → Nat) (tr : Nat → Nat → Int32) (od : Nat → Nat → Nat) (dd m : Nat) (c e : CS) (j m2 : Nat) : Prop :=
  (CIn tn e (dd + 1) m2) ∧
  (WkI tn od e) ∧
  (m ≤ m2 ∧ m2 ≤ m + 31) ∧
  (e.2.1 = c.2.1 + nI j ∧ j ≤ tn 1) ∧
  (e.1.2.1 = c.1.2.1) ∧
  (cntB (fun s => decide (¬ e.1.2.2.2.1 s = c.1.2.2.2.1 s)) (tn 2) ≤ j) ∧
  (∀ o, o < tn 4 → e.2.2.1 o = c.2.2.1 o ∨ (od o 0 = 0 ∧ (∃ p, tr 3 (od o 3) = nI p ∧ 1 ≤ p ∧ p ≤ 4 ∧ dd % p = 0) ∧ ((e.2.2.1 o = c.2.2.1 o + tr 2 (od o 3) ∨ e.2.2.1 o = c.2.2.1 o + 2 * tr 2 (od o 3)) ∨ (e.2.2.1 o = 0 ∧ 0 < j)))) ∧
  (∀ k, k < tn 2 → ∃ r r', c.1.2.2.2.2.2.2 k = nI r ∧ r ≤ 20 ∧ e.1.2.2.2.2.2.2 k = nI r' ∧ ((r' = min 20 (r + (if isM c = true then 1 else 0))) ∨ ((∃ o, o < tn 4 ∧ od o 0 = 1 ∧ od o 1 = k) ∧ r' = (if isM c = true then 1 else 0)))) ∧
  (∀ k, k < tn 2 → ¬ e.1.2.2.2.1 k = c.1.2.2.2.1 k → (∃ b, b < tn 0 ∧ e.1.2.2.2.1 k = nI b) ∧ (∃ d w, c.1.2.1 = nI d ∧ d ≤ 9 ∧ e.1.2.2.2.2.2.1 k = nI w ∧ w ≤ d / 2 + 1) ∧ ∃ q, e.1.2.2.2.2.1 k = nI q ∧ 1 ≤ q ∧ q ≤ 31) ∧
  (j = 0 → ∀ k, k < tn 2 → ∃ q q' w w', c.1.2.2.2.2.1 k = nI q ∧ e.1.2.2.2.2.1 k = nI q' ∧ q ≤ 31 ∧ q' ≤ q ∧ q ≤ q' + 1 ∧ c.1.2.2.2.2.2.1 k = nI w ∧ e.1.2.2.2.2.2.1 k = nI w' ∧ w ≤ 99 ∧ w' ≤ w + 5 ∧ w ≤ w' + 5) ∧
  (e.1.2.2.1 = c.1.2.2.1 + (if (if fBsp tr c.1.1 (tn 3) = (-1) then 0 else fPleas tr e.1.2.2.2.1 e.1.2.2.2.2.1 e.1.2.2.2.2.2.2 (fBsp tr c.1.1 (tn 3)) (tn 2)) < 10 then 0 else (if fBsp tr c.1.1 (tn 3) = (-1) then 0 else fPleas tr e.1.2.2.2.1 e.1.2.2.2.2.1 e.1.2.2.2.2.2.2 (fBsp tr c.1.1 (tn 3)) (tn 2)) / 10))
end
section
variable {tn : Nat → Nat} {tr : Nat → Nat → Int32} {od : Nat → Nat → Nat} {c C O R : CS} {dd m i j k o s w d n : Nat} {T : Nat → VS → Bool}
theorem rust_I (hO : SOKs tn tr od) (hOO : CIn tn O dd m) (hr : ∀ k, k < tn 2 → ∃ r, c.1.2.2.2.2.2.2 k = nI r ∧ r ≤ 20) (h1 : O.1.1 = c.1.1) (h2 : O.1.2.1 = c.1.2.1) (h3 : ∀ k, O.1.2.2.2.2.2.2 k = c.1.2.2.2.2.2.2 k ∨ (O.1.2.2.2.2.2.2 k = 0 ∧ ∃ o, o < tn 4 ∧ od o 0 = 1 ∧ od o 1 = k)) (hR : fRsI O (tn 2) = R) :
    ∀ k, k < tn 2 → ∃ r r', c.1.2.2.2.2.2.2 k = nI r ∧ r ≤ 20 ∧ R.1.2.2.2.2.2.2 k = nI r' ∧ ((r' = min 20 (r + (if isM c = true then 1 else 0))) ∨ ((∃ o, o < tn 4 ∧ od o 0 = 1 ∧ od o 1 = k) ∧ r' = (if isM c = true then 1 else 0))) := by
  have hn := hO.1
  unfold CntS at hn
  intro k hk
  obtain ⟨r, er, r1⟩ := hr k hk
  by_cases hP : (O.1.2.1 < 4 ∧ ¬ O.1.1 - O.1.1 / 3 * 3 = 0)
  · have hM : isM c = false := by
      unfold isM
      rw [← h1, ← h2, decide_eq_true hP.1, decide_eq_true hP.2]; rfl
    have eR : R = O := by rw [← hR]; exact if_pos hP
    rw [eR, hM]
    rcases h3 k with z | ⟨z, hz⟩
    · exact ⟨r, r, er, r1, z.trans er, Or.inl (by show r = min 20 (r + 0); omega)⟩
    · exact ⟨r, 0, er, r1, z, Or.inr ⟨hz, rfl⟩⟩
  · have hM : isM c = true := by
      unfold isM
      rw [← h1, ← h2]
      by_cases q : O.1.2.1 < 4
      · rw [decide_eq_true q, decide_eq_false (fun z => hP ⟨q, z⟩)]; rfl
      · rw [decide_eq_false q]; rfl
    have eR : R = fRst O (fRuF O.1.2.2.2.2.2.2 (tn 2)) := by rw [← hR]; exact if_neg hP
    obtain ⟨ro, eo, o1, o2⟩ := ((ru_F (tn := tn) (f := O.1.2.2.2.2.2.2) (by omega) (fun k hk => by obtain ⟨_, _, _, r, _, _, _, _, a, b⟩ := hOO.2.2.2.2.2 k hk; exact ⟨r, a, b⟩) (tn 2) (Nat.le_refl _)) k).1 hk
    have eRk : R.1.2.2.2.2.2.2 k = nI (if ro < 20 then ro + 1 else 20) := by rw [eR]; exact o2
    rw [hM, if_pos rfl]
    rcases h3 k with z | ⟨z, hz⟩
    · have : ro = r := (nI_eq (by omega) (by omega)).mp (eo.symm.trans (z.trans er))
      subst this
      refine ⟨ro, _, er, r1, eRk, Or.inl ?_⟩
      split <;> omega
    · have : ro = 0 := (nI_eq (by omega) (by omega)).mp (eo.symm.trans z)
      subst this
      exact ⟨r, _, er, r1, eRk, Or.inr ⟨hz, rfl⟩⟩
theorem day_I (hO : SOKs tn tr od) (hC : CIn tn c dd m) (hW : WkI tn od c) (hm : m + 31 < 10000000) (hd : dd + 1 < 100000) : ∃ j m2, DayI tn tr od dd m c (fDay tr tn T (-1) c) j m2 := by
  have hn := hO.1
  unfold CntS at hn
  obtain ⟨j, hV⟩ := carv_I (T := T) hO hC hW (tn 1) (Nat.le_refl _)
  have hCC := carv_C (T := T) hO hC (tn 1) (Nat.le_refl _)
  generalize hCe : fCarv tr (tn 4) T (-1) c (tn 1) = C at hV hCC
  have hOO := oil_C (T := T) hO hCC (tn 4) (Nat.le_refl _)
  have hOI := oil_I (T := T) (c := C) hO (tn 4) (Nat.le_refl _)
  generalize hOe : fOilA tr T C (tn 4) = O at hOO hOI
  have hRR := rust_C hO hOO (tn 2) (Nat.le_refl _)
  have hRw := fRsI_w (c := O) (i := tn 2)
  generalize hRe : fRsI O (tn 2) = R at hRR hRw
  have hGG := gnaw_C hO hRR (tn 2) (Nat.le_refl _)
  have hGP := gn_P (tr := tr) (damp := R.1.2.1) (nS := tn 2) (fb := R.1.2.2.2.1) (fv := R.1.2.2.2.2.2.1) (x0 := (R.1.2.2.2.2.2.1, R.1.2.2.2.2.1)) (by omega) (tn 2) (Nat.le_refl _)
  obtain ⟨v1, v2, ⟨v3, v4, v5, v6⟩, v7, v8, v9, v10⟩ := hV
  obtain ⟨o1, o2, o3, o4, o5, o6, o7, o8⟩ := hOI
  obtain ⟨r1, r2, r3, r4, r5, r6, r7⟩ := hRw
  have hru := rust_I (c := c) hO hOO (fun k hk => by obtain ⟨_, _, _, r, _, _, _, _, a, b⟩ := hC.2.2.2.2.2 k hk; exact ⟨r, a, b⟩) (o2.trans v3) (o3.trans v4) (fun k => by have := o8 k; rw [v6] at this; exact this) hRe
  obtain ⟨m2, p1, p2, p3, p4⟩ := pay_I hO hGG hm
  have hE : fDay tr tn T (-1) c = fNext (fCoi (gnI tr (tn 2) R (tn 2)) (nI m2)) := by
    rw [dy_eq (T := T) (c := c) (c3 := O) (c4 := R) (c5 := gnI tr (tn 2) R (tn 2)) (by rw [hCe]; exact hOe.symm) hRe.symm rfl, p3]
  rw [hE]
  have bC : R.1.2.2.2.1 = C.1.2.2.2.1 := r5.trans o5
  have qC : R.1.2.2.2.2.1 = C.1.2.2.2.2.1 := r6.trans o6
  have wC : R.1.2.2.2.2.2.1 = C.1.2.2.2.2.2.1 := r1.trans o7
  have tC : R.2 = C.2 := r7.trans o1
  have dC : R.1.2.1 = c.1.2.1 := r2.trans (o3.trans v4)
  obtain ⟨d, ed, d9⟩ := hC.2.2.1
  refine ⟨j, m2, ⟨?_, ?_, ?_, ?_, ?_, ?_⟩, ?_, ⟨p1, p2⟩, ⟨?_, v2⟩, dC, ?_, ?_, hru, ?_, ?_, ?_⟩
  · show R.1.1 + 1 = nI (dd + 1)
    rw [hRR.1, nI_1]
  · exact hd
  · exact hGG.2.2.1
  · rfl
  · omega
  · exact hGG.2.2.2.2.2
  · intro o ho
    obtain ⟨w, e1, e2⟩ := v10 o ho
    exact ⟨w, by show R.2.2.1 o = _; rw [tC]; exact e1, e2⟩
  · show R.2.1 = _
    rw [tC]; exact v1
  · show cntB (fun s => decide (¬ R.1.2.2.2.1 s = c.1.2.2.2.1 s)) (tn 2) ≤ j
    rw [bC]; exact v8
  · intro o ho
    show R.2.2.1 o = c.2.2.1 o ∨ (od o 0 = 0 ∧ (∃ p, tr 3 (od o 3) = nI p ∧ 1 ≤ p ∧ p ≤ 4 ∧ dd % p = 0) ∧ ((R.2.2.1 o = c.2.2.1 o + tr 2 (od o 3) ∨ R.2.2.1 o = c.2.2.1 o + 2 * tr 2 (od o 3)) ∨ (R.2.2.1 o = 0 ∧ 0 < j)))
    rw [tC]
    rcases v9 o ho with z | ⟨z1, _, z3⟩
    · exact Or.inl z
    · exact Or.inr ⟨z1, z3⟩
  · intro k hk hne
    have hne : ¬ C.1.2.2.2.1 k = c.1.2.2.2.1 k := by rw [← bC]; exact hne
    obtain ⟨_, hb, ⟨q, eq, q1, q2⟩, ew⟩ := (v7 k hk).resolve_left (fun z => hne z.1)
    obtain ⟨a, ea, a1, a2⟩ := hO.2.2.2.1 k hk
    obtain ⟨w', b, hb1, e1, w1, w2, w3, w4⟩ := aft_i (tr := tr) (damp := R.1.2.1) (nS := tn 2) (fv := R.1.2.2.2.2.2.1) (k := k) (w := 0) (d := d) (o := a) (by omega) (by rw [wC]; exact ew) (by omega) (by rw [dC]; exact ed) d9 ea a2
    obtain ⟨g1, g2⟩ := (hGP k).1 hk
    have hlow : w' ≤ d / 2 + 1 := by
      rcases (by omega : (d : Int) / 2 - (a : Int) / 4 + (b : Int) < 0 ∨ 0 ≤ (d : Int) / 2 - (a : Int) / 4 + (b : Int)) with z | z
      · have := w2 (by omega); omega
      · have := w4 (by omega) (by omega); omega
    refine ⟨by show ∃ b, b < tn 0 ∧ R.1.2.2.2.1 k = nI b; rw [bC]; exact hb, ⟨d, w', ed, d9, g1.trans e1, hlow⟩, q, ?_, q1, q2⟩
    show (fGnF tr R.1.2.1 (tn 2) R.1.2.2.2.1 R.1.2.2.2.2.2.1 (R.1.2.2.2.2.2.1, R.1.2.2.2.2.1) (tn 2)).2 k = nI q
    rw [g2, if_neg (fun z => z.1 (by rw [e1]; exact nI_lt (b := 30) (by omega) (by decide)))]
    show R.1.2.2.2.2.1 k = _
    rw [qC]; exact eq
  · intro hj k hk
    obtain ⟨_, q, w, _, eq, q1, ew, w0, _⟩ := hC.2.2.2.2.2 k hk
    obtain ⟨_, eqC, ewC⟩ := (v7 k hk).resolve_right (fun z => by have := z.1; omega)
    obtain ⟨a, ea, a1, a2⟩ := hO.2.2.2.1 k hk
    obtain ⟨w', b, hb1, e1, w1, w2, w3, w4⟩ := aft_i (tr := tr) (damp := R.1.2.1) (nS := tn 2) (fv := R.1.2.2.2.2.2.1) (k := k) (w := w) (d := d) (o := a) (by omega) (by rw [wC]; exact ewC.trans ew) w0 (by rw [dC]; exact ed) d9 ea a2
    obtain ⟨g1, g2⟩ := (hGP k).1 hk
    have hq' : ∃ q', (fGnF tr R.1.2.1 (tn 2) R.1.2.2.2.1 R.1.2.2.2.2.2.1 (R.1.2.2.2.2.2.1, R.1.2.2.2.2.1) (tn 2)).2 k = nI q' ∧ q' ≤ q ∧ q ≤ q' + 1 := by
      rw [g2]
      have e9 : R.1.2.2.2.2.1 k = nI q := by rw [qC]; exact eqC.trans eq
      split
      · dsimp only
        rw [e9]
        cases q with
        | zero => exact ⟨0, eat_0, by omega, by omega⟩
        | succ q => exact ⟨q, eat_n (by omega), by omega, by omega⟩
      · exact ⟨q, e9, by omega, by omega⟩
    obtain ⟨q', h1, h2, h3⟩ := hq'
    refine ⟨q, q', w, w', eq, h1, q1, h2, h3, ew, g1.trans e1, w0, ?_⟩
    rcases (by omega : (w : Int) + (d : Int) / 2 - (a : Int) / 4 + (b : Int) < 0 ∨ 0 ≤ (w : Int) + (d : Int) / 2 - (a : Int) / 4 + (b : Int)) with z | z
    · have := w2 z; omega
    · rcases (by omega : 99 < (w : Int) + (d : Int) / 2 - (a : Int) / 4 + (b : Int) ∨ (w : Int) + (d : Int) / 2 - (a : Int) / 4 + (b : Int) ≤ 99) with z2 | z2
      · have := w3 z2; omega
      · have := w4 z z2; omega
  · show nI m2 = _
    rw [p4]
    have e1 : (gnI tr (tn 2) R (tn 2)).1.2.2.1 = c.1.2.2.1 := r4.trans (o4.trans v5)
    have e2 : (gnI tr (tn 2) R (tn 2)).1.1 = c.1.1 := r3.trans (o2.trans v3)
    rw [e1]
    unfold fPls0
    rw [e2]
    rfl
end
