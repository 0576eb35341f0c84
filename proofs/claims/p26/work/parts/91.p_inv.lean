/-! what a day does, as far as the law asks -/
def cntB (p : Nat → Bool) : Nat → Nat
  | 0 => 0
  | n + 1 => cntB p n + (if p n = true then 1 else 0)
theorem cnt_le {p p2 : Nat → Bool} {n : Nat} (h : ∀ s, s < n → p2 s = true → p s = true) : cntB p2 n ≤ cntB p n := by
  induction n with
  | zero => exact Nat.le_refl _
  | succ n ih =>
    have h1 := ih (fun s hs => h s (by omega))
    have h2 := h n (by omega)
    show cntB p2 n + (if p2 n = true then 1 else 0) ≤ cntB p n + (if p n = true then 1 else 0)
    by_cases q : p2 n = true
    · rw [if_pos q, if_pos (h2 q)]; omega
    · rw [if_neg q]; omega
theorem cnt_one {p p2 : Nat → Bool} {s0 n : Nat} (h : ∀ s, s < n → s ≠ s0 → p2 s = true → p s = true) : cntB p2 n ≤ cntB p n + (if s0 < n then 1 else 0) := by
  induction n with
  | zero => exact Nat.zero_le _
  | succ n ih =>
    have h1 := ih (fun s hs => h s (by omega))
    have h2 := h n (by omega)
    show cntB p2 n + (if p2 n = true then 1 else 0) ≤ cntB p n + (if p n = true then 1 else 0) + (if s0 < n + 1 then 1 else 0)
    by_cases e : n = s0
    · subst e
      rw [if_neg (Nat.lt_irrefl n)] at h1
      rw [if_pos (Nat.lt_succ_self n)]
      have : (if p2 n = true then 1 else 0) ≤ 1 := by split <;> omega
      omega
    · have h3 : (if p2 n = true then 1 else 0) ≤ (if p n = true then 1 else 0) := by
        by_cases q : p2 n = true
        · rw [if_pos q, if_pos (h2 e q)]; omega
        · rw [if_neg q]; omega
      have h4 : (if s0 < n then 1 else 0) ≤ (if s0 < n + 1 then 1 else 0) := by
        by_cases q : s0 < n
        · rw [if_pos q, if_pos (by omega)]; omega
        · rw [if_neg q]; omega
      omega
theorem cnt_0 {p : Nat → Bool} {n : Nat} (h : ∀ s, s < n → p s = false) : cntB p n = 0 := by
  induction n with
  | zero => rfl
  | succ n ih =>
    show cntB p n + (if p n = true then 1 else 0) = 0
    rw [ih (fun s hs => h s (by omega)), h n (by omega)]; rfl
section
variable {tn : Nat → Nat} {tr : Nat → Nat → Int32} {od : Nat → Nat → Nat} {c c2 c3 e : CS} {dd m i j k o s : Nat} {v x y w ab : Int32} {T : Nat → VS → Bool}
/-- the work of orders -/
def WkI (tn : Nat → Nat) (od : Nat → Nat → Nat) (c : CS) : Prop := ∀ o, o < tn 4 → ∃ w, c.2.2.1 o = nI w ∧ w < 200 ∧ (od o 0 = 1 → w = 0)
/-- what has been carved by i carvers of a day, j times to the end -/
def CvI (tn : Nat → Nat) (tr : Nat → Nat → Int32) (od : Nat → Nat → Nat) (dd : Nat) (c c2 : CS) (i j : Nat) : Prop :=
  c2.2.1 = c.2.1 + nI j ∧ j ≤ i ∧ (c2.1.1 = c.1.1 ∧ c2.1.2.1 = c.1.2.1 ∧ c2.1.2.2.1 = c.1.2.2.1 ∧ c2.1.2.2.2.2.2.2 = c.1.2.2.2.2.2.2) ∧
  (∀ s, s < tn 2 → (c2.1.2.2.2.1 s = c.1.2.2.2.1 s ∧ c2.1.2.2.2.2.1 s = c.1.2.2.2.2.1 s ∧ c2.1.2.2.2.2.2.1 s = c.1.2.2.2.2.2.1 s) ∨ (0 < j ∧ (∃ b, b < tn 0 ∧ c2.1.2.2.2.1 s = nI b) ∧ (∃ q, c2.1.2.2.2.2.1 s = nI q ∧ 1 ≤ q ∧ q ≤ 31) ∧ c2.1.2.2.2.2.2.1 s = 0)) ∧
  cntB (fun s => decide (¬ c2.1.2.2.2.1 s = c.1.2.2.2.1 s)) (tn 2) ≤ j ∧
  (∀ o, o < tn 4 → c2.2.2.1 o = c.2.2.1 o ∨ (od o 0 = 0 ∧ od o 3 < i ∧ (∃ p, tr 3 (od o 3) = nI p ∧ 1 ≤ p ∧ p ≤ 4 ∧ dd % p = 0) ∧ ((c2.2.2.1 o = c.2.2.1 o + tr 2 (od o 3) ∨ c2.2.2.1 o = c.2.2.1 o + 2 * tr 2 (od o 3)) ∨ (c2.2.2.1 o = 0 ∧ 0 < j)))) ∧ WkI tn od c2
theorem CvI.mono (h : CvI tn tr od dd c c2 i j) : CvI tn tr od dd c c2 (i + 1) j := by
  obtain ⟨h1, h2, h3, h4, h5, h6, h7⟩ := h
  refine ⟨h1, by omega, h3, h4, h5, fun o ho => ?_, h7⟩
  rcases h6 o ho with z | ⟨z1, z2, z3⟩
  · exact Or.inl z
  · exact Or.inr ⟨z1, by omega, z3⟩
theorem CvI.work (hO : SOKs tn tr od) (h : CvI tn tr od dd c c2 i j) (hi : i < tn 1) (ho : o < tn 4) (h0 : od o 0 = 0) (h3 : od o 3 = i) (hp : ∃ p, tr 3 i = nI p ∧ 1 ≤ p ∧ p ≤ 4 ∧ dd % p = 0) : ∃ j2, CvI tn tr od dd c (fWork tr c2 (nI o) (nI i)) (i + 1) j2 := by
  have hn := hO.1
  unfold CntS at hn
  have hoo := hO.2.2.2.2.2 o ho
  have hob := hoo.1
  obtain ⟨h1, h2, h3', h4, h5, h6, h7⟩ := h
  have hwo : c2.2.2.1 o = c.2.2.1 o := by
    rcases h6 o ho with z | ⟨_, z2, _⟩
    · exact z
    · omega
  subst h3
  obtain ⟨a, _, ea, a1, a2, _⟩ := hO.2.2.1 (od o 3) hi
  obtain ⟨w, ew, w1, w2⟩ := h7 o ho
  rcases fWork_st (c := c2) hO ho h0 hi with ⟨e, hlt⟩ | ⟨q, q1, q2, e⟩
  · refine ⟨j, ?_⟩
    rw [e]
    have eg := fGain_nI (tr := tr) hoo h0 (by omega) (k := od o 3) (by omega)
    obtain ⟨b, eb, b1, b2⟩ := hO.2.2.2.1 (od o 1) hob.2.1
    obtain ⟨_, f, _, _, ef, f1, f2⟩ := hO.2.1 (od o 2) hob.2.2.1
    have en : fNeed tr (nI o) = nI (b * f * 2) := by
      rw [fNeed_nI hoo h0 (by omega) (by omega) (by omega), eb, ef, pk_mul]; exact pk_mul _ 2
    obtain ⟨g, eg2, g1, g2, g3⟩ : ∃ g, fGain tr (nI o) (nI (od o 3)) = nI g ∧ 1 ≤ g ∧ g ≤ 18 ∧ (fGain tr (nI o) (nI (od o 3)) = tr 2 (od o 3) ∨ fGain tr (nI o) (nI (od o 3)) = 2 * tr 2 (od o 3)) := by
      rw [eg]
      by_cases hl : tr 4 (od o 3) = nI (od o 2)
      · rw [if_pos hl]; exact ⟨2 * a, by rw [ea]; exact pk_mul 2 a, by omega, by omega, Or.inr rfl⟩
      · rw [if_neg hl]; exact ⟨a, ea, by omega, by omega, Or.inl rfl⟩
    have hbf : b * f * 2 ≤ 162 := by
      have := Nat.mul_le_mul b2 f2
      omega
    rw [eg2, ew, nI_add, en] at hlt
    have hlt2 := (nI_ltI (a := w + g) (b := b * f * 2) (by omega) (by omega)).mp hlt
    refine ⟨h1, by omega, h3', h4, h5, fun o2 ho2 => ?_, fun o2 ho2 => ?_⟩
    · by_cases hq : o2 = o
      · subst hq
        refine Or.inr ⟨h0, Nat.lt_succ_self _, hp, Or.inl ?_⟩
        have e9 : (uWk c2 o2 (c2.2.2.1 o2 + fGain tr (nI o2) (nI (od o2 3)))).2.2.1 o2 = c2.2.2.1 o2 + fGain tr (nI o2) (nI (od o2 3)) := pk_us
        rw [e9, hwo]
        rcases g3 with z | z
        · exact Or.inl (by rw [z])
        · exact Or.inr (by rw [z])
      · have e9 : (uWk c2 o (c2.2.2.1 o + fGain tr (nI o) (nI (od o 3)))).2.2.1 o2 = c2.2.2.1 o2 := pk_un hq
        rw [e9]
        rcases h6 o2 ho2 with z | ⟨z1, z2, z3⟩
        · exact Or.inl z
        · exact Or.inr ⟨z1, by omega, z3⟩
    · by_cases hq : o2 = o
      · subst hq
        have e9 : (uWk c2 o2 (c2.2.2.1 o2 + fGain tr (nI o2) (nI (od o2 3)))).2.2.1 o2 = c2.2.2.1 o2 + fGain tr (nI o2) (nI (od o2 3)) := pk_us
        exact ⟨w + g, by rw [e9, ew, eg2, nI_add], by omega, fun z => by omega⟩
      · have e9 : (uWk c2 o (c2.2.2.1 o + fGain tr (nI o) (nI (od o 3)))).2.2.1 o2 = c2.2.2.1 o2 := pk_un hq
        rw [e9]; exact h7 o2 ho2
  · refine ⟨j + 1, ?_⟩
    rw [e]
    have wk : ∀ o2, (uAll (uCb (uWo (uQu (uBe (uWk c2 o 0) (od o 1) (nI (od o 2))) (od o 1) (nI q)) (od o 1) 0) (od o 3) (c2.2.2.2 (od o 3) + 1)) (c2.2.1 + 1)).2.2.1 o2 = upd c2.2.2.1 o 0 o2 := fun _ => rfl
    refine ⟨?_, by omega, h3', fun s hs => ?_, ?_, fun o2 ho2 => ?_, fun o2 ho2 => ?_⟩
    · show c2.2.1 + 1 = c.2.1 + nI (j + 1)
      rw [h1, nI_succ, Int32.add_assoc]
    · show (upd c2.1.2.2.2.1 (od o 1) (nI (od o 2)) s = c.1.2.2.2.1 s ∧ upd c2.1.2.2.2.2.1 (od o 1) (nI q) s = c.1.2.2.2.2.1 s ∧ upd c2.1.2.2.2.2.2.1 (od o 1) 0 s = c.1.2.2.2.2.2.1 s) ∨ (0 < j + 1 ∧ (∃ b, b < tn 0 ∧ upd c2.1.2.2.2.1 (od o 1) (nI (od o 2)) s = nI b) ∧ (∃ q', upd c2.1.2.2.2.2.1 (od o 1) (nI q) s = nI q' ∧ 1 ≤ q' ∧ q' ≤ 31) ∧ upd c2.1.2.2.2.2.2.1 (od o 1) 0 s = 0)
      by_cases hq : s = od o 1
      · subst hq
        rw [pk_us, pk_us, pk_us]
        exact Or.inr ⟨by omega, ⟨od o 2, hob.2.2.1, rfl⟩, ⟨q, rfl, q1, q2⟩, rfl⟩
      · rw [pk_un hq, pk_un hq, pk_un hq]
        rcases h4 s hs with z | ⟨z1, z2⟩
        · exact Or.inl z
        · exact Or.inr ⟨by omega, z2⟩
    · have h9 := cnt_one (p := fun s => decide (¬ c2.1.2.2.2.1 s = c.1.2.2.2.1 s)) (p2 := fun s => decide (¬ upd c2.1.2.2.2.1 (od o 1) (nI (od o 2)) s = c.1.2.2.2.1 s)) (s0 := od o 1) (n := tn 2) (fun s _ hs hp => by rw [pk_un hs] at hp; exact hp)
      rw [if_pos hob.2.1] at h9
      exact Nat.le_trans h9 (by omega)
    · rw [wk]
      by_cases hq : o2 = o
      · subst hq
        rw [pk_us]
        exact Or.inr ⟨h0, Nat.lt_succ_self _, hp, Or.inr ⟨rfl, by omega⟩⟩
      · rw [pk_un hq]
        rcases h6 o2 ho2 with z | ⟨z1, z2, z3, z4⟩
        · exact Or.inl z
        · refine Or.inr ⟨z1, by omega, z3, ?_⟩
          rcases z4 with z4 | ⟨z4, z5⟩
          · exact Or.inl z4
          · exact Or.inr ⟨z4, by omega⟩
    · rw [wk]
      by_cases hq : o2 = o
      · subst hq; rw [pk_us]; exact ⟨0, rfl, by omega, fun _ => rfl⟩
      · rw [pk_un hq]; exact h7 o2 ho2
theorem carv_I (hO : SOKs tn tr od) (hC : CIn tn c dd m) (hW : WkI tn od c) : ∀ i, i ≤ tn 1 → ∃ j, CvI tn tr od dd c (fCarv tr (tn 4) T (-1) c i) i j := by
  have hn := hO.1
  unfold CntS at hn
  intro i
  induction i with
  | zero => intro _; exact ⟨0, (Int32.add_zero _).symm, Nat.le_refl _, ⟨rfl, rfl, rfl, rfl⟩, fun _ _ => Or.inl ⟨rfl, rfl, rfl⟩, by rw [cnt_0 (fun s _ => decide_eq_false (fun z => z rfl))]; exact Nat.le_refl _, fun _ _ => Or.inl rfl, hW⟩
  | succ i ih =>
    intro hi
    obtain ⟨j, ih⟩ := ih (by omega)
    have ihC := carv_C (T := T) hO hC i (by omega)
    show ∃ j, CvI tn tr od dd c (fCar1 tr (tn 4) T (-1) (fCarv tr (tn 4) T (-1) c i) i) (i + 1) j
    rcases car_st (T := T) (ab := -1) (i := i) hO ihC (by omega) (nI_nm1 (by omega)) with ⟨_, e⟩ | ⟨o, h, e⟩
    · rw [e]; exact ⟨j, ih.mono⟩
    · rw [e]
      obtain ⟨a1, a2, a3, _, _, a6⟩ := td_some hO ihC.1 (by have := ihC.2.1; omega) (by omega) h
      exact ih.work hO (by omega) a1 a2 a3 a6
/-! oil -/
theorem oil_I (hO : SOKs tn tr od) : ∀ i, i ≤ tn 4 → (fOilA tr T c i).2 = c.2 ∧ (fOilA tr T c i).1.1 = c.1.1 ∧ (fOilA tr T c i).1.2.1 = c.1.2.1 ∧ (fOilA tr T c i).1.2.2.1 = c.1.2.2.1 ∧ (fOilA tr T c i).1.2.2.2.1 = c.1.2.2.2.1 ∧ (fOilA tr T c i).1.2.2.2.2.1 = c.1.2.2.2.2.1 ∧ (fOilA tr T c i).1.2.2.2.2.2.1 = c.1.2.2.2.2.2.1 ∧
    ∀ k, (fOilA tr T c i).1.2.2.2.2.2.2 k = c.1.2.2.2.2.2.2 k ∨ ((fOilA tr T c i).1.2.2.2.2.2.2 k = 0 ∧ ∃ o, o < i ∧ od o 0 = 1 ∧ od o 1 = k) := by
  intro i
  induction i with
  | zero => intro _; exact ⟨rfl, rfl, rfl, rfl, rfl, rfl, rfl, fun _ => Or.inl rfl⟩
  | succ i ih =>
    intro hi
    obtain ⟨a1, a2, a3, a4, a5, a6, a7, a8⟩ := ih (by omega)
    have hs : ∀ k, (fOilA tr T c i).1.2.2.2.2.2.2 k = c.1.2.2.2.2.2.2 k ∨ ((fOilA tr T c i).1.2.2.2.2.2.2 k = 0 ∧ ∃ o, o < i + 1 ∧ od o 0 = 1 ∧ od o 1 = k) := fun k => by
      rcases a8 k with z | ⟨z, o, z1, z2⟩
      · exact Or.inl z
      · exact Or.inr ⟨z, o, by omega, z2⟩
    show (fOil1 tr T (fOilA tr T c i) i).2 = c.2 ∧ (fOil1 tr T (fOilA tr T c i) i).1.1 = c.1.1 ∧ (fOil1 tr T (fOilA tr T c i) i).1.2.1 = c.1.2.1 ∧ (fOil1 tr T (fOilA tr T c i) i).1.2.2.1 = c.1.2.2.1 ∧ (fOil1 tr T (fOilA tr T c i) i).1.2.2.2.1 = c.1.2.2.2.1 ∧ (fOil1 tr T (fOilA tr T c i) i).1.2.2.2.2.1 = c.1.2.2.2.2.1 ∧ (fOil1 tr T (fOilA tr T c i) i).1.2.2.2.2.2.1 = c.1.2.2.2.2.2.1 ∧
      ∀ k, (fOil1 tr T (fOilA tr T c i) i).1.2.2.2.2.2.2 k = c.1.2.2.2.2.2.2 k ∨ ((fOil1 tr T (fOilA tr T c i) i).1.2.2.2.2.2.2 k = 0 ∧ ∃ o, o < i + 1 ∧ od o 0 = 1 ∧ od o 1 = k)
    rcases oil_st (T := T) (c := fOilA tr T c i) hO (i := i) (by omega) with ⟨e, _⟩ | ⟨h0, _, e⟩
    · rw [e]; exact ⟨a1, a2, a3, a4, a5, a6, a7, hs⟩
    · rw [e]
      refine ⟨a1, a2, a3, a4, a5, a6, a7, fun k => ?_⟩
      by_cases hk : k = od i 1
      · subst hk; exact Or.inr ⟨pk_us, i, Nat.lt_succ_self _, h0, rfl⟩
      · have e9 : (uRu (fOilA tr T c i) (od i 1) 0).1.2.2.2.2.2.2 k = (fOilA tr T c i).1.2.2.2.2.2.2 k := pk_un hk
        rw [e9]; exact hs k
end
