/-! what the law does ahead of its checks -/
def AcI (tn : Nat → Nat) (od : Nat → Nat → Nat) (dd m : Nat) (c2 : CS) : Prop := ∃ dd2 m2, dd ≤ dd2 ∧ dd2 ≤ dd + 30 ∧ m2 ≤ m + 930 ∧ CIn tn c2 dd2 m2 ∧ WkI tn od c2
section
variable {tn : Nat → Nat} {tr : Nat → Nat → Int32} {od : Nat → Nat → Nat} {c : CS} {dd m k d : Nat} {T : Nat → VS → Bool} {x : Int32}
theorem le0_lt1 (h : x ≤ 0) : x < (1 : Int32) := by
  have := Int32.le_iff_toInt_le.mp h
  rw [Int32.lt_iff_toInt_lt]
  rw [i_0] at this; rw [i_1]; omega
theorem nle0_1 (h : ¬ x ≤ 0) : (1 : Int32) ≤ x := by
  have h1 : ¬ x.toInt ≤ (0 : Int32).toInt := fun q => h (Int32.le_iff_toInt_le.mpr q)
  rw [i_0] at h1
  rw [Int32.le_iff_toInt_le, i_1]; omega
theorem nle0_m {m : Nat} (hm : m < 10000000) (h : ¬ nI m ≤ 0) : ∃ q, m = q + 1 := by
  cases m with
  | zero => exact absurd (show nI 0 ≤ 0 by decide) h
  | succ q => exact ⟨q, rfl⟩
theorem CIn_at (hC : CIn tn c dd m) (hk : k < tn 2) : StlS tn c k := hC.2.2.2.2.2 k hk
theorem fOld_nI (hk : k < 10) : fOld c k = uRu c k 0 := by unfold fOld uRu; rw [rput_nI hk (by decide)]
theorem fSmk_nI (hk : k < 10) : simM tr od (fSmk c k) = simM tr od (uWo c k (c.1.2.2.2.2.2.1 k / 2)) := by
  unfold fSmk; rw [rput_nI hk (by decide), rat_nI hk (by decide)]; rfl
theorem fStp_nI (hk : k < 10) : simM tr od (fStp c k) = simM tr od (uQu (uBe c k (-1)) k 0) := by
  unfold fStp; rw [rput_nI hk (by decide), rput_nI hk (by decide)]; rfl
theorem bare_id (hb : c.1.2.2.2.1 k = (-1)) : simM tr od c = simM tr od (uQu (uBe c k (-1)) k ((uBe c k (-1)).1.2.2.2.2.1 k)) := by
  have e1 : upd c.1.2.2.2.1 k (-1) = c.1.2.2.2.1 := by rw [← hb]; exact upd_id
  have e2 : upd c.1.2.2.2.2.1 k (c.1.2.2.2.2.1 k) = c.1.2.2.2.2.1 := upd_id
  show _ = simM tr od ((c.1.1, c.1.2.1, c.1.2.2.1, upd c.1.2.2.2.1 k (-1), upd c.1.2.2.2.2.1 k (c.1.2.2.2.2.1 k), c.1.2.2.2.2.2), c.2)
  rw [e1, e2]
theorem ac_0 (hC : CIn tn c dd m) (hW : WkI tn od c) : AcI tn od dd m c := ⟨dd, m, by omega, by omega, by omega, hC, hW⟩
theorem ac_dmp (hC : CIn tn c dd m) (hW : WkI tn od c) (hd : d < 10) : AcI tn od dd m (fDmp c (nI d)) :=
  ⟨dd, m, by omega, by omega, by omega, ⟨hC.1, hC.2.1, ⟨d, rfl, by omega⟩, hC.2.2.2.1, hC.2.2.2.2.1, hC.2.2.2.2.2⟩, hW⟩
theorem ac_oil (hC : CIn tn c dd m) (hW : WkI tn od c) (hk : k < 10) : AcI tn od dd m (fOld c k) := by
  rw [fOld_nI hk]
  exact ⟨dd, m, by omega, by omega, by omega, ru_C hC ⟨0, rfl, by omega⟩, hW⟩
theorem ac_smk (hC : CIn tn c dd m) (hW : WkI tn od c) (hk : k < tn 2) (hk2 : k < 10) (h : ¬ c.1.2.2.1 ≤ 0) : AcI tn od dd m (fSmk c k) := by
  obtain ⟨q, hq⟩ := nle0_m hC.2.2.2.2.1 (by rw [← hC.2.2.2.1]; exact h)
  refine ⟨dd, q, by omega, by omega, by omega, ⟨hC.1, hC.2.1, hC.2.2.1, ?_, by have := hC.2.2.2.2.1; omega, fun j hj => ?_⟩, hW⟩
  · show c.1.2.2.1 - 1 = nI q
    rw [hC.2.2.2.1, hq]; exact nI_pred q
  · obtain ⟨h1, q1, w1, r1, a1, a2, a3, a4, a5, a6⟩ := hC.2.2.2.2.2 j hj
    by_cases e : j = k
    · subst e
      refine ⟨h1, q1, w1 / 2, r1, a1, a2, ?_, by omega, a5, a6⟩
      show rput 10 c.1.2.2.2.2.2.1 (nI j) (rat 10 c.1.2.2.2.2.2.1 (nI j) / 2) j = nI (w1 / 2)
      rw [rput_nI hk2 (by decide), pk_us, rat_nI hk2 (by decide), a3]
      exact nI_div (m := 2) (by omega) (by omega)
    · refine ⟨h1, q1, w1, r1, a1, a2, ?_, a4, a5, a6⟩
      show rput 10 c.1.2.2.2.2.2.1 (nI k) (rat 10 c.1.2.2.2.2.2.1 (nI k) / 2) j = nI w1
      rw [rput_nI hk2 (by decide), pk_un e, a3]
theorem ac_stp (hC : CIn tn c dd m) (hW : WkI tn od c) (hk : k < tn 2) (hk2 : k < 10) : AcI tn od dd m (fStp c k) := by
  refine ⟨dd, m, by omega, by omega, by omega, ⟨hC.1, hC.2.1, hC.2.2.1, hC.2.2.2.1, hC.2.2.2.2.1, fun j hj => ?_⟩, hW⟩
  obtain ⟨h1, q1, w1, r1, a1, a2, a3, a4, a5, a6⟩ := hC.2.2.2.2.2 j hj
  have e1 : (fStp c k).1.2.2.2.1 = upd c.1.2.2.2.1 k (-1) := by unfold fStp; rw [rput_nI hk2 (by decide)]
  have e2 : (fStp c k).1.2.2.2.2.1 = upd c.1.2.2.2.2.1 k 0 := by unfold fStp; rw [rput_nI hk2 (by decide), rput_nI hk2 (by decide)]
  by_cases e : j = k
  · subst e
    refine ⟨Or.inl ⟨by rw [e1]; exact pk_us, by rw [e2]; exact pk_us⟩, 0, w1, r1, by rw [e2]; exact pk_us, by omega, a3, a4, a5, a6⟩
  · refine ⟨?_, q1, w1, r1, by rw [e2, pk_un e]; exact a1, a2, a3, a4, a5, a6⟩
    rw [e1, e2, pk_un e, pk_un e]; exact h1
theorem ac_live (hO : SOKs tn tr od) (hC : CIn tn c dd m) (hW : WkI tn od c) (hd : d ≤ 30) (h1 : m + 930 < 10000000) (h2 : dd + 30 < 100000) : AcI tn od dd m (fLive tr tn T (-1) c d) := by
  obtain ⟨m2, a1, a2, a3, a4⟩ := live_C (T := T) hO hC hW d (by omega) (by omega)
  exact ⟨dd + d, m2, by omega, by omega, by omega, a3, a4⟩
end
