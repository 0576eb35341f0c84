/-! lines, lists: the recogniser -/
theorem rVal_56 {sq : Nat → Nat} {n t : Nat} (h1 : ¬ sq t = 12) (h2 : ¬ sq t = 3) (h3 : ¬ (36 ≤ sq t ∧ sq t ≤ 37)) (h4 : ¬ sq t = 41) (h5 : ¬ (38 ≤ sq t ∧ sq t ≤ 40)) (h6 : ¬ (47 ≤ sq t ∧ sq t ≤ 48)) (h7 : ¬ sq t = 5 ∨ n = 0) : rVal sq n t = (false, t) := by
  by_cases c : sq t = 5
  · exact rVal_5z c (h7.resolve_left (fun h => h c))
  · exact rVal_6 h1 h2 h3 h4 h5 h6 c
def rE2 (sq : Nat → Nat) (a b : Nat) : RF := fun t => rThen (rEat sq a t) (rEat sq b)
def rOpt (sq : Nat → Nat) (a : Nat) (f : RF) : RF := fun t => if sq t = a then f (t + 1) else (true, t)
def rLine (sq : Nat → Nat) (t : Nat) : Bool × Nat :=
  if sq t = 20 then rThen (rE2 sq 20 2 t) (fun t => rThen (rE2 sq 21 3 t) (rE2 sq 22 3))
  else if sq t = 23 then rThen (rE2 sq 23 2 t) (fun t => rThen (rE2 sq 24 3 t) (fun t => rThen (rE2 sq 25 3 t) (rOpt sq 26 (rEat sq 2))))
  else if sq t = 27 then rThen (rE2 sq 27 2 t) (rE2 sq 28 3)
  else if sq t = 29 then rThen (rE2 sq 29 2 t) (fun t => rThen (rE2 sq 21 3 t) (rE2 sq 30 3))
  else if sq t = 31 then rThen (rE2 sq 31 2 t) (fun t => rThen (rE2 sq 32 2 t) (fun t => rThen (rE2 sq 33 2 t) (rOpt sq 35 (rTes sq 8))))
  else rThen (rE2 sq 34 2 t) (rOpt sq 35 (rTes sq 8))
def rLst (sq : Nat → Nat) : Nat → RF
  | 0, t => (false, t)
  | m + 1, t => if sq t = 0 then (true, t) else rThen (rThen (rLine sq t) (rEat sq 9)) (rLst sq m)
section
variable {sq : Nat → Nat} {K n t : Nat} {kF : Nat → Int32} {f : RF}
theorem rOpt_t {a : Nat} (h : sq t = a) : rOpt sq a f t = f (t + 1) := if_pos h
theorem rOpt_f {a : Nat} (h : ¬ sq t = a) : rOpt sq a f t = (true, t) := if_neg h
theorem rLine_1 (h : sq t = 20) : rLine sq t = rThen (rE2 sq 20 2 t) (fun t => rThen (rE2 sq 21 3 t) (rE2 sq 22 3)) := if_pos h
theorem rLine_2 (h : sq t = 23) : rLine sq t = rThen (rE2 sq 23 2 t) (fun t => rThen (rE2 sq 24 3 t) (fun t => rThen (rE2 sq 25 3 t) (rOpt sq 26 (rEat sq 2)))) := by unfold rLine; rw [if_neg (by omega), if_pos h]
theorem rLine_3 (h : sq t = 27) : rLine sq t = rThen (rE2 sq 27 2 t) (rE2 sq 28 3) := by unfold rLine; rw [if_neg (by omega), if_neg (by omega), if_pos h]
theorem rLine_4 (h : sq t = 29) : rLine sq t = rThen (rE2 sq 29 2 t) (fun t => rThen (rE2 sq 21 3 t) (rE2 sq 30 3)) := by unfold rLine; rw [if_neg (by omega), if_neg (by omega), if_neg (by omega), if_pos h]
theorem rLine_5 (h : sq t = 31) : rLine sq t = rThen (rE2 sq 31 2 t) (fun t => rThen (rE2 sq 32 2 t) (fun t => rThen (rE2 sq 33 2 t) (rOpt sq 35 (rTes sq 8)))) := by unfold rLine; rw [if_neg (by omega), if_neg (by omega), if_neg (by omega), if_neg (by omega), if_pos h]
theorem rLine_6 (h : ¬ sq t = 20 ∧ ¬ sq t = 23 ∧ ¬ sq t = 27 ∧ ¬ sq t = 29 ∧ ¬ sq t = 31) : rLine sq t = rThen (rE2 sq 34 2 t) (rOpt sq 35 (rTes sq 8)) := by unfold rLine; rw [if_neg h.1, if_neg h.2.1, if_neg h.2.2.1, if_neg h.2.2.2.1, if_neg h.2.2.2.2]
theorem rOk_opt (hT : TKO sq K kF) {a : Nat} (ha : 2 ≤ a) (hf : rOk K f) : rOk K (rOpt sq a f) := by
  intro t ht
  unfold rOpt; split
  · have h1 := tko_s hT ht (by omega); have h2 := hf (t + 1) h1; exact ⟨by omega, h2.2⟩
  · exact ⟨Nat.le_refl _, ht⟩
theorem rE2_ok (hT : TKO sq K kF) {a b : Nat} (ha : 2 ≤ a) (hb : 2 ≤ b) : rOk K (rE2 sq a b) := rOk_thenF (rOk_eat hT ha) (rOk_eat hT hb)
theorem rLine_ok (hT : TKO sq K kF) : rOk K (rLine sq) := by
  have e2 : ∀ {a b : Nat}, 2 ≤ a → 2 ≤ b → rOk K (rE2 sq a b) := fun ha hb => rE2_ok hT ha hb
  have e3 : rOk K (rOpt sq 35 (rTes sq 8)) := rOk_opt hT (by omega) (rTes_ok hT)
  intro t ht
  unfold rLine
  split
  · exact rOk_then (e2 (by omega) (by omega) t ht) (rOk_thenF (e2 (by omega) (by omega)) (e2 (by omega) (by omega)))
  split
  · exact rOk_then (e2 (by omega) (by omega) t ht) (rOk_thenF (e2 (by omega) (by omega)) (rOk_thenF (e2 (by omega) (by omega)) (rOk_opt hT (by omega) (rOk_eat hT (by omega)))))
  split
  · exact rOk_then (e2 (by omega) (by omega) t ht) (e2 (by omega) (by omega))
  split
  · exact rOk_then (e2 (by omega) (by omega) t ht) (rOk_thenF (e2 (by omega) (by omega)) (e2 (by omega) (by omega)))
  split
  · exact rOk_then (e2 (by omega) (by omega) t ht) (rOk_thenF (e2 (by omega) (by omega)) (rOk_thenF (e2 (by omega) (by omega)) e3))
  · exact rOk_then (e2 (by omega) (by omega) t ht) e3
theorem rLst_ok (hT : TKO sq K kF) : ∀ m, rOk K (rLst sq m) := by
  intro m
  induction m with
  | zero => intro t ht; exact ⟨Nat.le_refl _, ht⟩
  | succ m ih =>
    intro t ht
    show t ≤ (if sq t = 0 then _ else _ : Bool × Nat).2 ∧ (if sq t = 0 then _ else _ : Bool × Nat).2 ≤ K
    split
    · exact ⟨Nat.le_refl _, ht⟩
    · exact rOk_then (rOk_then (rLine_ok hT t ht) (rOk_eat hT (by omega))) ih
variable {j : Nat}
theorem rLst_e (h : j ≤ t) (ht : t ≤ K) (hK : K ≤ 400) (h0 : sq t = 0) : rLst sq (401 - j) t = (true, t) := by
  rw [show 401 - j = (400 - j) + 1 by omega]; exact if_pos h0
theorem rLst_n (h : j ≤ t) (ht : t ≤ K) (hK : K ≤ 400) (h0 : ¬ sq t = 0) : rLst sq (401 - j) t = rThen (rThen (rLine sq t) (rEat sq 9)) (rLst sq (401 - (j + 1))) := by
  rw [show 401 - j = (401 - (j + 1)) + 1 by omega]; exact if_neg h0
end
