/-! tests, as the reference reckons them: values of what the recogniser took, over means mn and facts v -/
section
variable {sq : Nat → Nat} {n t : Nat}
theorem rDeep_inv {b : Bool} {f : RF} (h : (rDeep b f t).1 = true) : b = true ∧ (f (t + 1)).1 = true ∧ rDeep b f t = f (t + 1) := by
  cases b with
  | false => cases h
  | true => exact ⟨rfl, h, rfl⟩
theorem rThen_inv {r : Bool × Nat} {f : RF} (h : (rThen r f).1 = true) : r.1 = true ∧ (f r.2).1 = true ∧ rThen r f = f r.2 := by
  cases hr : r.1 with
  | false => rw [rThen_f hr] at h; cases h
  | true => rw [rThen_t hr] at h ⊢; exact ⟨rfl, h, rfl⟩
theorem rVal_d (h : (rVal sq n t).1 = true) : sq t = 12 ∨ (sq t = 3 ∨ sq t = 36 ∨ sq t = 37 ∨ sq t = 41) ∨ (38 ≤ sq t ∧ sq t ≤ 40) ∨ (47 ≤ sq t ∧ sq t ≤ 48) ∨ sq t = 5 := by
  by_cases h1 : sq t = 12
  · omega
  by_cases h2 : sq t = 3 ∨ sq t = 36 ∨ sq t = 37 ∨ sq t = 41
  · omega
  by_cases h3 : 38 ≤ sq t ∧ sq t ≤ 40
  · omega
  by_cases h4 : 47 ≤ sq t ∧ sq t ≤ 48
  · omega
  by_cases h5 : sq t = 5
  · omega
  rw [rVal_6 h1 (by omega) (by omega) (by omega) h3 h4 h5] at h; cases h
theorem rV_12 (h : (rVal sq n t).1 = true) (h2 : sq t = 12) : 0 < n ∧ (rVal sq (n - 1) (t + 1)).1 = true ∧ rVal sq n t = rVal sq (n - 1) (t + 1) := by
  rcases Nat.eq_zero_or_pos n with q | q
  · rw [rVal_1z h2 q] at h; cases h
  · rw [rVal_1 h2 q] at h ⊢; exact ⟨q, h, rfl⟩
theorem rV_38 (h : (rVal sq n t).1 = true) (h2 : 38 ≤ sq t ∧ sq t ≤ 40) : sq (t + 1) = 2 ∧ rVal sq n t = (true, t + 1 + 1) := by
  rw [rVal_3 h2] at h ⊢; exact rEat_t h
theorem rV_5 (h : (rVal sq n t).1 = true) (h2 : sq t = 5) : 0 < n ∧ (rSum sq (n - 1) (t + 1)).1 = true ∧ sq (rSum sq (n - 1) (t + 1)).2 = 6 ∧ rVal sq n t = (true, (rSum sq (n - 1) (t + 1)).2 + 1) := by
  rcases Nat.eq_zero_or_pos n with q | q
  · rw [rVal_5z h2 q] at h; cases h
  · rw [rVal_5 h2 q] at h ⊢
    obtain ⟨a, b, c⟩ := rThen_inv h
    have e := rEat_t b
    exact ⟨q, a, e.1, c.trans e.2⟩
theorem rV_47 (h : (rVal sq n t).1 = true) (h2 : 47 ≤ sq t ∧ sq t ≤ 48) : 0 < n ∧ sq (t + 1) = 5 ∧ (rSum sq (n - 1) (t + 1 + 1)).1 = true ∧ sq (rSum sq (n - 1) (t + 1 + 1)).2 = 10 ∧ (rSum sq (n - 1) ((rSum sq (n - 1) (t + 1 + 1)).2 + 1)).1 = true ∧ sq (rSum sq (n - 1) ((rSum sq (n - 1) (t + 1 + 1)).2 + 1)).2 = 6 ∧ rVal sq n t = (true, (rSum sq (n - 1) ((rSum sq (n - 1) (t + 1 + 1)).2 + 1)).2 + 1) := by
  by_cases q : n = 0 ∨ ¬ sq (t + 1) = 5
  · rw [rVal_4z h2 q] at h; cases h
  · rw [rVal_4 h2 (by omega) (by omega)] at h ⊢
    obtain ⟨a, b, c⟩ := rThen_inv h
    obtain ⟨a2, b2, c2⟩ := rThen_inv b
    have e2 := rEat_t a2
    rw [e2.2] at b2
    obtain ⟨a3, b3, c3⟩ := rThen_inv b2
    have e3 := rEat_t b3
    exact ⟨by omega, by omega, a, e2.1, a3, e3.1, c.trans (c2.trans (by rw [e2.2]; exact c3.trans e3.2))⟩
theorem rS_44 (h : (rSin sq n t).1 = true) (h2 : sq t = 44) : 0 < n ∧ (rSin sq (n - 1) (t + 1)).1 = true ∧ rSin sq n t = rSin sq (n - 1) (t + 1) := by
  rcases Nat.eq_zero_or_pos n with q | q
  · rw [rSin_1z h2 q] at h; cases h
  · rw [rSin_1 h2 q] at h ⊢; exact ⟨q, h, rfl⟩
theorem rS_7 (h : (rSin sq n t).1 = true) (h2 : sq t = 7) : 0 < n ∧ (rTes sq (n - 1) (t + 1)).1 = true ∧ sq (rTes sq (n - 1) (t + 1)).2 = 8 ∧ rSin sq n t = (true, (rTes sq (n - 1) (t + 1)).2 + 1) := by
  rcases Nat.eq_zero_or_pos n with q | q
  · rw [rSin_2z h2 q] at h; cases h
  · rw [rSin_2 h2 q] at h ⊢
    obtain ⟨a, b, c⟩ := rThen_inv h
    have e := rEat_t b
    exact ⟨q, a, e.1, c.trans e.2⟩
theorem rS_42 (h : (rSin sq n t).1 = true) (h2 : sq t = 42) : sq (t + 1) = 2 ∧ sq (t + 1 + 1) = 2 ∧ rSin sq n t = (true, t + 1 + 1 + 1) := by
  rw [rSin_3 h2] at h ⊢
  obtain ⟨a, b, c⟩ := rThen_inv h
  have e := rEat_t a
  rw [e.2] at b
  have e2 := rEat_t b
  exact ⟨e.1, e2.1, c.trans (by rw [e.2]; exact e2.2)⟩
theorem rS_43 (h : (rSin sq n t).1 = true) (h2 : sq t = 43) : sq (t + 1) = 2 ∧ rSin sq n t = (true, t + 1 + 1) := by
  rw [rSin_4 h2] at h ⊢; exact rEat_t h
theorem rS_e (h : (rSin sq n t).1 = true) (h1 : ¬ sq t = 44) (h2 : ¬ sq t = 7) (h3 : ¬ sq t = 42) (h4 : ¬ sq t = 43) : (rSum sq n t).1 = true ∧ (15 ≤ sq (rSum sq n t).2 ∧ sq (rSum sq n t).2 ≤ 19) ∧ (rSum sq n ((rSum sq n t).2 + 1)).1 = true ∧ rSin sq n t = rSum sq n ((rSum sq n t).2 + 1) := by
  rw [rSin_5 h1 h2 h3 h4] at h ⊢
  obtain ⟨a, b, c⟩ := rThen_inv h
  obtain ⟨a2, b2, c2⟩ := rThen_inv b
  have e := rIn_t a2
  rw [e.2] at b2
  exact ⟨a, e.1, b2, c.trans (c2.trans (by rw [e.2]))⟩
/-- what is left of a do-while behind one body -/
def rRe (sq : Nat → Nat) (a b : Nat) (body : RF) (m w : Nat) : Bool × Nat := if a ≤ sq w ∧ sq w ≤ b then rDo sq a b body m (w + 1) else (true, w)
variable {a b m w j K : Nat} {f : RF}
theorem rDo_i (h : (rDo sq a b f (m + 1) t).1 = true) : (f t).1 = true ∧ rDo sq a b f (m + 1) t = rRe sq a b f m (f t).2 := by
  cases hr : (f t).1 with
  | false => rw [show rDo sq a b f (m + 1) t = (false, (f t).2) from if_neg (by rw [hr]; decide)] at h; cases h
  | true => exact ⟨rfl, if_pos hr⟩
theorem rRe_x (h : ¬ (a ≤ sq w ∧ sq w ≤ b)) : rRe sq a b f m w = (true, w) := if_neg h
theorem rRe_g (hj : j < 400) (h : a ≤ sq w ∧ sq w ≤ b) (hr : (rRe sq a b f (400 - j) w).1 = true) : (f (w + 1)).1 = true ∧ rRe sq a b f (400 - j) w = rRe sq a b f (400 - (j + 1)) (f (w + 1)).2 := by
  have e : rRe sq a b f (400 - j) w = rDo sq a b f ((400 - (j + 1)) + 1) (w + 1) := by unfold rRe; rw [if_pos h, show 400 - j = (400 - (j + 1)) + 1 by omega]
  rw [e] at hr ⊢
  exact rDo_i hr
end
def xLp {α : Type} (sq : Nat → Nat) (a b : Nat) (rb : RF) (vb : Nat → α) (op : Nat → α → α → α) : Nat → α → Nat → α
  | 0, x, _ => x
  | m + 1, x, w => if a ≤ sq w ∧ sq w ≤ b then xLp sq a b rb vb op m (op (sq w) x (vb (w + 1))) (rb (w + 1)).2 else x
theorem xLp_x {α : Type} {sq : Nat → Nat} {a b m w : Nat} {rb : RF} {vb : Nat → α} {op : Nat → α → α → α} {x : α} (h : ¬ (a ≤ sq w ∧ sq w ≤ b)) : xLp sq a b rb vb op m x w = x := by
  cases m with
  | zero => rfl
  | succ m => exact if_neg h
theorem xLp_g {α : Type} {sq : Nat → Nat} {a b j w : Nat} {rb : RF} {vb : Nat → α} {op : Nat → α → α → α} {x : α} (hj : j < 400) (h : a ≤ sq w ∧ sq w ≤ b) : xLp sq a b rb vb op (400 - j) x w = xLp sq a b rb vb op (400 - (j + 1)) (op (sq w) x (vb (w + 1))) (rb (w + 1)).2 := by
  rw [show 400 - j = (400 - (j + 1)) + 1 by omega]; exact if_pos h
def opP (s : Nat) (a b : Int32) : Int32 := if s = 13 then a * b else if b = 0 then 0 else a / b
def opS (s : Nat) (a b : Int32) : Int32 := if s = 11 then a + b else a - b
def opA (_ : Nat) (a b : Bool) : Bool := a && b
def opO (_ : Nat) (a b : Bool) : Bool := a || b
def xMM (s : Nat) (a b : Int32) : Int32 := if s = 47 then (if b < a then b else a) else (if a < b then b else a)
def xcmp (s : Nat) (l r : Int32) : Bool := if l = r then decide (s = 17 ∨ 18 ≤ s) else if l < r then decide (s = 15 ∨ s = 18) else decide (s = 16 ∨ s = 19)
abbrev XL : Type := (Nat → Int32) × (Nat → Int32) × (Nat → Bool) × (Nat → Bool)
def xValF (sq : Nat → Nat) (mn : Nat → Int32) (v : VS) (lv ls : Nat → Int32) (rs : RF) (t : Nat) : Int32 :=
  if sq t = 12 then -(lv (t + 1)) else if sq t = 3 then mn t else if sq t = 36 then v.1 else if sq t = 37 then v.2.1 else if sq t = 41 then v.2.2.1
  else if sq t = 38 then rat 10 v.2.2.2.2.1 (mn (t + 1)) else if sq t = 39 then rat 10 v.2.2.2.2.2.1 (mn (t + 1)) else if sq t = 40 then rat 10 v.2.2.2.2.2.2 (mn (t + 1))
  else if sq t = 5 then ls (t + 1) else xMM (sq t) (ls (t + 1 + 1)) (ls ((rs (t + 1 + 1)).2 + 1))
def xSinF (sq : Nat → Nat) (mn : Nat → Int32) (v : VS) (rs : RF) (lg lt : Nat → Bool) (ls : Nat → Int32) (t : Nat) : Bool :=
  if sq t = 44 then !(lg (t + 1)) else if sq t = 7 then lt (t + 1) else if sq t = 42 then decide (rat 10 v.2.2.2.1 (mn (t + 1)) = mn (t + 1 + 1)) else if sq t = 43 then fSq v.2.2.2.2.2.2 (mn (t + 1))
  else xcmp (sq (rs t).2) (ls t) (ls ((rs t).2 + 1))
def xP1 (sq : Nat → Nat) (n : Nat) (x : Nat → Int32) : Nat → Int32 := fun t => xLp sq 13 14 (rVal sq n) x opP 400 (x t) (rVal sq n t).2
def xS1 (sq : Nat → Nat) (n : Nat) (x : Nat → Int32) : Nat → Int32 := fun t => xLp sq 11 12 (rPro sq n) x opS 400 (x t) (rPro sq n t).2
def xB1 (sq : Nat → Nat) (n : Nat) (x : Nat → Bool) : Nat → Bool := fun t => xLp sq 45 45 (rSin sq n) x opA 400 (x t) (rSin sq n t).2
def xT1 (sq : Nat → Nat) (n : Nat) (x : Nat → Bool) : Nat → Bool := fun t => xLp sq 46 46 (rBot sq n) x opO 400 (x t) (rBot sq n t).2
def xMk (sq : Nat → Nat) (mn : Nat → Int32) (v : VS) (n : Nat) (lo : XL) : XL :=
  (xValF sq mn v lo.1 lo.2.1 (rSum sq (n - 1)), xS1 sq n (xP1 sq n (xValF sq mn v lo.1 lo.2.1 (rSum sq (n - 1)))), xSinF sq mn v (rSum sq n) lo.2.2.1 lo.2.2.2 (xS1 sq n (xP1 sq n (xValF sq mn v lo.1 lo.2.1 (rSum sq (n - 1))))),
   xT1 sq n (xB1 sq n (xSinF sq mn v (rSum sq n) lo.2.2.1 lo.2.2.2 (xS1 sq n (xP1 sq n (xValF sq mn v lo.1 lo.2.1 (rSum sq (n - 1))))))))
def xL (sq : Nat → Nat) (mn : Nat → Int32) (v : VS) : Nat → XL
  | 0 => ((fun _ => 0), (fun _ => 0), (fun _ => false), (fun _ => false))
  | n + 1 => xMk sq mn v n (xL sq mn v n)
def xVal (sq : Nat → Nat) (mn : Nat → Int32) (v : VS) (n : Nat) : Nat → Int32 := (xL sq mn v (n + 1)).1
def xPro (sq : Nat → Nat) (mn : Nat → Int32) (v : VS) (n : Nat) : Nat → Int32 := xP1 sq n (xVal sq mn v n)
def xSum (sq : Nat → Nat) (mn : Nat → Int32) (v : VS) (n : Nat) : Nat → Int32 := (xL sq mn v (n + 1)).2.1
def xSin (sq : Nat → Nat) (mn : Nat → Int32) (v : VS) (n : Nat) : Nat → Bool := (xL sq mn v (n + 1)).2.2.1
def xBot (sq : Nat → Nat) (mn : Nat → Int32) (v : VS) (n : Nat) : Nat → Bool := xB1 sq n (xSin sq mn v n)
def xTes (sq : Nat → Nat) (mn : Nat → Int32) (v : VS) (n : Nat) : Nat → Bool := (xL sq mn v (n + 1)).2.2.2
section
variable {sq : Nat → Nat} {mn : Nat → Int32} {v : VS} {n t : Nat}
theorem xL_s : xL sq mn v (n + 1) = xMk sq mn v n (xL sq mn v n) := rfl
theorem xSum_is : xSum sq mn v n = xS1 sq n (xPro sq mn v n) := by unfold xSum xPro xVal; rw [xL_s]; unfold xMk; dsimp only
theorem xTes_is : xTes sq mn v n = xT1 sq n (xBot sq mn v n) := by unfold xTes xBot xSin; rw [xL_s]; unfold xMk; dsimp only
theorem xVal_p (h : 0 < n) : xVal sq mn v n = xValF sq mn v (xVal sq mn v (n - 1)) (xSum sq mn v (n - 1)) (rSum sq (n - 1)) := by
  obtain ⟨m, rfl⟩ : ∃ m, n = m + 1 := ⟨n - 1, by omega⟩
  rfl
theorem xSin_p (h : 0 < n) : xSin sq mn v n = xSinF sq mn v (rSum sq n) (xSin sq mn v (n - 1)) (xTes sq mn v (n - 1)) (xSum sq mn v n) := by
  obtain ⟨m, rfl⟩ : ∃ m, n = m + 1 := ⟨n - 1, by omega⟩
  rfl
theorem xVal_any (P : (Nat → Int32) → Prop) (h : ∀ lv ls rs, P (xValF sq mn v lv ls rs)) (n : Nat) : P (xVal sq mn v n) := h _ _ _
theorem xSin_any (P : (Nat → Bool) → Prop) (n : Nat) (h : ∀ lg lt, P (xSinF sq mn v (rSum sq n) lg lt (xSum sq mn v n))) : P (xSin sq mn v n) := h _ _
theorem xVal_12 (h : sq t = 12) (hn : 0 < n) : xVal sq mn v n t = -(xVal sq mn v (n - 1) (t + 1)) := by rw [xVal_p hn]; exact if_pos h
theorem xVal_3 (h : sq t = 3) : xVal sq mn v n t = mn t := xVal_any (fun f => f t = mn t) (fun _ _ _ => by unfold xValF; rw [if_neg (by omega), if_pos h]) n
theorem xVal_36 (h : sq t = 36) : xVal sq mn v n t = v.1 := xVal_any (fun f => f t = v.1) (fun _ _ _ => by unfold xValF; rw [h]; rfl) n
theorem xVal_37 (h : sq t = 37) : xVal sq mn v n t = v.2.1 := xVal_any (fun f => f t = v.2.1) (fun _ _ _ => by unfold xValF; rw [h]; rfl) n
theorem xVal_41 (h : sq t = 41) : xVal sq mn v n t = v.2.2.1 := xVal_any (fun f => f t = v.2.2.1) (fun _ _ _ => by unfold xValF; rw [h]; rfl) n
theorem xVal_38 (h : sq t = 38) : xVal sq mn v n t = rat 10 v.2.2.2.2.1 (mn (t + 1)) := xVal_any (fun f => f t = _) (fun _ _ _ => by unfold xValF; rw [h]; rfl) n
theorem xVal_39 (h : sq t = 39) : xVal sq mn v n t = rat 10 v.2.2.2.2.2.1 (mn (t + 1)) := xVal_any (fun f => f t = _) (fun _ _ _ => by unfold xValF; rw [h]; rfl) n
theorem xVal_40 (h : sq t = 40) : xVal sq mn v n t = rat 10 v.2.2.2.2.2.2 (mn (t + 1)) := xVal_any (fun f => f t = _) (fun _ _ _ => by unfold xValF; rw [h]; rfl) n
theorem xVal_5 (h : sq t = 5) (hn : 0 < n) : xVal sq mn v n t = xSum sq mn v (n - 1) (t + 1) := by rw [xVal_p hn]; unfold xValF; rw [h]; rfl
theorem xVal_47 (h : sq t = 47) (hn : 0 < n) : xVal sq mn v n t = (if xSum sq mn v (n - 1) ((rSum sq (n - 1) (t + 1 + 1)).2 + 1) < xSum sq mn v (n - 1) (t + 1 + 1) then xSum sq mn v (n - 1) ((rSum sq (n - 1) (t + 1 + 1)).2 + 1) else xSum sq mn v (n - 1) (t + 1 + 1)) := by rw [xVal_p hn]; unfold xValF; rw [h]; rfl
theorem xVal_48 (h : sq t = 48) (hn : 0 < n) : xVal sq mn v n t = (if xSum sq mn v (n - 1) (t + 1 + 1) < xSum sq mn v (n - 1) ((rSum sq (n - 1) (t + 1 + 1)).2 + 1) then xSum sq mn v (n - 1) ((rSum sq (n - 1) (t + 1 + 1)).2 + 1) else xSum sq mn v (n - 1) (t + 1 + 1)) := by rw [xVal_p hn]; unfold xValF; rw [h]; rfl
theorem xSin_44 (h : sq t = 44) (hn : 0 < n) : xSin sq mn v n t = !(xSin sq mn v (n - 1) (t + 1)) := by rw [xSin_p hn]; exact if_pos h
theorem xSin_7 (h : sq t = 7) (hn : 0 < n) : xSin sq mn v n t = xTes sq mn v (n - 1) (t + 1) := by rw [xSin_p hn]; unfold xSinF; rw [h]; rfl
theorem xSin_42 (h : sq t = 42) : xSin sq mn v n t = decide (rat 10 v.2.2.2.1 (mn (t + 1)) = mn (t + 1 + 1)) := xSin_any (fun f => f t = _) n (fun _ _ => by unfold xSinF; rw [if_neg (by omega), if_neg (by omega), if_pos h])
theorem xSin_43 (h : sq t = 43) : xSin sq mn v n t = fSq v.2.2.2.2.2.2 (mn (t + 1)) := xSin_any (fun f => f t = _) n (fun _ _ => by unfold xSinF; rw [if_neg (by omega), if_neg (by omega), if_neg (by omega), if_pos h])
theorem xSin_e (h1 : ¬ sq t = 44) (h2 : ¬ sq t = 7) (h3 : ¬ sq t = 42) (h4 : ¬ sq t = 43) : xSin sq mn v n t = xcmp (sq (rSum sq n t).2) (xSum sq mn v n t) (xSum sq mn v n ((rSum sq n t).2 + 1)) := xSin_any (fun f => f t = _) n (fun _ _ => by unfold xSinF; rw [if_neg h1, if_neg h2, if_neg h3, if_neg h4])
end
def MOK (sq : Nat → Nat) (K : Nat) (mn : Nat → Int32) : Prop := ∀ j, j < K → sq j = 2 → inC (mn j) 10
theorem km_PM : ∀ s, s < 49 → ((46 ≤ km s ∧ km s ≤ 47) ↔ (11 ≤ s ∧ s ≤ 12)) := by decide +kernel
theorem km_TD : ∀ s, s < 49 → ((48 ≤ km s ∧ km s ≤ 49) ↔ (13 ≤ s ∧ s ≤ 14)) := by decide +kernel
theorem km_53 : ∀ s, s < 49 → 15 ≤ s → s ≤ 19 → (km s < 53 ↔ s < 18) := by decide +kernel
theorem bI_or (a b : Bool) : bI a ||| bI b = bI (a || b) := by cases a <;> cases b <;> rfl
theorem bI_and (a b : Bool) : bI a &&& bI b = bI (a && b) := by cases a <;> cases b <;> rfl
theorem nI_2 (t : Nat) : nI t + 2 = nI (t + 1 + 1) := nI_add t 2
theorem nI_m2 (t : Nat) : nI (t + 1 + 1 + 1) - 2 = nI (t + 1) := pk_sub (a := t + 1 + 1 + 1) (b := 2) (by omega)
theorem tko_lt {sq : Nat → Nat} {K t : Nat} {kF : Nat → Int32} (hT : TKO sq K kF) (ht : t ≤ K) (h : 2 ≤ sq t) : t < K := tko_s hT ht h
section
variable {s : Nat} {l r : Int32}
theorem xcmp_1 (h : l = r) (h1 : s = 17 ∨ 18 ≤ s) : 1 = bI (xcmp s l r) := by unfold xcmp; rw [if_pos h, dt h1]; rfl
theorem xcmp_2 (h : l = r) (h1 : ¬ s = 17) (h2 : ¬ 18 ≤ s) : 0 = bI (xcmp s l r) := by unfold xcmp; rw [if_pos h, df (by omega)]; rfl
theorem xcmp_3 (h : ¬ l = r) (h0 : l < r) (h1 : s = 15 ∨ s = 18) : 1 = bI (xcmp s l r) := by unfold xcmp; rw [if_neg h, if_pos h0, dt h1]; rfl
theorem xcmp_4 (h : ¬ l = r) (h0 : l < r) (h1 : ¬ s = 15) (h2 : ¬ s = 18) : 0 = bI (xcmp s l r) := by unfold xcmp; rw [if_neg h, if_pos h0, df (by omega)]; rfl
theorem xcmp_5 (h : ¬ l = r) (h0 : ¬ l < r) (h1 : s = 16 ∨ s = 19) : 1 = bI (xcmp s l r) := by unfold xcmp; rw [if_neg h, if_neg h0, dt h1]; rfl
theorem xcmp_6 (h : ¬ l = r) (h0 : ¬ l < r) (h1 : ¬ s = 16) (h2 : ¬ s = 19) : 0 = bI (xcmp s l r) := by unfold xcmp; rw [if_neg h, if_neg h0, df (by omega)]; rfl
end
theorem nI_nm1 {k : Nat} (h : k < 2147483648) : ¬ nI k = -1 := by
  intro e
  have h2 : (nI k).toInt = (k : Int) := nI_toInt (by omega)
  rw [e, show ((-1 : Int32)).toInt = -1 from by decide] at h2
  omega
