/-! arrays told anew where they agree below their length; booleans as answers -/
theorem kCg {D : va_G} {cl : List vw_C} {ws : va_W} {H : Heap} (q : Nat) {a : Nat} {cA : ClassId} {n : Nat} {f g : Nat → Int32} (h : va_P D cl ws H) (hq : ws[q]? = some (a, .inl (cA, n, .inl f))) (e : ∀ k, k < n → f k = g k) : va_P D cl (ws.set q (a, .inl (cA, n, .inl g))) H := by
  have hc : vp_cell cA (n, .inl f) = vp_cell cA (n, .inl g) := by
    show arrV cA n (fun j => .int (f j)) = arrV cA n (fun j => .int (g j))
    unfold arrV
    have e2 : (Array.ofFn (n := n) fun j => Value.int (f j.val)) = (Array.ofFn (n := n) fun j => Value.int (g j.val)) := by
      congr 1
      funext j
      rw [e j.val j.isLt]
    rw [e2]
  intro k p hk
  by_cases hkq : k = q
  · subst hkq
    rw [List.getElem?_set_self (by
      rcases Nat.lt_or_ge k ws.length with q | q
      · exact q
      · rw [List.getElem?_eq_none q] at hq; cases hq)] at hk
    cases hk
    have h1 := h k _ hq
    show H[a]? = some (vp_cell cA (n, .inl g))
    rw [← hc]
    exact h1
  · rw [List.getElem?_set_ne (fun x => hkq x.symm)] at hk
    exact h k p hk
theorem kCd {A : Nat → Prop} {ws : va_W} (q : Nat) {a : Nat} {x y : va_E} (h : va_D A ws) (hq : ws[q]? = some (a, x)) : va_D A (ws.set q (a, y)) := by
  have hl : q < ws.length := by
    rcases Nat.lt_or_ge q ws.length with h1 | h1
    · exact h1
    · rw [List.getElem?_eq_none h1] at hq; cases hq
  have key : ∀ (k : Nat) (p : Nat × va_E), (ws.set q (a, y))[k]? = some p → ∃ p', ws[k]? = some p' ∧ p'.1 = p.1 := by
    intro k p hk
    by_cases hkq : k = q
    · subst hkq
      rw [List.getElem?_set_self hl] at hk
      cases hk
      exact ⟨_, hq, rfl⟩
    · rw [List.getElem?_set_ne (fun x => hkq x.symm)] at hk
      exact ⟨p, hk, rfl⟩
  refine ⟨fun i j p r hi hj e => ?_, fun k p hk => ?_⟩
  · obtain ⟨p', h1, h2⟩ := key i p hi
    obtain ⟨r', h3, h4⟩ := key j r hj
    exact h.1 i j p' r' h1 h3 (by rw [h2, h4, e])
  · obtain ⟨p', h1, h2⟩ := key k p hk
    rw [← h2]
    exact h.2 k p' h1
theorem bIt {b : Bool} (h : b = true) : 1 = bI b := by rw [h]; rfl
theorem bIf {b : Bool} (h : b = false) : 0 = bI b := by rw [h]; rfl
theorem bI_dt {p : Prop} {d : Decidable p} (h : p) : bI (@decide p d) = 1 := by rw [decide_eq_true h]; rfl
theorem bI_df {p : Prop} {d : Decidable p} (h : ¬ p) : bI (@decide p d) = 0 := by rw [decide_eq_false h]; rfl
theorem dt {p : Prop} {d : Decidable p} (h : p) : @decide p d = true := decide_eq_true h
theorem df {p : Prop} {d : Decidable p} (h : ¬ p) : @decide p d = false := decide_eq_false h
theorem dt' {p : Prop} {d : Decidable p} (h : @decide p d = true) : p := of_decide_eq_true h
theorem df' {p : Prop} {d : Decidable p} (h : @decide p d = false) : ¬ p := of_decide_eq_false h
theorem ltS {P : Nat → Prop} {i : Nat} (h : ∀ j, j < i → P j) (hi : P i) : ∀ j, j < i + 1 → P j := by
  intro j hj
  rcases Nat.lt_or_ge j i with q | q
  · exact h j q
  · exact (show j = i by omega) ▸ hi
theorem rcopy_at {n : Nat} {f g : Nat → Int32} (hn : n < 2147483648) : ∀ k, k < n → va_cpy f g (0 : Int32).toNatClampNeg (0 : Int32).toNatClampNeg (nI n).toNatClampNeg k = f k := by
  intro k hk
  rw [nI_clamp hn]
  show (if 0 ≤ k ∧ k < 0 + n then f (0 + (k - 0)) else g k) = f k
  rw [if_pos ⟨Nat.zero_le _, by omega⟩]
  congr 1
  omega
theorem rcopy_at10 {f g : Nat → Int32} : ∀ k, k < 10 → va_cpy f g (0 : Int32).toNatClampNeg (0 : Int32).toNatClampNeg (10 : Int32).toNatClampNeg k = f k := rcopy_at (n := 10) (by decide)
theorem rcopy_at20 {f g : Nat → Int32} : ∀ k, k < 20 → va_cpy f g (0 : Int32).toNatClampNeg (0 : Int32).toNatClampNeg (20 : Int32).toNatClampNeg k = f k := rcopy_at (n := 20) (by decide)
theorem rcopy_at5 {f g : Nat → Int32} : ∀ k, k < 5 → va_cpy f g (0 : Int32).toNatClampNeg (0 : Int32).toNatClampNeg (5 : Int32).toNatClampNeg k = f k := rcopy_at (n := 5) (by decide)
