/-! a text fed by five numbers, and taught -/
theorem nI20 (i : Nat) : nI (20 * i) + 20 = nI (20 * (i + 1)) := by
  rw [show (20 : Int32) = nI 20 from rfl, nI_add, show 20 * i + 20 = 20 * (i + 1) by omega]
theorem ltr_in {T : List Nat} {j : Nat} (h : j < T.length) : ltr T j = T.getD j 0 := if_pos h
theorem ltr_out {T : List Nat} {j : Nat} (h : T.length ≤ j) : ltr T j = 32 := if_neg (by omega)
theorem fvW_0 {h : Nat → Nat} {p : Nat} : ∀ w, (0 : Int32) = nI (fvW h p 0 w) := fun w => by
  unfold fvW; rw [if_pos (Nat.zero_le _)]; rfl
theorem fvW_u {h : Nat → Nat} {p j : Nat} {ff : Nat → Int32} (hf : ∀ w, ff w = nI (fvW h p j w)) : ∀ w, upd ff (j / 4) (nI (fvW h p (j + 1) (j / 4))) w = nI (fvW h p (j + 1) w) := fun w => by
  by_cases e : w = j / 4
  · subst e; exact pk_us
  · rw [pk_un e, hf, fvW_n e]
