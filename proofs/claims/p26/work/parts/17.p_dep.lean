/-! a few words that the class's parts take of those of the reference (whole) -/
def updN (f : Nat → Nat) (j x : Nat) : Nat → Nat := fun i => if i = j then x else f i
def updR {α : Type} (f : Nat → α) (j : Nat) (x : α) : Nat → α := fun i => if i = j then x else f i
theorem toInt_ne {x y : Int32} (h : ¬ x = y) : ¬ x.toInt = y.toInt := fun e => h (Int32.toInt_inj.mp e)
theorem k_look {d x : Int} : ∀ {ps : List (Int × Int)}, (∀ p ∈ ps, ¬ x = p.1) → Op.lookupswitch.offset ps d x = d := by
  intro ps
  induction ps with
  | nil => intro _; rfl
  | cons p ps ih =>
    intro h
    obtain ⟨a, b⟩ := p
    have h1 : ¬ x = a := h (a, b) List.mem_cons_self
    have h2 := ih (fun q hq => h q (List.mem_cons_of_mem _ hq))
    rw [Op.lookupswitch.offset_cons, if_neg (fun e => h1 e.symm)]
    exact h2
def KOK (f : Nat → Int32) (n K : Nat) : Prop := K ≤ 400 ∧ (∀ j, j < K → tkS f n j ≠ 0 ∧ tkS f n j ≠ 1) ∧ (tkS f n K = 0 ∨ tkS f n K = 1)
