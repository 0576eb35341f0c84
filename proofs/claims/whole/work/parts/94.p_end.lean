/-! the law's loop and its start -/
def y00 : LSt := (((0 : Int32), 0, 0, 0, 0, (fun _ => 49), (fun _ => 0), (fun _ => 0)), (fun _ => 0), (fun _ _ => 0), (fun _ _ => 0), (fun _ => 0), (fun _ => 0))
def c00 (d : Int32) : CS := ((0, d, 0, (fun _ => 0), (fun _ => 0), (fun _ => 0), (fun _ => 0)), 0, (fun _ => 0), (fun _ => 0))
theorem y00_t : ∀ j, j < 5 → tnY y00 j = 0 := fun j hj => by
  show (if j = 5 then kc y00.1 else (0 : Nat)) = 0
  exact if_neg (by omega)
theorem inv_00 : INV 0 0 (fun _ => 0) y00 (fun _ _ => true) (fun _ => 0) 0 (fun _ _ => 0) (c00 3) := by
  have n0 := y00_t 0 (by omega)
  have n1 := y00_t 1 (by omega)
  have n2 := y00_t 2 (by omega)
  have n3 := y00_t 3 (by omega)
  have n4 := y00_t 4 (by omega)
  refine ⟨by omega, ⟨fun _ => 0, fun j => ⟨nI_0.symm, (by decide : (0 : Nat) < 256)⟩⟩, ⟨⟨by omega, by omega, by omega, by omega, by omega⟩, ⟨fun k hk => absurd hk (by omega), fun k hk => absurd hk (by omega)⟩, ⟨fun k hk => absurd hk (by omega), fun k hk => absurd hk (by omega), fun k hk => absurd hk (by omega), fun k hk => absurd hk (by omega)⟩, fun k hk => absurd hk (by omega), ⟨fun k hk => absurd hk (by omega), fun k hk => absurd hk (by omega)⟩, ⟨fun k hk => absurd hk (by omega), fun k hk => absurd hk (by omega), fun k hk => absurd hk (by omega), fun k hk => absurd hk (by omega), fun k hk => absurd hk (by omega), fun k hk => absurd hk (by omega), fun k hk => absurd hk (by omega)⟩, fun h => absurd h (by omega), fun h => absurd h (by omega)⟩,
    ⟨by omega, fun k hk => absurd hk (by omega)⟩, fun k hk => absurd hk (by omega), ⟨fun k hk => absurd hk (by omega), fun k hk => absurd hk (by omega), fun k hk => absurd hk (by omega), fun k hk => absurd hk (by omega)⟩, QP_0, 0, nI_0.symm, by omega⟩
