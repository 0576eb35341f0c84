/-! the law's start -/
def y00 : LSt := (((0 : Int32), 0, 0, 0, 0, (fun _ => 49), (fun _ => 0), (fun _ => 0)), (fun _ => 0), (fun _ _ => 0), (fun _ _ => 0), (fun _ => 0), (fun _ => 0))
def c00 (d : Int32) : CS := ((0, d, 0, (fun _ => 0), (fun _ => 0), (fun _ => 0), (fun _ => 0)), 0, (fun _ => 0), (fun _ => 0))
theorem c0s_e : c0s = fBgn (c00 3) := rfl
section
variable {tn tx : Nat → Nat} {tr : Nat → Nat → Int32} {od : Nat → Nat → Nat}
theorem simW_c {g0 : ClassId} {ad : Nat → Nat → Nat} {M : Nat → Nat → Nat → Int32} (h : ∀ j, j < 5 → tn j = tx j) : simW g0 ad tn M = simW g0 ad tx M := by
  unfold simW
  rw [h 0 (by decide), h 1 (by decide), h 2 (by decide), h 3 (by decide), h 4 (by decide)]
theorem SOKs_c (h : ∀ j, j < 5 → tn j = tx j) (hO : SOKs tn tr od) : SOKs tx tr od := by
  have h0 := h 0 (by decide)
  have h1 := h 1 (by decide)
  have h2 := h 2 (by decide)
  have h3 := h 3 (by decide)
  have h4 := h 4 (by decide)
  unfold SOKs CntS OrdS at hO ⊢
  rw [h0, h1, h2, h3, h4] at hO
  exact hO
theorem sHold_c (h : ∀ j, j < 5 → tn j = tx j) : (fun (j : Nat) v => sHold tn (od j) v) = (fun j v => sHold tx (od j) v) := by
  funext j v
  unfold sHold
  rw [h 0 (by decide), h 2 (by decide)]
theorem Tst_c {tf tt kq : Nat → Nat} {ff fs : Nat → Int32} (h : ∀ j, j < 5 → tn j = tx j) (hT : TstOK (tn 4) tf tt kq ff fs (fun j v => sHold tn (od j) v)) : TstOK (tx 4) tf tt kq ff fs (fun j v => sHold tx (od j) v) := by
  rw [sHold_c h, h 4 (by decide)] at hT
  exact hT
theorem cin_00 : CIn tx (fBgn (c00 3)) 0 0 := ⟨nI_0.symm, by decide, ⟨3, rfl, by decide⟩, nI_0.symm, by decide, fun _ _ => ⟨.inl ⟨rfl, rfl⟩, 0, 0, 0, nI_0.symm, by decide, nI_0.symm, by decide, nI_0.symm, by decide⟩⟩
theorem wki_00 : WkI tx od (fBgn (c00 3)) := fun _ _ => ⟨0, nI_0.symm, by decide, fun _ => rfl⟩
end
