/-! small methods of the law -/
def blw (v : Int32) (n : Nat) : Nat := (v &&& 2147483647).toNatClampNeg % n
theorem blw_ok {v : Int32} {n : Nat} (h1 : 1 ≤ n) (h2 : n ≤ 1000) : (v &&& 2147483647) - (v &&& 2147483647) / nI n * nI n = nI (blw v n) := by
  obtain ⟨j, hj, e⟩ := pk_andE v (m := 2147483647) 31 (by decide)
  unfold blw
  rw [e, nI_clamp (by omega), pk_rem (by omega) (by omega) (by omega)]
theorem blw_lt {v : Int32} {n : Nat} (h1 : 1 ≤ n) : blw v n < n := Nat.mod_lt _ (by omega)
def cel (n : Nat) (f : Nat → Int32) (k : Nat) : Int32 := if k < n then f k else 790386105 * (nI k + 3)
section K2
variable {p : Program} {l : Launch} {e : Env} {R : Room} {s : State} {m : MethodId} {args : Array Value} {below : List Frame} {meth : Method} {c : Code} {H H0 : Heap} {locs : List Loc} {cells slots : Nat} {Q : State → Prop}
variable {z : Nat → Nat} {D : va_G} {g : Nat → ClassId} {A : Nat → Prop} {ws wc wr X cx pl : va_W} {cc : ByteArray} {pc a : Nat} {ls : Array Slot} {rest st0 : List Value} {mc ms : Nat}
theorem k_newA0 (hexec : p.tables.exec = Jvm.exec) (hb : c.code = cc) {own : String} {index : Nat} (hown : s.vm.findClass own = some m.cls) (hcl : (Cond.classLink own index "[I").before args s = true) (hO : va_AOA .int s) (hK : va_K D CLS (TYS g) s) (hP : va_P D CLS X H) (hD : va_D A X) (hS : va_S A H0 H locs) (hA : ∀ q, H0.size ≤ q → A q) (ad : Nat → Nat)
    {N : Nat} (hN : N < 1000) (hcells : cells + 1 ≤ R.cells) (hslots : slots + N ≤ R.slots) (hdg : decode cc pc = .ok (.anewarray index, 3))
    (kk : ∀ (q : Nat) (H1 : Heap), va_P D CLS (X ++ [(q, .inl (g 4, N, .inr (.inr (.inr (.inr (bld ad 0))))))]) H1 → va_D A (X ++ [(q, .inl (g 4, N, .inr (.inr (.inr (.inr (bld ad 0))))))]) → va_S A H0 H1 locs → W p l e R s m args below meth c H1 locs (cells + 1) (slots + N) Q (F0 m (pc + 3) ls (.ref q :: rest))) : W p l e R s m args below meth c H locs cells slots Q (F0 m pc ls (.int (nI N) :: rest)) :=
  k_newA (pl := []) hexec hb hown hcl hO hK (by rw [List.append_nil]; exact hP) (by rw [List.append_nil]; exact hD) hS hA ad hN hcells hslots hdg (fun q H1 h1 h2 h3 => kk q H1 (by rw [List.append_nil] at h1; exact h1) (by rw [List.append_nil] at h2; exact h2) h3)
end K2
section
variable {tn : Nat → Nat} {tr : Nat → Nat → Int32} {od : Nat → Nat → Nat} {c : CS} {dd m i : Nat} {T : Nat → VS → Bool}
theorem live_C (hO : SOKs tn tr od) (hC : CIn tn c dd m) (hW : WkI tn od c) : ∀ i, m + 31 * i < 10000000 → dd + i < 100000 → ∃ m2, m ≤ m2 ∧ m2 ≤ m + 31 * i ∧ CIn tn (fLive tr tn T (-1) c i) (dd + i) m2 ∧ WkI tn od (fLive tr tn T (-1) c i) := by
  intro i
  induction i with
  | zero => intro _ _; exact ⟨m, Nat.le_refl _, Nat.le_refl _, hC, hW⟩
  | succ i ih =>
    intro h1 h2
    obtain ⟨m2, a1, a2, a3, a4⟩ := ih (by omega) (by omega)
    obtain ⟨j, m3, h⟩ := day_I (T := T) hO a3 a4 (by omega) (by omega)
    exact ⟨m3, by have := h.2.2.1; omega, by have := h.2.2.1; omega, h.1, h.2.1⟩
end
