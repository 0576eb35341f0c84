/-! the script: a row that nobody writes -/
def kPreU (a n : Nat) (f : Nat → Int32) (z : Nat → Nat) (D : va_G) (g : Nat → ClassId) (w : va_W) (sz : Nat) : State → Prop := fun U => U.heap.size = sz ∧ va_P D CLS w U.heap ∧ va_K D CLS (TYS g) U ∧ va_D (fun _ => True) w ∧ Zs z (va_A w sz) U U.heap ∧ Ls z (va_A w sz) U U.heap ∧ va_T .int a n (fun j => .int (f j)) (va_A w sz) U U.heap
theorem kBlindU {x n : Nat} {f : Nat → Int32} {z : Nat → Nat} {D : va_G} {g : Nat → ClassId} {w : va_W} {sz : Nat} {av : List Value} : FrameBlind (va_Pc av (kPreU x n f z D g w sz)) := by
  intro a U gg mk q
  obtain ⟨q0, q1, qP, qK, qD, qZ, qY, qG⟩ := q
  exact ⟨q0, q1, qP, va_K.moved (u := U) (U := U.calling gg mk a) (Vm.Alike.refl U.vm) qK, qD, Zs.moved (u := U) (U := U.calling gg mk a) (Nst.same (u := U) rfl qZ.1) (Vm.Alike.refl U.vm) qZ, Ls.moved (u := U) (U := U.calling gg mk a) (TxR.same (u := U) rfl qY.txr) (SelP.same (u := U) rfl qY.sel) (Vm.Alike.refl U.vm) qY, va_T.moved (u := U) (U := U.calling gg mk a) (Vm.Alike.refl U.vm) qG⟩
section K7
variable {p : Program} {l : Launch} {e : Env} {R : Room} {s : State} {m : MethodId} {args : Array Value} {below : List Frame} {meth : Method} {c : Code} {H H0 : Heap} {locs : List Loc} {cells slots : Nat} {Q : State → Prop}
variable {z : Nat → Nat} {D : va_G} {g : Nat → ClassId} {A : Nat → Prop} {ws wc wr X cx pl : va_W} {cc : ByteArray} {a : Nat} {ls : Array Slot} {rest st0 : List Value} {mc ms : Nat}
theorem kPreU.pc {av : List Value} {x n : Nat} {f : Nat → Int32} (hG : va_T .int x n (fun j => .int (f j)) A s s.heap) (hY : Ls z A s s.heap) (hK : va_K D CLS (TYS g) s) (hZ : Zs z A s s.heap) (hA : ∀ q : Nat, s.heap.size ≤ q → A q) (hP : va_P D CLS ws H) (hD : va_D A ws) (hS : va_S A s.heap H locs) (is : List Nat) (hs : is.map (fun i => ws[i]?) = wc.map some) (hn : va_nd is = true) : ∀ U : State, U.heap = H → s.WarmedH U.vm → va_Pc av (kPreU x n f z D g wc H.size) av.toArray U := by
  intro U hU hW
  obtain ⟨a0, a1, a2, a3, a4, a5, a6⟩ := kPreL.pc (av := av) hY hK hZ hA hP hD hS is hs hn U hU hW
  refine ⟨a0, a1, a2, a3, a4, a5, a6, ?_⟩
  rw [hU]
  have h1 : va_T .int x n (fun j => .int (f j)) A s H := hG.kept hS.2.1
  exact va_T.moved hW.alike (h1.narrow (va_free hD hS hA is hs))
end K7
