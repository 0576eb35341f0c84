/-! what the law's own code takes of the machine's start: its texts, the JDK's tables of digits, .. -/
/-- at a lies a text of the letters L, its bytes at b -/
def StrS (a b : Nat) (L : List Nat) (A : Nat → Prop) (U : State) (H : Heap) : Prop :=
  va_O "java/lang/String" a A U H ∧ va_OF "java/lang/String" "coder" "B" (.int 0) a A U H ∧ va_OF "java/lang/String" "value" "[B" (.ref b) a A U H ∧ va_T .byte b L.length (fun j => .int (nI (L.getD j 0))) A U H
theorem StrS.kept {a b : Nat} {L : List Nat} {A : Nat → Prop} {U : State} {H H1 : Heap} (h : StrS a b L A U H) (hq : ∀ a : Nat, a < H.size → ¬ A a → H1[a]? = H[a]?) : StrS a b L A U H1 := ⟨h.1.kept hq, h.2.1.kept hq, h.2.2.1.kept hq, h.2.2.2.kept hq⟩
theorem StrS.narrow {a b : Nat} {L : List Nat} {A B : Nat → Prop} {U : State} {H : Heap} (h : StrS a b L A U H) (hq : ∀ q, B q → A q) : StrS a b L B U H := ⟨h.1.narrow hq, h.2.1.narrow hq, h.2.2.1.narrow hq, h.2.2.2.narrow hq⟩
theorem StrS.moved {a b : Nat} {L : List Nat} {A : Nat → Prop} {u U : State} {H : Heap} (hv : u.vm.Alike U.vm) (h : StrS a b L A u H) : StrS a b L A U H := ⟨va_O.moved hv h.1, va_OF.moved hv h.2.1, va_OF.moved hv h.2.2.1, va_T.moved hv h.2.2.2⟩
/-- a text that was made -/
theorem StrS.ofW {D : va_G} {g : Nat → ClassId} {ws : va_W} {s : State} {H : Heap} {args : Array Value} {A : Nat → Prop} {a b n : Nat} {L : List Nat} {f : Nat → Int32} {hv zv : Value} (hts : ∀ w ∈ WALL, w.before args s = true) (hK : va_K D CLS (TYS g) s) (hP : va_P D CLS ws H) (i0 i1 : Nat) (h0 : ws[i0]? = some (a, .inr (11, [.ref b, .int 0, hv, zv]))) (h1 : ws[i1]? = some (b, .inl (g 3, n, .inl f))) (hn : n = L.length) (hf : ∀ j, j < L.length → f j = nI (L.getD j 0)) (ha : ¬ A a) (hb : ¬ A b) : StrS a b L A s H := by
  subst hn
  obtain ⟨r, r1, cell, q1, q2, q3, q4⟩ := hP i0 _ h0
  have hr : r = (RB0, TB0, 4) := (Option.some.inj r1).symm
  subst hr
  obtain ⟨hS, hfc, kC, hkC, hkind⟩ := hK.1 11 _ rfl
  have fld : ∀ k, k < 4 → va_OF (TB0 k).1 (TB0 k).2.1 (TB0 k).2.2.1 (vp_V [.ref b, .int 0, hv, zv] k) a A s H := by
    intro k hk
    obtain ⟨cf, kf, fi, fd, hi, hsl⟩ := hS k hk
    exact ⟨cf, kf, fi, fd, cell, hi, (u_facts hfc hkC (u_lays hts in_B0 hk) hi).1, q1, (by rw [q3]; exact fun h => (by cases h)), (by rw [hsl]; exact q4 k hk), ha⟩
  refine ⟨⟨cell, q1, (by rw [q3]; rfl), (by rw [q2]; exact hfc), ha⟩, fld 1 (by decide), fld 0 (by decide), ?_⟩
  have hc : H[b]? = some (vp_cell (g 3) (L.length, .inl f)) := hP i1 _ h1
  refine ⟨_, hc, (hK.2 3 _ rfl).1 L.length (fun j => .int (f j)), (fun h => (by cases h)), (by show L.length ≤ (arrV _ _ _).slots.size; rw [arrV_size]; exact Nat.le_refl _), (by show (arrV _ _ _).slots.size.toInt32 = _; rw [arrV_size]), fun j hj => ?_, hb⟩
  show (arrV _ _ _).slots[j]? = _
  rw [arrV_read _ _ hj, hf j hj]
/-- not among the cells that a callee takes -/
theorem out_of {A : Nat → Prop} {ws wc : va_W} {D : va_G} {cl : List vw_C} {H : Heap} {a : Nat} {e : va_E} (hD : va_D A ws) (hP : va_P D cl ws H) (is : List Nat) (hs : is.map (fun i => ws[i]?) = wc.map some) (i0 : Nat) (h0 : ws[i0]? = some (a, e)) (hi : is.all (fun i => decide (i ≠ i0)) = true) : ¬ va_A wc H.size a := by
  intro h
  rcases h with ⟨k, e2, hk⟩ | h
  · have h1 : (is.map (fun i => ws[i]?))[k]? = some (some (a, e2)) := by rw [hs, List.getElem?_map, hk]; rfl
    rw [List.getElem?_map] at h1
    cases hq : is[k]? with
    | none => rw [hq] at h1; cases h1
    | some i =>
      rw [hq] at h1
      have h2 : ws[i]? = some (a, e2) := Option.some.inj h1
      have h3 := hD.1 i i0 _ _ h2 h0 rfl
      have h4 := List.all_eq_true.mp hi i (List.mem_of_getElem? hq)
      rw [decide_eq_true_eq] at h4
      exact h4 h3
  · exact absurd (hP i0 _ h0).lt (Nat.not_lt.mpr h)
def TXL : List (List Nat) := [[32, 115], [32, 98], [], [32, 119, 104, 101, 110, 32, 100, 97, 121, 62], [47, 52], [32, 119, 104, 101, 110, 32, 110, 111, 116, 32, 115, 113, 117, 101, 97, 107, 115], [32, 119, 104, 101, 110, 32, 114, 117, 115, 116], [62, 61], [47, 57], [32, 119, 104, 101, 110, 32, 98, 101, 97, 114, 115], [32, 111, 114, 32, 119, 111, 114, 109, 115], [60], [32, 119, 104, 101, 110, 32, 91, 113, 117, 97, 108, 105, 116, 121], [60, 61], [47, 53, 32, 97, 110, 100, 32, 100, 97, 109, 112, 62], [47, 50, 48, 93, 111, 114, 32, 110, 111, 116, 32, 100, 97, 121, 61], [47, 51], [32, 119, 104, 101, 110, 32, 109, 105, 110, 40, 99, 111, 105, 110, 115, 44], [41, 42, 50, 45, 100, 97, 121, 32, 60, 32], [32, 119, 104, 101, 110, 32], [47, 50, 42, 50, 61], [32, 119, 104, 101, 110, 32, 109, 97, 120, 40, 119, 111, 114, 109, 115], [44, 45, 114, 117, 115, 116], [41, 62], [47, 54], [98, 101, 97, 115, 116, 32, 98], [32, 103, 114, 105, 109, 32], [32, 102, 105, 110, 101, 32], [59], [99, 97, 114, 118, 101, 114, 32, 99], [32, 115, 107, 105, 108, 108, 32], [32, 112, 97, 99, 101, 32], [32, 108, 105, 107, 101, 115, 32, 98], [32, 59, 10], [115, 116, 97, 108, 108, 32, 115], [32, 111, 97, 107, 32], [98, 105, 115, 104, 111, 112, 32, 112], [32, 102, 114, 111, 109, 32], [111, 105, 108, 32, 115], [99, 97, 114, 118, 101, 32, 98], [32, 111, 110, 32, 115], [32, 98, 121, 32, 99], [59, 10]]
def TX (i : Nat) : List Nat := TXL.getD i []
def TXI : List Nat := [35, 54, 59, 61, 63, 65, 67, 69, 71, 73, 75, 77, 79, 81, 83, 85, 87, 89, 91, 93, 95, 97, 99, 101, 103, 118, 120, 122, 124, 129, 131, 133, 135, 137, 139, 141, 146, 148, 158, 160, 162, 164, 170]
def TXS : List String := [" s", " b", "", " when day>", "/4", " when not squeaks", " when rust", ">=", "/9", " when bears", " or worms", "<", " when [quality", "<=", "/5 and damp>", "/20]or not day=", "/3", " when min(coins,", ")*2-day < ", " when ", "/2*2=", " when max(worms", ",-rust", ")>", "/6", "beast b", " grim ", " fine ", ";", "carver c", " skill ", " pace ", " likes b", " ;\n", "stall s", " oak ", "bishop p", " from ", "oil s", "carve b", " on s", " by c", ";\n"]
def SBP : List MethodName := [yJ5_ensureCapacityInternal_d00df, yJ5_newCapacity_0f7a4, yJ5_putStringAt_47b60, yJ5_inflateIfNeededFor_a7421]
/-- the private methods of a builder are selected -/
def SelP (U : State) : Prop := ∀ y ∈ SBP, ∀ a : Array Value, (Cond.selects "java/lang/StringBuilder" y y).before a U = true
theorem SelP.warm {s U : State} (hW : s.WarmedH U.vm) (h : SelP s) : SelP U := fun y hy a => word_at hW (Or.inl rfl) (h y hy a)
theorem SelP.same {u U : State} (hv : u.vm = U.vm) (h : SelP u) : SelP U := fun y hy a => va_tabs rfl hv (h y hy a)
def TxR (z : Nat → Nat) (U : State) : Prop := ∀ i, i < 43 → vk_R RL (TXI.getD i 0) (TXS.getD i "") (z (300 + i)) U
def Ls (z : Nat → Nat) (A : Nat → Prop) (U : State) (H : Heap) : Prop :=
  (∀ i, i < 43 → StrS (z (300 + i)) (z (400 + i)) (TX i) A U H) ∧ TxR z U ∧ SelP U ∧
  va_Z "java/lang/String" "COMPACT_STRINGS" "Z" (.int 1) A U H ∧ va_Zq "jdk/internal/util/Preconditions" "SIOOBE_FORMATTER" "Ljava/util/function/BiFunction;" A U H ∧
  va_Z "java/lang/Integer" "DigitOnes" "[B" (.ref (z 290)) A U H ∧ va_T .byte (z 290) 100 (fun j => .int (nI (48 + j % 10))) A U H ∧
  va_Z "java/lang/Integer" "DigitTens" "[B" (.ref (z 291)) A U H ∧ va_T .byte (z 291) 100 (fun j => .int (nI (48 + j / 10))) A U H ∧ va_AOA .int U
section
variable {z : Nat → Nat} {A B : Nat → Prop} {U u s : State} {H H1 : Heap}
theorem Ls.str (h : Ls z A U H) {i : Nat} (hi : i < 43) : StrS (z (300 + i)) (z (400 + i)) (TX i) A U H := h.1 i hi
theorem Ls.txr (h : Ls z A U H) : TxR z U := h.2.1
theorem Ls.sel (h : Ls z A U H) : SelP U := h.2.2.1
theorem Ls.cs (h : Ls z A U H) : va_Z "java/lang/String" "COMPACT_STRINGS" "Z" (.int 1) A U H := h.2.2.2.1
theorem Ls.fm (h : Ls z A U H) : va_Zq "jdk/internal/util/Preconditions" "SIOOBE_FORMATTER" "Ljava/util/function/BiFunction;" A U H := h.2.2.2.2.1
theorem Ls.d1 (h : Ls z A U H) : va_Z "java/lang/Integer" "DigitOnes" "[B" (.ref (z 290)) A U H := h.2.2.2.2.2.1
theorem Ls.t1 (h : Ls z A U H) : va_T .byte (z 290) 100 (fun j => .int (nI (48 + j % 10))) A U H := h.2.2.2.2.2.2.1
theorem Ls.d2 (h : Ls z A U H) : va_Z "java/lang/Integer" "DigitTens" "[B" (.ref (z 291)) A U H := h.2.2.2.2.2.2.2.1
theorem Ls.t2 (h : Ls z A U H) : va_T .byte (z 291) 100 (fun j => .int (nI (48 + j / 10))) A U H := h.2.2.2.2.2.2.2.2.1
theorem Ls.ao (h : Ls z A U H) : va_AOA .int U := h.2.2.2.2.2.2.2.2.2
theorem Ls.kept (h : Ls z A U H) (hq : ∀ a : Nat, a < H.size → ¬ A a → H1[a]? = H[a]?) : Ls z A U H1 := ⟨fun i hi => (h.str hi).kept hq, h.txr, h.sel, h.cs.kept hq, h.fm.kept hq, h.d1.kept hq, h.t1.kept hq, h.d2.kept hq, h.t2.kept hq, h.ao⟩
theorem Ls.narrow (h : Ls z A U H) (hq : ∀ q, B q → A q) : Ls z B U H := ⟨fun i hi => (h.str hi).narrow hq, h.txr, h.sel, h.cs.narrow hq, h.fm.narrow hq, h.d1.narrow hq, h.t1.narrow hq, h.d2.narrow hq, h.t2.narrow hq, h.ao⟩
theorem Ls.moved (hx : TxR z U) (hs : SelP U) (hv : u.vm.Alike U.vm) (h : Ls z A u H) : Ls z A U H := ⟨fun i hi => (h.str hi).moved hv, hx, hs, va_Z.moved hv h.cs, va_Zq.moved hv h.fm, va_Z.moved hv h.d1, va_T.moved hv h.t1, va_Z.moved hv h.d2, va_T.moved hv h.t2, h.ao.moved hv⟩
theorem TxR.same (hv : U.vm = u.vm) (h : TxR z u) : TxR z U := fun i hi => vk_R.same hv (h i hi)
theorem TxR.warm (hW : s.WarmedH U.vm) (h : TxR z s) : TxR z U := fun i hi => vk_R.warm hW (h i hi)
end
def kPreL (z : Nat → Nat) (D : va_G) (g : Nat → ClassId) (w : va_W) (sz : Nat) : State → Prop := fun U => U.heap.size = sz ∧ va_P D CLS w U.heap ∧ va_K D CLS (TYS g) U ∧ va_D (fun _ => True) w ∧ Zs z (va_A w sz) U U.heap ∧ Ls z (va_A w sz) U U.heap
def kPreT (a b : Nat) (L : List Nat) (z : Nat → Nat) (D : va_G) (g : Nat → ClassId) (w : va_W) (sz : Nat) : State → Prop := fun U => U.heap.size = sz ∧ va_P D CLS w U.heap ∧ va_K D CLS (TYS g) U ∧ va_D (fun _ => True) w ∧ Zs z (va_A w sz) U U.heap ∧ Ls z (va_A w sz) U U.heap ∧ StrS a b L (va_A w sz) U U.heap
theorem kBlindL {z : Nat → Nat} {D : va_G} {g : Nat → ClassId} {w : va_W} {sz : Nat} {av : List Value} : FrameBlind (va_Pc av (kPreL z D g w sz)) := by
  intro a U gg mk q
  obtain ⟨q0, q1, qP, qK, qD, qZ, qY⟩ := q
  exact ⟨q0, q1, qP, va_K.moved (u := U) (U := U.calling gg mk a) (Vm.Alike.refl U.vm) qK, qD, Zs.moved (u := U) (U := U.calling gg mk a) (Nst.same (u := U) rfl qZ.1) (Vm.Alike.refl U.vm) qZ, Ls.moved (u := U) (U := U.calling gg mk a) (TxR.same (u := U) rfl qY.txr) (SelP.same (u := U) rfl qY.sel) (Vm.Alike.refl U.vm) qY⟩
theorem kBlindT {x y : Nat} {L : List Nat} {z : Nat → Nat} {D : va_G} {g : Nat → ClassId} {w : va_W} {sz : Nat} {av : List Value} : FrameBlind (va_Pc av (kPreT x y L z D g w sz)) := by
  intro a U gg mk q
  obtain ⟨q0, q1, qP, qK, qD, qZ, qY, qG⟩ := q
  exact ⟨q0, q1, qP, va_K.moved (u := U) (U := U.calling gg mk a) (Vm.Alike.refl U.vm) qK, qD, Zs.moved (u := U) (U := U.calling gg mk a) (Nst.same (u := U) rfl qZ.1) (Vm.Alike.refl U.vm) qZ, Ls.moved (u := U) (U := U.calling gg mk a) (TxR.same (u := U) rfl qY.txr) (SelP.same (u := U) rfl qY.sel) (Vm.Alike.refl U.vm) qY, StrS.moved (u := U) (U := U.calling gg mk a) (Vm.Alike.refl U.vm) qG⟩
section K3
variable {p : Program} {l : Launch} {e : Env} {R : Room} {s : State} {m : MethodId} {args : Array Value} {below : List Frame} {meth : Method} {c : Code} {H H0 : Heap} {locs : List Loc} {cells slots : Nat} {Q : State → Prop}
variable {z : Nat → Nat} {D : va_G} {g : Nat → ClassId} {A : Nat → Prop} {ws wc wr X cx pl : va_W} {cc : ByteArray} {a : Nat} {ls : Array Slot} {rest st0 : List Value} {mc ms : Nat}
theorem Ls.at (hY : Ls z A s s.heap) {B : Nat → Prop} (hS : va_S A s.heap H locs) (hF : ∀ q, B q → A q) {U : State} (hW : s.WarmedH U.vm) : Ls z B U H := Ls.moved (TxR.warm hW hY.txr) (SelP.warm hW hY.sel) hW.alike ((hY.kept hS.2.1).narrow hF)
theorem kPreL.pc {av : List Value} (hY : Ls z A s s.heap) (hK : va_K D CLS (TYS g) s) (hZ : Zs z A s s.heap) (hA : ∀ q : Nat, s.heap.size ≤ q → A q) (hP : va_P D CLS ws H) (hD : va_D A ws) (hS : va_S A s.heap H locs) (is : List Nat) (hs : is.map (fun i => ws[i]?) = wc.map some) (hn : va_nd is = true) : ∀ U : State, U.heap = H → s.WarmedH U.vm → va_Pc av (kPreL z D g wc H.size) av.toArray U := by
  intro U hU hW
  obtain ⟨a1, a2, a3, a4, a5⟩ := kPre.of hK hZ hA hP hD hS is hs hn U hU hW
  refine ⟨rfl, a1, a2, a3, a4, a5, ?_⟩
  rw [hU]
  exact hY.at hS (va_free hD hS hA is hs) hW
theorem kPreL.pcP {av : List Value} (hY : Ls z A s s.heap) (hK : va_K D CLS (TYS g) s) (hZ : Zs z A s s.heap) (hA : ∀ q : Nat, s.heap.size ≤ q → A q) (hP : va_P D CLS (X ++ pl) H) (hD : va_D A (X ++ pl)) (hS : va_S A s.heap H locs) (is : List Nat) (hs : is.map (fun i => X[i]?) = cx.map some) (hn : va_nd is = true) : ∀ U : State, U.heap = H → s.WarmedH U.vm → va_Pc av (kPreL z D g (cx ++ pl) H.size) av.toArray U := by
  intro U hU hW
  obtain ⟨a1, a2, a3, a4, a5⟩ := kPre.ofP hK hZ hA hP hD hS is hs hn U hU hW
  refine ⟨rfl, a1, a2, a3, a4, a5, ?_⟩
  rw [hU]
  exact hY.at hS (k_freeP hD hS hA is hs) hW
/-- with a text that stands from the start on -/
theorem kPreT.pc {av : List Value} {x y : Nat} {L : List Nat} (hG : StrS x y L A s s.heap) (hY : Ls z A s s.heap) (hK : va_K D CLS (TYS g) s) (hZ : Zs z A s s.heap) (hA : ∀ q : Nat, s.heap.size ≤ q → A q) (hP : va_P D CLS ws H) (hD : va_D A ws) (hS : va_S A s.heap H locs) (is : List Nat) (hs : is.map (fun i => ws[i]?) = wc.map some) (hn : va_nd is = true) : ∀ U : State, U.heap = H → s.WarmedH U.vm → va_Pc av (kPreT x y L z D g wc H.size) av.toArray U := by
  intro U hU hW
  obtain ⟨a1, a2, a3, a4, a5⟩ := kPre.of hK hZ hA hP hD hS is hs hn U hU hW
  refine ⟨rfl, a1, a2, a3, a4, a5, ?_⟩
  rw [hU]
  exact ⟨hY.at hS (va_free hD hS hA is hs) hW, StrS.moved hW.alike ((hG.kept hS.2.1).narrow (va_free hD hS hA is hs))⟩
/-- with a text that was made: at the places i0, i1 of the world, which the callee doesn't take -/
theorem kPreT.pcW {av : List Value} {x y n : Nat} {L : List Nat} {f : Nat → Int32} {hv zv : Value} (hts : ∀ w ∈ WALL, w.before args s = true) (i0 i1 : Nat) (h0 : ws[i0]? = some (x, .inr (11, [.ref y, .int 0, hv, zv]))) (h1 : ws[i1]? = some (y, .inl (g 3, n, .inl f))) (hn2 : n = L.length) (hf : ∀ j, j < L.length → f j = nI (L.getD j 0)) (hY : Ls z A s s.heap) (hK : va_K D CLS (TYS g) s) (hZ : Zs z A s s.heap) (hA : ∀ q : Nat, s.heap.size ≤ q → A q) (hP : va_P D CLS ws H) (hD : va_D A ws) (hS : va_S A s.heap H locs) (is : List Nat) (hs : is.map (fun i => ws[i]?) = wc.map some) (hn : va_nd is = true) (hi0 : is.all (fun i => decide (i ≠ i0)) = true) (hi1 : is.all (fun i => decide (i ≠ i1)) = true) : ∀ U : State, U.heap = H → s.WarmedH U.vm → va_Pc av (kPreT x y L z D g wc H.size) av.toArray U := by
  intro U hU hW
  obtain ⟨a1, a2, a3, a4, a5⟩ := kPre.of hK hZ hA hP hD hS is hs hn U hU hW
  refine ⟨rfl, a1, a2, a3, a4, a5, ?_⟩
  rw [hU]
  exact ⟨hY.at hS (va_free hD hS hA is hs) hW, StrS.moved hW.alike (StrS.ofW hts hK hP i0 i1 h0 h1 hn2 hf (out_of hD hP is hs i0 h0 hi0) (out_of hD hP is hs i1 h1 hi1))⟩
/-- a call of a private method of AbstractStringBuilder upon a builder -/
theorem k_cwUp {own : String} {index maxL : Nat} {y : MethodName} {bytes : ByteArray} {ret : Option FieldType} {wy ws' : List Cond} {rm : Room} (n : Nat) (hts : ∀ w ∈ WALL, w.before args s = true) (hG : GoodIn WALL wy) (hw : wy = Cond.code y bytes maxL ret :: ws') (h1 : Cond.methodLink own index y ∈ WALL) (h2 : Cond.sameMethod y.cls y.cls y.name y.desc ∈ WALL) (h3 : Cond.instanceMethod y ∈ WALL) (h4 : Cond.initialized y.cls ∈ WALL) (hsel : SelP s) (hy : y ∈ SBP) (hrc : rm.cells = mc) (hrs : rm.slots = ms)
    (hyx : y = ⟨y.cls, y.name, y.desc⟩) (hd : y.cls ≠ "java/lang/invoke/MethodHandle" ∧ y.cls ≠ "java/lang/invoke/VarHandle" ∧ (parseMethodDescriptor y.desc).map (fun d => d.parameters.length) = some n) (hR : rm.frames + 1 ≤ R.frames ∧ 8 + (maxL + 11) + rm.locals ≤ R.locals) : va_CU R s args own "java/lang/StringBuilder" y.cls index y y bytes maxL ret wy rm mc ms n := by
  have hc : Cond.code y bytes maxL ret ∈ wy := by rw [hw]; exact List.mem_cons_self
  refine ⟨⟨hrc, hrs, hR.1, hR.2, pay_in hts hG, hc⟩, hts _ (hG _ hc).1, hts _ h4, ⟨hd.1, hd.2.1⟩, fun sig h => ?_, hts _ h1, hts _ h2, by rw [← hyx]; exact va_Decl.of (hts _ h3) (hts _ (hG _ hc).1), hsel y hy args, hts _ h3⟩
  have h5 := hd.2.2
  rw [h] at h5
  exact (Option.some.inj h5).symm
end K3
theorem va_Zq.o {C n d : String} {A : Nat → Prop} {U : State} {H : Heap} (h : va_Zq C n d A U H) : ∃ o : Option Nat, va_Z C n d (va_rf o) A U H := by
  rcases h with h | ⟨t, h⟩
  · exact ⟨none, h⟩
  · exact ⟨some t, h⟩
theorem vO_recv {s : State} {H : Heap} {locs : List Loc} {A : Nat → Prop} {E : String} {t : Nat} (h : va_O E t A s s.heap) (hS : va_S A s.heap H locs) : ∃ cell : Cell, H[t]? = some cell ∧ cell.vm.isStatics = false ∧ s.vm.findClass E = some cell.cls := by
  obtain ⟨cell, h1, h2, h3, h4⟩ := h
  refine ⟨cell, ?_, h2, h3⟩
  rw [hS.2.1 t (Array.getElem?_eq_some_iff.mp h1).1 h4]; exact h1
theorem nb128 : ∀ k, k < 128 → vp_nar .byte (nI k) = nI k ∧ fits .byte (.int (nI k)) = true ∧ ((nI k &&& 255).toUInt32 % 65536).toInt32 = nI k ∧ narrow .char (.int (nI k)) = .int (nI k) := by decide +kernel
theorem nb_ok {k : Nat} (h : k < 128) : vp_nar .byte (nI k) = nI k := (nb128 k h).1
theorem nb_fit {k : Nat} (h : k < 128) : fits .byte (.int (nI k)) = true := (nb128 k h).2.1
def Asc (L : List Nat) : Prop := ∀ j, L.getD j 0 < 128
theorem Asc.of {L : List Nat} (h : L.all (fun c => decide (c < 128)) = true) : Asc L := by
  intro j
  rw [List.getD_eq_getElem?_getD]
  cases hj : L[j]? with
  | none => exact (by decide : (0 : Nat) < 128)
  | some c => exact of_decide_eq_true (List.all_eq_true.mp h c (List.mem_of_getElem? hj))
theorem getD_app {L T : List Nat} {j : Nat} : (L ++ T).getD j 0 = if j < L.length then L.getD j 0 else T.getD (j - L.length) 0 := by
  simp only [List.getD_eq_getElem?_getD]
  split
  · rename_i h; rw [List.getElem?_append_left h]
  · rename_i h; rw [List.getElem?_append_right (by omega)]
theorem Asc.app {L T : List Nat} (h1 : Asc L) (h2 : Asc T) : Asc (L ++ T) := by
  intro j; rw [getD_app]; split
  · exact h1 j
  · exact h2 _
theorem Asc.fit {L : List Nat} (h : Asc L) (j : Nat) : fits .byte (.int (nI (L.getD j 0))) = true := nb_fit (h j)
theorem TX_asc : ∀ i, i < 43 → Asc (TX i) := fun i hi => Asc.of ((by decide +kernel : ∀ i, i < 43 → (TX i).all (fun c => decide (c < 128)) = true) i hi)
/-- a builder's row of m bytes holds the letters L -/
def SbT (L : List Nat) (m : Nat) (f : Nat → Int32) : Prop := L.length ≤ m ∧ m ≤ 4002 ∧ (∀ j, j < L.length → f j = nI (L.getD j 0)) ∧ sb_Fit f
theorem SbT.nil : SbT [] 16 (fun _ => 0) := ⟨by decide, by decide, fun j h => absurd h (Nat.not_lt_zero j), sb_fit0⟩
theorem sub_le0 {a b : Nat} (ha : a < 1000000) (hb : b < 1000000) : nI a - nI b ≤ 0 ↔ a ≤ b := by
  rw [Int32.le_iff_toInt_le, pk_sub_toInt (by omega) (by omega), Int32.toInt_zero]
  omega
theorem cpy_in {T : List Nat} {bf : Nat → Int32} {L : List Nat} {m : Nat} (h : SbT L m bf) (hT : Asc T) (hm : (L ++ T).length ≤ m) : SbT (L ++ T) m (va_cpy (fun j => nI (T.getD j 0)) bf 0 L.length T.length) := by
  refine ⟨hm, h.2.1, fun j hj => ?_, fun j => ?_⟩
  · rw [getD_app]
    rw [List.length_append] at hj
    split
    · rename_i hl; rw [pk_cpy_out (Or.inl hl)]; exact h.2.2.1 j hl
    · rename_i hl; rw [pk_cpy_in (by omega) (by omega), Nat.zero_add]
  · by_cases h1 : L.length ≤ j ∧ j < L.length + T.length
    · rw [pk_cpy_in h1.1 h1.2]; exact hT.fit _
    · rw [pk_cpy_out (by omega)]; exact h.2.2.2 j
/-- the digits of v < 1000 -/
def dec (v : Nat) : List Nat := if v < 10 then [48 + v] else if v < 100 then [48 + v / 10, 48 + v % 10] else [48 + v / 100, 48 + v / 10 % 10, 48 + v % 10]
theorem dec_1 {v : Nat} (h : v < 10) : dec v = [48 + v] := if_pos h
theorem dec_2 {v : Nat} (h : ¬ v < 10) (h2 : v < 100) : dec v = [48 + v / 10, 48 + v % 10] := (if_neg h).trans (if_pos h2)
theorem dec_3 {v : Nat} (h2 : ¬ v < 100) : dec v = [48 + v / 100, 48 + v / 10 % 10, 48 + v % 10] := (if_neg (by omega)).trans (if_neg h2)
theorem dec_len {v : Nat} : 1 ≤ (dec v).length ∧ (dec v).length ≤ 3 := by
  unfold dec
  split
  · exact ⟨Nat.le_refl 1, (Nat.le_of_ble_eq_true rfl : 1 ≤ 3)⟩
  · split
    · exact ⟨(Nat.le_of_ble_eq_true rfl : 1 ≤ 2), (Nat.le_of_ble_eq_true rfl : 2 ≤ 3)⟩
    · exact ⟨(Nat.le_of_ble_eq_true rfl : 1 ≤ 3), Nat.le_refl 3⟩
theorem dec_asc {v : Nat} (h : v < 1000) : Asc (dec v) := by
  have : ∀ v, v < 1000 → (dec v).all (fun c => decide (c < 128)) = true := by decide +kernel
  exact Asc.of (this v h)
/-- what a row of bytes is behind the digits D, written up to p -/
def SbD (p : Nat) (D : List Nat) (f f2 : Nat → Int32) : Prop := (∀ j, j < p - D.length → f2 j = f j) ∧ (∀ j, j < D.length → f2 (p - D.length + j) = nI (D.getD j 0)) ∧ (sb_Fit f → sb_Fit f2)
theorem fit_u {f : Nat → Int32} {k c : Nat} (h : sb_Fit f) (hc : c < 128) : sb_Fit (upd f k (nI c)) := sb_fitU h (nb_fit hc)
theorem SbD_app {L : List Nat} {m v p : Nat} {f f2 : Nat → Int32} (h : SbT L m f) (hp : p = L.length + (dec v).length) (hm : p ≤ m) (h2 : SbD p (dec v) f f2) : SbT (L ++ dec v) m f2 := by
  subst hp
  obtain ⟨d1, d2, d3⟩ := h2
  refine ⟨by rw [List.length_append]; exact hm, h.2.1, fun j hj => ?_, d3 h.2.2.2⟩
  rw [getD_app]
  rw [List.length_append] at hj
  split
  · rename_i hl; rw [d1 j (by omega)]; exact h.2.2.1 j hl
  · rename_i hl
    have := d2 (j - L.length) (by omega)
    rw [show L.length + (dec v).length - (dec v).length + (j - L.length) = j by omega] at this
    exact this
section K4
variable {p : Program} {l : Launch} {e : Env} {R : Room} {s : State} {m : MethodId} {args : Array Value} {below : List Frame} {meth : Method} {c : Code} {H H0 : Heap} {locs : List Loc} {cells slots : Nat} {Q : State → Prop}
variable {z : Nat → Nat} {D : va_G} {g : Nat → ClassId} {A : Nat → Prop} {ws wc wr X cx pl : va_W} {cc : ByteArray} {pc a : Nat} {ls : Array Slot} {rest st0 : List Value} {mc ms : Nat}
theorem k_bst (hexec : p.tables.exec = Jvm.exec) (hb : c.code = cc) (hK : va_K D CLS (TYS g) s) (hP : va_P D CLS ws H) (hD : va_D A ws) (hS : va_S A H0 H locs) (q0 : Nat) {n i : Nat} {x : Int32} {f : Nat → Int32} (ha : ws[q0]? = some (a, .inl (g 3, n, .inl f))) (hi : i < n) (hn : n < 2147483648) (hx : vp_nar .byte x = x) (hdg : decode cc pc = .ok (.bastore, 1))
    (kk : ∀ (H1 : Heap) (locs1 : List Loc), va_P D CLS (ws.set q0 (a, .inl (g 3, n, .inl (upd f i x)))) H1 → va_D A (ws.set q0 (a, .inl (g 3, n, .inl (upd f i x)))) → va_S A H0 H1 locs1 → W p l e R s m args below meth c H1 locs1 cells slots Q (F0 m (pc + 1) ls rest)) : W p l e R s m args below meth c H locs cells slots Q (F0 m pc ls (.int x :: .int (nI i) :: .ref a :: rest)) := by
  refine va_bast hexec hb hK hP hD hS q0 3 ha rfl (vp_in_nI hi hn) hdg ?_
  rw [nI_clamp (by omega), hx]
  exact kk
theorem k_zst (hexec : p.tables.exec = Jvm.exec) (hb : c.code = cc) (hK : va_K D CLS (TYS g) s) (hP : va_P D CLS ws H) (hD : va_D A ws) (hS : va_S A H0 H locs) (q0 : Nat) {n i : Nat} {x : Int32} {f : Nat → Int32} (ha : ws[q0]? = some (a, .inl (g 5, n, .inl f))) (hi : i < n) (hn : n < 2147483648) (hx : vp_nar .boolean x = x) (hdg : decode cc pc = .ok (.bastore, 1))
    (kk : ∀ (H1 : Heap) (locs1 : List Loc), va_P D CLS (ws.set q0 (a, .inl (g 5, n, .inl (upd f i x)))) H1 → va_D A (ws.set q0 (a, .inl (g 5, n, .inl (upd f i x)))) → va_S A H0 H1 locs1 → W p l e R s m args below meth c H1 locs1 cells slots Q (F0 m (pc + 1) ls rest)) : W p l e R s m args below meth c H locs cells slots Q (F0 m pc ls (.int x :: .int (nI i) :: .ref a :: rest)) := by
  refine va_zast hexec hb hK hP hD hS q0 5 ha rfl (vp_in_nI hi hn) hdg ?_
  rw [nI_clamp (by omega), hx]
  exact kk
theorem k_bld (hexec : p.tables.exec = Jvm.exec) (hb : c.code = cc) (hK : va_K D CLS (TYS g) s) (hP : va_P D CLS ws H) (q0 : Nat) {n i : Nat} {f : Nat → Int32} (ha : ws[q0]? = some (a, .inl (g 3, n, .inl f))) (hi : i < n) (hn : n < 2147483648) (hdg : decode cc pc = .ok (.baload, 1))
    (kk : W p l e R s m args below meth c H locs cells slots Q (F0 m (pc + 1) ls (.int (f i) :: rest))) : W p l e R s m args below meth c H locs cells slots Q (F0 m pc ls (.int (nI i) :: .ref a :: rest)) := by
  refine va_bald hexec hb hK hP q0 3 ha rfl (vp_in_nI hi hn) hdg ?_
  rw [nI_clamp (by omega)]
  exact kk
theorem k_zld (hexec : p.tables.exec = Jvm.exec) (hb : c.code = cc) (hK : va_K D CLS (TYS g) s) (hP : va_P D CLS ws H) (q0 : Nat) {n i : Nat} {f : Nat → Int32} (ha : ws[q0]? = some (a, .inl (g 5, n, .inl f))) (hi : i < n) (hn : n < 2147483648) (hdg : decode cc pc = .ok (.baload, 1))
    (kk : W p l e R s m args below meth c H locs cells slots Q (F0 m (pc + 1) ls (.int (f i) :: rest))) : W p l e R s m args below meth c H locs cells slots Q (F0 m pc ls (.int (nI i) :: .ref a :: rest)) := by
  refine va_zald hexec hb hK hP q0 5 ha rfl (vp_in_nI hi hn) hdg ?_
  rw [nI_clamp (by omega)]
  exact kk
/-- a call up to the class above -/
theorem gw_SU {own : String} {idx : Nat} {y : MethodName} {b : ByteArray} {n : Nat} {r : Option FieldType} (h1 : Cond.methodLink own idx y ∈ WALL) (h2 : Cond.sameMethod y.cls y.cls y.name y.desc ∈ WALL) (h3 : Cond.superclass own y.cls ∈ WALL) (h4 : Cond.instanceMethod y ∈ WALL) (h6 : Cond.initialized y.cls ∈ WALL) (h5 : Cond.code y b n r ∈ WALL) : GoodIn WALL (va_wsSU own idx y (WS y b n r)) := by
  refine wl_good fun w hw => ?_
  simp only [va_wsSU, WS, List.cons_append, List.nil_append, List.mem_cons] at hw
  rcases hw with rfl | rfl | rfl | rfl | rfl | rfl | hw
  · exact h1
  · exact h2
  · exact h3
  · exact h4
  · exact h6
  · exact h5
  · exact hw
theorem gw_O {own : String} {idx : Nat} {C owner : String} {x y : MethodName} {b : ByteArray} {n : Nat} {r : Option FieldType} (h1 : Cond.methodLink own idx x ∈ WALL) (h2 : Cond.sameMethod x.cls owner x.name x.desc ∈ WALL) (h0 : Cond.instanceMethod ⟨owner, x.name, x.desc⟩ ∈ WALL) (h3 : Cond.selects C x y ∈ WALL) (h4 : Cond.instanceMethod y ∈ WALL) (h6 : Cond.initialized y.cls ∈ WALL) (h5 : Cond.code y b n r ∈ WALL) : GoodIn WALL (va_wsO own idx C owner x y (WS y b n r)) := by
  refine wl_good fun w hw => ?_
  simp only [va_wsO, WS, List.cons_append, List.nil_append, List.mem_cons] at hw
  rcases hw with rfl | rfl | rfl | rfl | rfl | rfl | rfl | hw
  · exact h1
  · exact h2
  · exact h0
  · exact h3
  · exact h4
  · exact h6
  · exact h5
  · exact hw
end K4
