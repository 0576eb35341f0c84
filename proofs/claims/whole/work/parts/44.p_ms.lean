/-! the JDK's texts that the reference asks: 29 words and the signs, at the addresses z 110 .. (bytes at z 150 ..) -/
def SL : List (List Int32) := [[98, 101, 97, 115, 116], [103, 114, 105, 109], [102, 105, 110, 101], [99, 97, 114, 118, 101, 114], [115, 107, 105, 108, 108], [112, 97, 99, 101], [108, 105, 107, 101, 115], [115, 116, 97, 108, 108], [111, 97, 107], [98, 105, 115, 104, 111, 112], [102, 114, 111, 109], [99, 97, 114, 118, 101], [111, 110], [98, 121], [111, 105, 108], [119, 104, 101, 110], [100, 97, 121], [100, 97, 109, 112], [113, 117, 97, 108, 105, 116, 121], [119, 111, 114, 109, 115], [114, 117, 115, 116], [99, 111, 105, 110, 115], [98, 101, 97, 114, 115], [115, 113, 117, 101, 97, 107, 115], [110, 111, 116], [97, 110, 100], [111, 114], [109, 105, 110], [109, 97, 120], [40, 41, 91, 93, 59, 44, 43, 45, 42, 47, 60, 62, 61]]
def SLn (i : Nat) : Nat := (SL.getD i []).length
def SB (i j : Nat) : Int32 := (SL.getD i []).getD j 0
def Ys (z : Nat → Nat) (A : Nat → Prop) (U : State) (H : Heap) : Prop :=
  (∀ i, i < 30 → va_O "java/lang/String" (z (110 + i)) A U H ∧ va_OF "java/lang/String" "coder" "B" (.int 0) (z (110 + i)) A U H ∧ va_OF "java/lang/String" "value" "[B" (.ref (z (150 + i))) (z (110 + i)) A U H ∧ va_T .byte (z (150 + i)) (SLn i) (fun j => .int (SB i j)) A U H) ∧
  va_Z "ChoirStallsModel" "WORDS" "[Ljava/lang/String;" (.ref (z 102)) A U H ∧ va_T (.object "java/lang/String") (z 102) 29 (fun j => .ref (z (110 + j))) A U H ∧
  va_Z "java/lang/String" "COMPACT_STRINGS" "Z" (.int 1) A U H ∧ va_Zq "jdk/internal/util/Preconditions" "SIOOBE_FORMATTER" "Ljava/util/function/BiFunction;" A U H ∧
  vk_R "ChoirStallsModel" 71 "()[];,+-*/<>=" (z 139) U
theorem Ys.kept {z : Nat → Nat} {A : Nat → Prop} {U : State} {H H1 : Heap} (h : Ys z A U H) (hq : ∀ a : Nat, a < H.size → ¬ A a → H1[a]? = H[a]?) : Ys z A U H1 := by
  obtain ⟨h0, h1, h2, h3, h4, h5⟩ := h
  exact ⟨fun i hi => ⟨(h0 i hi).1.kept hq, (h0 i hi).2.1.kept hq, (h0 i hi).2.2.1.kept hq, (h0 i hi).2.2.2.kept hq⟩, h1.kept hq, h2.kept hq, h3.kept hq, h4.kept hq, h5⟩
theorem Ys.narrow {z : Nat → Nat} {A B : Nat → Prop} {U : State} {H : Heap} (h : Ys z A U H) (hq : ∀ q, B q → A q) : Ys z B U H := by
  obtain ⟨h0, h1, h2, h3, h4, h5⟩ := h
  exact ⟨fun i hi => ⟨(h0 i hi).1.narrow hq, (h0 i hi).2.1.narrow hq, (h0 i hi).2.2.1.narrow hq, (h0 i hi).2.2.2.narrow hq⟩, h1.narrow hq, h2.narrow hq, h3.narrow hq, h4.narrow hq, h5⟩
theorem Ys.moved {z : Nat → Nat} {A : Nat → Prop} {u U : State} {H : Heap} (hn : vk_R "ChoirStallsModel" 71 "()[];,+-*/<>=" (z 139) U) (hv : u.vm.Alike U.vm) (h : Ys z A u H) : Ys z A U H := by
  obtain ⟨h0, h1, h2, h3, h4, h5⟩ := h
  exact ⟨fun i hi => ⟨va_O.moved hv (h0 i hi).1, va_OF.moved hv (h0 i hi).2.1, va_OF.moved hv (h0 i hi).2.2.1, va_T.moved hv (h0 i hi).2.2.2⟩, va_Z.moved hv h1, va_T.moved hv h2, va_Z.moved hv h3, va_Zq.moved hv h4, hn⟩
def kPreS (z : Nat → Nat) (D : va_G) (g : Nat → ClassId) (w : va_W) (sz : Nat) : State → Prop := fun U => U.heap.size = sz ∧ va_P D CLS w U.heap ∧ va_K D CLS (TYS g) U ∧ va_D (fun _ => True) w ∧ Zs z (va_A w sz) U U.heap ∧ Ys z (va_A w sz) U U.heap
theorem kBlindS {z : Nat → Nat} {D : va_G} {g : Nat → ClassId} {w : va_W} {sz : Nat} {av : List Value} : FrameBlind (va_Pc av (kPreS z D g w sz)) := by
  intro a U gg mk q
  obtain ⟨q0, q1, qP, qK, qD, qZ, qY⟩ := q
  exact ⟨q0, q1, qP, va_K.moved (u := U) (U := U.calling gg mk a) (Vm.Alike.refl U.vm) qK, qD, Zs.moved (u := U) (U := U.calling gg mk a) (Nst.same (u := U) rfl qZ.1) (Vm.Alike.refl U.vm) qZ, Ys.moved (u := U) (U := U.calling gg mk a) (vk_R.same (u := U) rfl qY.2.2.2.2.2) (Vm.Alike.refl U.vm) qY⟩
theorem kPreS.pc {s : State} {H : Heap} {locs : List Loc} {z : Nat → Nat} {D : va_G} {g : Nat → ClassId} {A : Nat → Prop} {ws wc : va_W} {av : List Value} (hY : Ys z A s s.heap) (hK : va_K D CLS (TYS g) s) (hZ : Zs z A s s.heap) (hA : ∀ q : Nat, s.heap.size ≤ q → A q) (hP : va_P D CLS ws H) (hD : va_D A ws) (hS : va_S A s.heap H locs) (is : List Nat) (hs : is.map (fun i => ws[i]?) = wc.map some) (hn : va_nd is = true) : ∀ U : State, U.heap = H → s.WarmedH U.vm → va_Pc av (kPreS z D g wc H.size) av.toArray U := by
  intro U hU hW
  obtain ⟨a1, a2, a3, a4, a5⟩ := kPre.of hK hZ hA hP hD hS is hs hn U hU hW
  refine ⟨rfl, a1, a2, a3, a4, a5, ?_⟩
  rw [hU]
  have h1 : Ys z A s H := hY.kept hS.2.1
  have h2 : Ys z (va_A wc H.size) s H := h1.narrow (va_free hD hS hA is hs)
  exact Ys.moved (vk_R.warm hW hY.2.2.2.2.2) hW.alike h2
theorem vO_recv {s : State} {H : Heap} {locs : List Loc} {A : Nat → Prop} {E : String} {t : Nat} (h : va_O E t A s s.heap) (hS : va_S A s.heap H locs) : ∃ cell : Cell, H[t]? = some cell ∧ cell.vm.isStatics = false ∧ s.vm.findClass E = some cell.cls := by
  obtain ⟨cell, h1, h2, h3, h4⟩ := h
  refine ⟨cell, ?_, h2, h3⟩
  rw [hS.2.1 t (Array.getElem?_eq_some_iff.mp h1).1 h4]; exact h1
theorem va_Zq.o {C n d : String} {A : Nat → Prop} {U : State} {H : Heap} (h : va_Zq C n d A U H) : ∃ o : Option Nat, va_Z C n d (va_rf o) A U H := by
  rcases h with h | ⟨t, h⟩
  · exact ⟨none, h⟩
  · exact ⟨some t, h⟩
theorem SB_ok : ∀ i, i < 30 → ∀ j, j < SLn i → ((SB i j &&& 255).toUInt32 % 65536).toInt32 = SB i j ∧ narrow .char (.int (SB i j)) = .int (SB i j) := by decide +kernel
theorem SLn_lt : ∀ i, i < 30 → SLn i < 14 ∧ 0 < SLn i := by decide +kernel
theorem shr0 (x : Int32) : x >>> ((0 : Int32) &&& 31) = x := by
  rw [show ((0 : Int32) &&& 31) = 0 from by decide]; exact Int32.shiftRight_zero
def sIx (i : Nat) (c : Int32) : Int32 := oI (ffind (fun j => decide (SB i j = c.toInt8.toInt32)) (SLn i))
def canE (c : Int32) : Bool := decide (0 ≤ c ∧ c ≤ 255)
/-- which word stands at p, L bytes long -/
def wEq (f : Nat → Int32) (p L w : Nat) : Bool := decide (L = SLn w ∧ ∀ j, j < L → f (p + j) = SB w j)
def wRes (f : Nat → Int32) (p L : Nat) : Int32 := match ffind (wEq f p L) 29 with
  | some w => nI w
  | none => 30
section
variable {f : Nat → Int32} {p L w s : Nat}
theorem wEq_t (hs : ∀ j, j < s → f (p + j) = SB w j) (h1 : s = L) (h2 : s = SLn w) : wEq f p L w = true := decide_eq_true ⟨by omega, fun j hj => hs j (by omega)⟩
theorem wEq_f (hl : s ≤ L) (h : ¬ (s = L ∧ s = SLn w)) (hx : L ≤ s ∨ SLn w ≤ s ∨ ¬ SB w s = f (p + s)) (hw : s ≤ SLn w) : wEq f p L w = false := by
  refine decide_eq_false (fun q => ?_)
  rcases hx with hx | hx | hx
  · exact h ⟨by omega, by omega⟩
  · exact h ⟨by omega, by omega⟩
  · rcases Nat.lt_or_ge s L with a | a
    · exact hx (q.2 s a).symm
    · exact h ⟨by omega, by omega⟩
theorem wRes_s (h : w < 29) (ht : wEq f p L w = true) (hf : ∀ j, j < w → wEq f p L j = false) : wRes f p L = nI w := by unfold wRes; rw [ffind_some h ht hf]
theorem wRes_n (h : w = 29) (hf : ∀ j, j < w → wEq f p L j = false) : wRes f p L = 30 := by unfold wRes; subst h; rw [ffind_none hf]
end
