/-! rows in any number: arrays of arrays of ints, behind the cells that are told one by one -/
def va_AOA (t : FieldType) (U : State) : Prop := (Cond.arrayOver (.array t)).before #[] U = true
theorem va_AOA.use {t : FieldType} {A : Array Value} {U : State} (h : va_AOA t U) : (Cond.arrayOver (.array t)).before A U = true := h
theorem va_AOA.moved {t : FieldType} {u U : State} (hv : u.vm.Alike U.vm) (h : va_AOA t u) : va_AOA t U := over_moved hv h
theorem nmII : "[" ++ (FieldType.array FieldType.int).toString = "[[I" := by decide +kernel
theorem nmI1 : (FieldType.array FieldType.int).toString = "[I" := by decide +kernel
theorem va_AOA.comp {D : va_G} {g : Nat → ClassId} {s : State} (hK : va_K D CLS (TYS g) s) (h : va_AOA .int s) : ∃ kA kC : Class, s.vm.classes[g 4]? = some kA ∧ kA.kind = .array (g 0) (.array .int) ∧ s.vm.classes[g 0]? = some kC := by
  obtain ⟨comp, c, k, h1, h2, h3, h4, h5⟩ := arrayOverA_spec h
  have a0 : s.vm.findClass "[I" = some (g 0) := va_nm_int (hK.2 0 _ rfl).2
  have a4 : s.vm.findClass ("[" ++ (FieldType.array FieldType.int).toString) = some (g 4) := (hK.2 4 _ rfl).2
  rw [nmI1] at h1
  have e0 : comp = g 0 := Option.some.inj (h1.symm.trans a0)
  have e4 : c = g 4 := Option.some.inj (h5.symm.trans a4)
  subst e0 e4
  obtain ⟨kE, hkE, -⟩ := Vm.findClass_spec a0
  exact ⟨k, kE, h3, h4, hkE⟩
theorem as_self (vm : Vm) (c : ClassId) : vm.assignable c c = true := by
  show vm.assignableAux (255 + 1) c c = true
  rw [Vm.assignableAux, beq_self_eq_true, Bool.true_or]
theorem k_clsB {D : va_G} {g : Nat → ClassId} {s : State} {cA : ClassId} (h : va_K D CLS (TYS g) s) (h9 : va_K D CLS (TYS g ++ [(cA, .byte)]) s) : cA = g 3 := by
  have a1 : s.vm.findClass _ = some (g 3) := (h.2 3 _ rfl).2
  have a2 : s.vm.findClass _ = some cA := (h9.2 6 _ rfl).2
  exact Option.some.inj (a2.symm.trans a1)
theorem k_clsZ {D : va_G} {g : Nat → ClassId} {s : State} {cA : ClassId} (h : va_K D CLS (TYS g) s) (h9 : va_K D CLS (TYS g ++ [(cA, .boolean)]) s) : cA = g 5 := by
  have a1 : s.vm.findClass _ = some (g 5) := (h.2 5 _ rfl).2
  have a2 : s.vm.findClass _ = some cA := (h9.2 6 _ rfl).2
  exact Option.some.inj (a2.symm.trans a1)
/-- the first b places are filled -/
def bld (ad : Nat → Nat) (b : Nat) : Nat → Option Nat := fun j => if j < b then some (ad j) else none
theorem bld_0 {ad : Nat → Nat} : (fun _ => none) = bld ad 0 := by funext j; unfold bld; rw [if_neg (Nat.not_lt_zero j)]
theorem bld_in {ad : Nat → Nat} {b i : Nat} (h : i < b) : bld ad b i = some (ad i) := if_pos h
theorem bld_up {ad : Nat → Nat} {b v : Nat} : va_up (bld ad b) b (some v) = bld (va_up ad b v) (b + 1) := by
  funext j
  by_cases h : j = b
  · subst h; rw [va_up_self, bld_in (Nat.lt_succ_self j), va_up_self]
  · rw [va_up_ne _ _ h]
    by_cases h2 : j < b
    · rw [bld_in h2, bld_in (Nat.lt_succ_of_lt h2), va_up_ne _ _ h]
    · unfold bld; rw [if_neg h2, if_neg (by omega)]
/-- n rows of k ints each, M what they hold -/
def rowW (g0 : ClassId) (ad : Nat → Nat) (n k : Nat) (M : Nat → Nat → Int32) : va_W := (List.range n).map (fun i => (ad i, .inl (g0, k, .inl (M i))))
def kw (j : Nat) : Nat := if j = 0 then 2 else if j = 1 then 4 else if j = 2 then 5 else if j = 3 then 2 else 10
theorem kw_lt (j : Nat) : kw j < 2147483648 := by unfold kw; (repeat' split) <;> omega
def simW (g0 : ClassId) (ad : Nat → Nat → Nat) (nn : Nat → Nat) (M : Nat → Nat → Nat → Int32) : va_W :=
  rowW g0 (ad 0) (nn 0) 2 (M 0) ++ (rowW g0 (ad 1) (nn 1) 4 (M 1) ++ (rowW g0 (ad 2) (nn 2) 5 (M 2) ++ (rowW g0 (ad 3) (nn 3) 2 (M 3) ++ rowW g0 (ad 4) (nn 4) 10 (M 4))))
def upE (M : Nat → Nat → Nat → Int32) (j i q : Nat) (v : Int32) : Nat → Nat → Nat → Int32 := fun j' i' => if j' = j ∧ i' = i then upd (M j i) q v else M j' i'
def upA (ad : Nat → Nat → Nat) (j i v : Nat) : Nat → Nat → Nat := fun j' => if j' = j then va_up (ad j) i v else ad j'
theorem upE_s {M : Nat → Nat → Nat → Int32} {j i q : Nat} {v : Int32} : upE M j i q v j i = upd (M j i) q v := if_pos ⟨rfl, rfl⟩
theorem upE_n {M : Nat → Nat → Nat → Int32} {j i q j' i' : Nat} {v : Int32} (h : ¬ (j' = j ∧ i' = i)) : upE M j i q v j' i' = M j' i' := if_neg h
theorem pmL {x : Nat × va_E} {L W0 P : va_W} (h : L.Perm (x :: W0)) : (P ++ L).Perm (x :: (P ++ W0)) := (h.append_left P).trans List.perm_middle
theorem pmR {x : Nat × va_E} {L W0 P : va_W} (h : L.Perm (x :: W0)) : (L ++ P).Perm (x :: (W0 ++ P)) := h.append_right P
theorem rowW_at {g0 : ClassId} {ad : Nat → Nat} {n k i : Nat} {M : Nat → Nat → Int32} (hi : i < n) : ∃ W0 : va_W, ∀ M' : Nat → Nat → Int32, (∀ i', i' ≠ i → M' i' = M i') → (rowW g0 ad n k M').Perm ((ad i, .inl (g0, k, .inl (M' i))) :: W0) := by
  refine ⟨((List.range n).erase i).map (fun i => (ad i, .inl (g0, k, .inl (M i)))), fun M' h => ?_⟩
  refine ((List.perm_cons_erase (List.mem_range.mpr hi)).map (fun i => (ad i, (.inl (g0, k, .inl (M' i)) : va_E)))).trans ?_
  rw [List.map_cons]
  refine List.Perm.cons _ ?_
  rw [show ((List.range n).erase i).map (fun i => (ad i, (.inl (g0, k, .inl (M' i)) : va_E))) = ((List.range n).erase i).map (fun i => (ad i, (.inl (g0, k, .inl (M i)) : va_E))) from List.map_congr_left fun i' hi' => by rw [h i' ((List.nodup_range).mem_erase_iff.mp hi').1]]
theorem rowW_c {g0 : ClassId} {ad : Nat → Nat} {n k : Nat} {M M' : Nat → Nat → Int32} (h : ∀ i, M' i = M i) : rowW g0 ad n k M' = rowW g0 ad n k M := by rw [show M' = M from funext h]
theorem simW_at {g0 : ClassId} {ad : Nat → Nat → Nat} {nn : Nat → Nat} {j i : Nat} {M : Nat → Nat → Nat → Int32} (hj : j < 5) (hi : i < nn j) : ∃ W0 : va_W, ∀ M' : Nat → Nat → Nat → Int32, (∀ j' i', ¬ (j' = j ∧ i' = i) → M' j' i' = M j' i') → (simW g0 ad nn M').Perm ((ad j i, .inl (g0, kw j, .inl (M' j i))) :: W0) := by
  obtain ⟨W0, h0⟩ := rowW_at (g0 := g0) (ad := ad j) (k := kw j) (M := M j) hi
  have ho : ∀ (M' : Nat → Nat → Nat → Int32), (∀ j' i', ¬ (j' = j ∧ i' = i) → M' j' i' = M j' i') → ∀ j', j' ≠ j → M' j' = M j' := fun M' h j' hj' => funext fun i' => h j' i' (fun q => hj' q.1)
  have hr : ∀ (M' : Nat → Nat → Nat → Int32), (∀ j' i', ¬ (j' = j ∧ i' = i) → M' j' i' = M j' i') → (rowW g0 (ad j) (nn j) (kw j) (M' j)).Perm ((ad j i, .inl (g0, kw j, .inl (M' j i))) :: W0) := fun M' h => h0 (M' j) (fun i' hi' => h j i' (fun q => hi' q.2))
  match j, hj with
  | 0, _ => exact ⟨_, fun M' h => by unfold simW; rw [ho M' h 1 (by decide), ho M' h 2 (by decide), ho M' h 3 (by decide), ho M' h 4 (by decide)]; exact pmR (hr M' h)⟩
  | 1, _ => exact ⟨_, fun M' h => by unfold simW; rw [ho M' h 0 (by decide), ho M' h 2 (by decide), ho M' h 3 (by decide), ho M' h 4 (by decide)]; exact pmL (pmR (hr M' h))⟩
  | 2, _ => exact ⟨_, fun M' h => by unfold simW; rw [ho M' h 0 (by decide), ho M' h 1 (by decide), ho M' h 3 (by decide), ho M' h 4 (by decide)]; exact pmL (pmL (pmR (hr M' h)))⟩
  | 3, _ => exact ⟨_, fun M' h => by unfold simW; rw [ho M' h 0 (by decide), ho M' h 1 (by decide), ho M' h 2 (by decide), ho M' h 4 (by decide)]; exact pmL (pmL (pmL (pmR (hr M' h))))⟩
  | 4, _ => exact ⟨_, fun M' h => by unfold simW; rw [ho M' h 0 (by decide), ho M' h 1 (by decide), ho M' h 2 (by decide), ho M' h 3 (by decide)]; exact pmL (pmL (pmL (pmL (hr M' h))))⟩
  | j + 5, h => exact absurd h (by omega)
theorem rowW_push {g0 : ClassId} {ad : Nat → Nat} {n k v : Nat} {M : Nat → Nat → Int32} : (rowW g0 (va_up ad n v) (n + 1) k M).Perm ((v, .inl (g0, k, .inl (M n))) :: rowW g0 ad n k M) := by
  unfold rowW
  rw [show n + 1 = Nat.succ n from rfl, List.range_succ, List.map_append, List.map_cons, List.map_nil, va_up_self]
  rw [show (List.range n).map (fun i => (va_up ad n v i, (.inl (g0, k, .inl (M i)) : va_E))) = (List.range n).map (fun i => (ad i, (.inl (g0, k, .inl (M i)) : va_E))) from List.map_congr_left fun i hi => by rw [va_up_ne _ _ (Nat.ne_of_lt (List.mem_range.mp hi))]]
  exact (List.perm_middle (l₂ := [])).trans (by rw [List.append_nil])
theorem simW_push {g0 : ClassId} {ad : Nat → Nat → Nat} {nn : Nat → Nat} {j v : Nat} {M : Nat → Nat → Nat → Int32} (hj : j < 5) : (simW g0 (upA ad j (nn j) v) (updN nn j (nn j + 1)) M).Perm ((v, .inl (g0, kw j, .inl (M j (nn j)))) :: simW g0 ad nn M) := by
  have hn : ∀ j', j' ≠ j → updN nn j (nn j + 1) j' = nn j' := fun j' h => if_neg h
  have ha : ∀ j', j' ≠ j → upA ad j (nn j) v j' = ad j' := fun j' h => if_neg h
  have hs : updN nn j (nn j + 1) j = nn j + 1 := if_pos rfl
  have hsa : upA ad j (nn j) v j = va_up (ad j) (nn j) v := if_pos rfl
  have hp := rowW_push (g0 := g0) (ad := ad j) (n := nn j) (k := kw j) (v := v) (M := M j)
  match j, hj with
  | 0, _ => unfold simW; rw [hn 1 (by decide), hn 2 (by decide), hn 3 (by decide), hn 4 (by decide), ha 1 (by decide), ha 2 (by decide), ha 3 (by decide), ha 4 (by decide), hs, hsa]; exact pmR hp
  | 1, _ => unfold simW; rw [hn 0 (by decide), hn 2 (by decide), hn 3 (by decide), hn 4 (by decide), ha 0 (by decide), ha 2 (by decide), ha 3 (by decide), ha 4 (by decide), hs, hsa]; exact pmL (pmR hp)
  | 2, _ => unfold simW; rw [hn 0 (by decide), hn 1 (by decide), hn 3 (by decide), hn 4 (by decide), ha 0 (by decide), ha 1 (by decide), ha 3 (by decide), ha 4 (by decide), hs, hsa]; exact pmL (pmL (pmR hp))
  | 3, _ => unfold simW; rw [hn 0 (by decide), hn 1 (by decide), hn 2 (by decide), hn 4 (by decide), ha 0 (by decide), ha 1 (by decide), ha 2 (by decide), ha 4 (by decide), hs, hsa]; exact pmL (pmL (pmL (pmR hp)))
  | 4, _ => unfold simW; rw [hn 0 (by decide), hn 1 (by decide), hn 2 (by decide), hn 3 (by decide), ha 0 (by decide), ha 1 (by decide), ha 2 (by decide), ha 3 (by decide), hs, hsa]; exact pmL (pmL (pmL (pmL hp)))
  | j + 5, h => exact absurd h (by omega)
theorem va_P.perm {D : va_G} {cl : List vw_C} {ws ws' : va_W} {H : Heap} (h : va_P D cl ws H) (hp : ws.Perm ws') : va_P D cl ws' H := fun k q hk => by
  obtain ⟨k2, hk2⟩ := List.getElem?_of_mem (hp.mem_iff.mpr (List.mem_of_getElem? hk))
  exact h k2 q hk2
theorem va_D.pw {A : Nat → Prop} {ws : va_W} (h : va_D A ws) : ws.Pairwise (fun p q => p.1 ≠ q.1) := by
  rw [List.pairwise_iff_getElem]
  intro i j hi hj hij e
  exact absurd (h.1 i j _ _ (List.getElem?_eq_getElem hi) (List.getElem?_eq_getElem hj) e) (by omega)
theorem va_D.perm {A : Nat → Prop} {ws ws' : va_W} (h : va_D A ws) (hp : ws.Perm ws') : va_D A ws' := by
  have h2 : ws'.Pairwise (fun p q => p.1 ≠ q.1) := hp.pairwise h.pw (fun hxy e => hxy e.symm)
  rw [List.pairwise_iff_getElem] at h2
  refine ⟨fun i j p q hi hj e => ?_, fun k q hk => ?_⟩
  · obtain ⟨hi1, hi2⟩ := List.getElem?_eq_some_iff.mp hi
    obtain ⟨hj1, hj2⟩ := List.getElem?_eq_some_iff.mp hj
    rcases Nat.lt_trichotomy i j with q | q | q
    · exact absurd (by rw [hi2, hj2]; exact e) (h2 i j hi1 hj1 q)
    · exact q
    · exact absurd (by rw [hi2, hj2]; exact e.symm) (h2 j i hj1 hi1 q)
  · obtain ⟨k2, hk2⟩ := List.getElem?_of_mem (hp.mem_iff.mpr (List.mem_of_getElem? hk))
    exact h.2 k2 q hk2
theorem rowP {D : va_G} {cl : List vw_C} {ws : va_W} {H : Heap} {x : Nat × va_E} (h : va_P D cl ws H) (hx : x ∈ ws) : va_P D cl [x] H := fun k q hk => by
  obtain ⟨k2, hk2⟩ := List.getElem?_of_mem hx
  match k, hk with
  | 0, hk => cases hk; exact h k2 _ hk2
  | k + 1, hk => simp at hk
theorem simW_mem {g0 : ClassId} {ad : Nat → Nat → Nat} {nn : Nat → Nat} {j i : Nat} {M : Nat → Nat → Nat → Int32} (hj : j < 5) (hi : i < nn j) : ((ad j i, .inl (g0, kw j, .inl (M j i))) : Nat × va_E) ∈ simW g0 ad nn M := by
  obtain ⟨W0, h⟩ := simW_at (g0 := g0) (ad := ad) (M := M) hj hi
  exact (h M (fun _ _ _ => rfl)).mem_iff.mpr List.mem_cons_self
theorem va_freeD {A0 : Nat → Prop} {wc : va_W} {H0 H : Heap} {locs : List Loc} (hDc : va_D A0 wc) (hS : va_S A0 H0 H locs) (hA : ∀ q, H0.size ≤ q → A0 q) : ∀ q, va_A wc H.size q → A0 q := by
  intro q h
  rcases h with ⟨k, e, hk⟩ | h
  · exact hDc.2 k _ hk
  · exact hA q (Nat.le_trans hS.1 h)
theorem k_freeP {A0 : Nat → Prop} {X cx pl : va_W} {H0 H : Heap} {locs : List Loc} (hD : va_D A0 (X ++ pl)) (hS : va_S A0 H0 H locs) (hA : ∀ q, H0.size ≤ q → A0 q) (is : List Nat) (hs : is.map (fun i => X[i]?) = cx.map some) : ∀ q, va_A (cx ++ pl) H.size q → A0 q := by
  intro q h
  rcases h with ⟨k, e, hk⟩ | h
  · exact hD.2 _ _ (va_part is hs k _ hk)
  · exact hA q (Nat.le_trans hS.1 h)
theorem k_freeQ {A0 : Nat → Prop} {X cx pl : va_W} {H0 H : Heap} {locs : List Loc} (hD : va_D A0 (X ++ pl)) (hS : va_S A0 H0 H locs) (hA : ∀ q, H0.size ≤ q → A0 q) (is : List Nat) (hs : is.map (fun i => X[i]?) = cx.map some) : ∀ q, va_A cx H.size q → A0 q := by
  intro q h
  rcases h with ⟨k, e, hk⟩ | h
  · have h1 := va_part (pl := pl) is hs k (q, e) (by rw [List.getElem?_append_left (List.getElem?_eq_some_iff.mp hk).1]; exact hk)
    exact hD.2 _ _ h1
  · exact hA q (Nat.le_trans hS.1 h)
theorem nd_i {is : List Nat} {X cx : va_W} (hn : va_nd is = true) : va_nd is = true := hn
section K2
variable {p : Program} {l : Launch} {e : Env} {R : Room} {s : State} {m : MethodId} {args : Array Value} {below : List Frame} {meth : Method} {c : Code} {H H0 : Heap} {locs : List Loc} {cells slots : Nat} {Q : State → Prop}
variable {z : Nat → Nat} {D : va_G} {g : Nat → ClassId} {A : Nat → Prop} {ws wc wr X cx pl : va_W} {cc : ByteArray} {pc a : Nat} {ls : Array Slot} {rest st0 : List Value} {mc ms : Nat}
theorem kPre.ofP (hK : va_K D CLS (TYS g) s) (hZ : Zs z A s s.heap) (hA : ∀ q : Nat, s.heap.size ≤ q → A q) (hP : va_P D CLS (X ++ pl) H) (hD : va_D A (X ++ pl)) (hS : va_S A s.heap H locs) (is : List Nat) (hs : is.map (fun i => X[i]?) = cx.map some) (hn : va_nd is = true) : ∀ U : State, U.heap = H → s.WarmedH U.vm → kPre z D g (cx ++ pl) H.size U := by
  intro U hU hW
  refine ⟨by rw [hU], by rw [hU]; exact hP.part is hs, va_K.moved hW.alike hK, (hD.part is hn hs).weaken (fun _ _ _ _ => trivial), ?_⟩
  rw [hU]
  have h1 : Zs z A s H := hZ.kept hS.2.1
  exact Zs.moved (Nst.warm hW hZ.1) hW.alike (h1.narrow (k_freeP hD hS hA is hs))
theorem kPre.pcP {av : List Value} (hK : va_K D CLS (TYS g) s) (hZ : Zs z A s s.heap) (hA : ∀ q : Nat, s.heap.size ≤ q → A q) (hP : va_P D CLS (X ++ pl) H) (hD : va_D A (X ++ pl)) (hS : va_S A s.heap H locs) (is : List Nat) (hs : is.map (fun i => X[i]?) = cx.map some) (hn : va_nd is = true) : ∀ U : State, U.heap = H → s.WarmedH U.vm → va_Pc av (kPre z D g (cx ++ pl) H.size) av.toArray U := fun U h1 h2 => ⟨rfl, kPre.ofP hK hZ hA hP hD hS is hs hn U h1 h2⟩
theorem k_aldB (hexec : p.tables.exec = Jvm.exec) (hb : c.code = cc) (hK : va_K D CLS (TYS g) s) (hP : va_P D CLS ws H) (q0 : Nat) {n b : Nat} {ad : Nat → Nat} (ha : ws[q0]? = some (a, .inl (g 4, n, .inr (.inr (.inr (.inr (bld ad b))))))) {i : Nat} (hi : i < b) (hbn : b ≤ n) (hn : n < 2147483648) (hdg : decode cc pc = .ok (.aaload, 1))
    (kk : W p l e R s m args below meth c H locs cells slots Q (F0 m (pc + 1) ls (.ref (ad i) :: rest))) : W p l e R s m args below meth c H locs cells slots Q (F0 m pc ls (.int (nI i) :: .ref a :: rest)) := by
  have hin : vp_in (nI i) n := vp_in_nI (by omega) hn
  have hcl : (nI i).toNatClampNeg = i := nI_clamp (by omega)
  have hlt : (nI i).toNatClampNeg < n := by rw [hcl]; omega
  exact W.aald (v := .ref (ad i)) (ty := .array .int) hexec hb (hP q0 _ ha) ((hK.2 4 _ rfl).1 n (fun j => va_rf (bld ad b j))) rfl (fun q => by cases q) (by show ¬ (nI i < 0 ∨ (arrV _ _ _).slots.size ≤ _); rw [arrV_size]; exact hin) (by show (arrV _ _ _).slots[_]? = _; rw [arrV_read _ _ hlt, hcl, bld_in hi]; rfl) rfl rfl hdg kk
theorem k_astB (hexec : p.tables.exec = Jvm.exec) (hb : c.code = cc) (hO : va_AOA .int s) (hK : va_K D CLS (TYS g) s) (hP : va_P D CLS ws H) (hD : va_D A ws) (hS : va_S A H0 H locs) (q0 qk : Nat) {n b v k : Nat} {ad : Nat → Nat} {f : Nat → Int32} (ha : ws[q0]? = some (a, .inl (g 4, n, .inr (.inr (.inr (.inr (bld ad b))))))) (hv : ws[qk]? = some (v, .inl (g 0, k, .inl f))) (hi : b < n) (hn : n < 2147483648) (hdg : decode cc pc = .ok (.aastore, 1))
    (kk : ∀ (H1 : Heap) (locs1 : List Loc), va_P D CLS (ws.set q0 (a, .inl (g 4, n, .inr (.inr (.inr (.inr (bld (va_up ad b v) (b + 1)))))))) H1 → va_D A (ws.set q0 (a, .inl (g 4, n, .inr (.inr (.inr (.inr (bld (va_up ad b v) (b + 1)))))))) → va_S A H0 H1 locs1 → W p l e R s m args below meth c H1 locs1 cells slots Q (F0 m (pc + 1) ls rest)) : W p l e R s m args below meth c H locs cells slots Q (F0 m pc ls (.ref v :: .int (nI b) :: .ref a :: rest)) := by
  have hcl : (nI b).toNatClampNeg = b := nI_clamp (by omega)
  obtain ⟨kA, kC, k1, k2, k3⟩ := hO.comp hK
  have g1 : H[v]? = some (vp_cell (g 0) (k, .inl f)) := hP qk _ hv
  refine W.aast hexec hb (hP q0 _ ha) (fun q h => by cases h) (fun h => by cases h) k1 k2 rfl k3 ⟨nI_pos (by omega), by show _ < (arrV _ _ _).slots.size; rw [arrV_size, hcl]; exact hi⟩ g1 (fun q h => by cases h) k3 (as_self s.vm (g 0)) rfl rfl hdg fun H1 e z oq => ?_
  have hat : H1[a]? = some (vp_cell (g 4) (n, .inr (.inr (.inr (.inr (bld (va_up ad b v) (b + 1))))))) := by
    rw [e, vp_cell_q, vp_cell_q, arrV_store]
    congr 2
    funext q
    rw [← bld_up, hcl]
    by_cases hq : q = b
    · subst hq
      simp [updV, va_up, va_rf]
    · simp [updV, va_up, hq]
  exact kk H1 _ (hP.set hD ha hat oq) (hD.set ha) (hS.put z oq (hD.2 q0 _ ha))
theorem k_newA (hexec : p.tables.exec = Jvm.exec) (hb : c.code = cc) {own : String} {index : Nat} (hown : s.vm.findClass own = some m.cls) (hcl : (Cond.classLink own index "[I").before args s = true) (hO : va_AOA .int s) (hK : va_K D CLS (TYS g) s) (hP : va_P D CLS (X ++ pl) H) (hD : va_D A (X ++ pl)) (hS : va_S A H0 H locs) (hA : ∀ q, H0.size ≤ q → A q) (ad : Nat → Nat)
    {N : Nat} (hN : N < 1000) (hcells : cells + 1 ≤ R.cells) (hslots : slots + N ≤ R.slots) (hdg : decode cc pc = .ok (.anewarray index, 3))
    (kk : ∀ (q : Nat) (H1 : Heap), va_P D CLS ((X ++ [(q, .inl (g 4, N, .inr (.inr (.inr (.inr (bld ad 0))))))]) ++ pl) H1 → va_D A ((X ++ [(q, .inl (g 4, N, .inr (.inr (.inr (.inr (bld ad 0))))))]) ++ pl) → va_S A H0 H1 locs → W p l e R s m args below meth c H1 locs (cells + 1) (slots + N) Q (F0 m (pc + 3) ls (.ref q :: rest))) : W p l e R s m args below meth c H locs cells slots Q (F0 m pc ls (.int (nI N) :: rest)) := by
  have hcn : (nI N).toNatClampNeg = N := nI_clamp (by omega)
  refine W.anewA (t := .int) hexec hb hown (by rw [nmI1]; exact hcl) hO.use rfl hdg rfl (nI_pos (by omega)) (by rw [hcn]; omega) hcells (by rw [hcn]; exact hslots) fun cA kA comp f1 f2 f3 f4 => ?_
  have a4 : s.vm.findClass ("[" ++ (FieldType.array FieldType.int).toString) = some (g 4) := (hK.2 4 _ rfl).2
  obtain rfl : cA = g 4 := Option.some.inj (f1.symm.trans a4)
  rw [hcn]
  generalize hH1 : H.push ({ cls := g 4, slots := Array.replicate N .null, vm := .none } : Cell) = H1
  have z1 : H1.size = H.size + 1 := by rw [← hH1, Array.size_push]
  have e1 : H1[H.size]? = some (arrV (g 4) N (fun _ => .null)) := by rw [← hH1, Array.getElem?_push_size, ← arrV_new]
  have o1 : ∀ q : Nat, q < H.size → H1[q]? = H[q]? := fun q hq => by rw [← hH1, Array.getElem?_push, if_neg (Nat.ne_of_lt hq)]
  have hk : ∀ (k : Nat) (x : Nat × va_E), (X ++ pl)[k]? = some x → H1[x.1]? = H[x.1]? := fun k x hx => o1 x.1 ((hP k x hx).lt)
  have hP1 : va_P D CLS ((X ++ pl) ++ [(H.size, .inl (g 4, N, .inr (.inr (.inr (.inr (bld ad 0))))))]) H1 := by
    refine (hP.kept hk).app (fun k x hx => ?_)
    have hz : k < 1 := (List.getElem?_eq_some_iff.mp hx).1
    rw [show k = 0 by omega] at hx
    cases hx
    show H1[H.size]? = some (vp_cell _ _)
    rw [← bld_0, vp_cell_q]
    exact e1
  have hD1 : va_D A ((X ++ pl) ++ [(H.size, .inl (g 4, N, .inr (.inr (.inr (.inr (bld ad 0))))))]) := hD.push hP rfl (hA _ hS.1)
  exact kk H.size H1 hP1.swap hD1.swap ⟨Nat.le_trans hS.1 (by omega), fun x h1 h2 => (o1 x (Nat.lt_of_lt_of_le h1 hS.1)).trans (hS.2.1 x h1 h2), hS.2.2⟩
theorem k_ldS (hexec : p.tables.exec = Jvm.exec) (hb : c.code = cc) (hK : va_K D CLS (TYS g) s) {ad : Nat → Nat → Nat} {nn : Nat → Nat} {M : Nat → Nat → Nat → Int32} (hP : va_P D CLS (X ++ simW (g 0) ad nn M) H) {j i q : Nat} (hj : j < 5) (hi : i < nn j) (hq : q < kw j) {v : Int32} (hv : M j i q = v) (hdg : decode cc pc = .ok (.iaload, 1))
    (kk : W p l e R s m args below meth c H locs cells slots Q (F0 m (pc + 1) ls (.int v :: rest))) : W p l e R s m args below meth c H locs cells slots Q (F0 m pc ls (.int (nI q) :: .ref (ad j i) :: rest)) := by
  have hP1 := rowP hP (List.mem_append_right X (simW_mem (g0 := g 0) (ad := ad) (M := M) hj hi))
  refine k_ialdN hexec hb hK hP1 0 0 rfl rfl hq (kw_lt j) hdg ?_
  rw [hv]; exact kk
theorem k_stS (hexec : p.tables.exec = Jvm.exec) (hb : c.code = cc) (hK : va_K D CLS (TYS g) s) {ad : Nat → Nat → Nat} {nn : Nat → Nat} {M : Nat → Nat → Nat → Int32} (hP : va_P D CLS (X ++ simW (g 0) ad nn M) H) (hD : va_D A (X ++ simW (g 0) ad nn M)) (hS : va_S A H0 H locs) {j i q : Nat} (hj : j < 5) (hi : i < nn j) (hq : q < kw j) {v : Int32} (hdg : decode cc pc = .ok (.iastore, 1))
    (kk : ∀ (H1 : Heap) (locs1 : List Loc), va_P D CLS (X ++ simW (g 0) ad nn (upE M j i q v)) H1 → va_D A (X ++ simW (g 0) ad nn (upE M j i q v)) → va_S A H0 H1 locs1 → W p l e R s m args below meth c H1 locs1 cells slots Q (F0 m (pc + 1) ls rest)) : W p l e R s m args below meth c H locs cells slots Q (F0 m pc ls (.int v :: .int (nI q) :: .ref (ad j i) :: rest)) := by
  obtain ⟨W0, h0⟩ := simW_at (g0 := g 0) (ad := ad) (M := M) hj hi
  have p1 := pmL (P := X) (h0 M (fun _ _ _ => rfl))
  have p2 := pmL (P := X) (h0 (upE M j i q v) (fun _ _ h => upE_n h))
  rw [upE_s] at p2
  exact k_iastN hexec hb hK (hP.perm p1) (hD.perm p1) hS 0 0 rfl rfl hq (kw_lt j) hdg (fun H1 locs1 hP3 hD3 hS3 => kk H1 locs1 (hP3.perm p2.symm) (hD3.perm p2.symm) hS3)
/-- a row that was told one by one goes among the others -/
theorem k_abs {ad : Nat → Nat → Nat} {nn : Nat → Nat} {M : Nat → Nat → Nat → Int32} {v : Nat} {f : Nat → Int32} {j n9 : Nat} (hj : j < 5) (hP : va_P D CLS (X ++ simW (g 0) ad nn M) H) (hD : va_D A (X ++ simW (g 0) ad nn M)) (is : List Nat) (hs : is.map (fun i => X[i]?) = (wr ++ [((v, .inl (g 0, n9, .inl f)) : Nat × va_E)]).map some) (hn : va_nd is = true) (hw : n9 = kw j) (hf : ∀ q, q < kw j → f q = M j (nn j) q) :
    va_P D CLS (wr ++ simW (g 0) (upA ad j (nn j) v) (updN nn j (nn j + 1)) M) H ∧ va_D A (wr ++ simW (g 0) (upA ad j (nn j) v) (updN nn j (nn j + 1)) M) := by
  subst hw
  have p0 : ((wr ++ [((v, .inl (g 0, kw j, .inl f)) : Nat × va_E)]) ++ simW (g 0) ad nn M).Perm ((v, .inl (g 0, kw j, .inl f)) :: (wr ++ simW (g 0) ad nn M)) := by
    rw [List.append_assoc]; exact List.perm_middle
  have p1 : (wr ++ simW (g 0) (upA ad j (nn j) v) (updN nn j (nn j + 1)) M).Perm ((v, .inl (g 0, kw j, .inl (M j (nn j)))) :: (wr ++ simW (g 0) ad nn M)) := pmL (simW_push hj)
  have hP1 := (hP.part is hs).perm p0
  have hD1 := (hD.part is hn hs).perm p0
  exact ⟨(kCg 0 hP1 rfl hf).perm p1.symm, (kCd 0 hD1 rfl).perm p1.symm⟩
theorem k_iP {S : Type} {post : Int32 → S → Prop} {w1 pl1 : S → va_W} {aa : Array Value} (hA : ∀ q : Nat, s.heap.size ≤ q → A q) (hP : va_P D CLS (X ++ pl) H) (hD : va_D A (X ++ pl)) (hS : va_S A s.heap H locs) (wr : va_W)
    (hr : va_Run p l e R s m args below meth c H locs cells slots mc ms (F0 m pc ls st0) rest (va_Qi post (kB D g (va_A (cx ++ pl) H.size) (fun u => w1 u ++ pl1 u)) (va_A (cx ++ pl) H.size) aa) (va_A (cx ++ pl) H.size)) (isC isR : List Nat) (hC : isC.map (fun i => X[i]?) = cx.map some) (hR : isR.map (fun i => X[i]?) = wr.map some) (hn : va_nd isR = true) (hdis : isR.all (fun i => !isC.contains i) = true)
    (kk : ∀ (r : Int32) (u : S) (H1 : Heap) (locs1 : List Loc), post r u → va_P D CLS ((wr ++ w1 u) ++ pl1 u) H1 → va_D A ((wr ++ w1 u) ++ pl1 u) → va_S A s.heap H1 locs1 → W p l e R s m args below meth c H1 locs1 (cells + mc) (slots + ms) Q (F0 m (pc + 3) ls (.int r :: rest))) : W p l e R s m args below meth c H locs cells slots Q (F0 m pc ls st0) := by
  have hF : ∀ q, va_A (cx ++ pl) H.size q → A q := k_freeP hD hS hA isC hC
  have hd : ∀ i ∈ isR, i ∉ isC := fun i hi => by simpa using List.all_eq_true.mp hdis i hi
  refine va_calli hr hS (fun q _ h => hF q h) hF (fun r u t H1 locs1 ht hvm hp hB hz hk hS1 => ?_)
  obtain ⟨hP1, hK1, hD1⟩ := hB
  rw [ht] at hP1
  obtain ⟨h1, h2⟩ := va_joinP hP hD isC isR hC hR hn hd hk hF hP1 hD1
  exact kk r u H1 locs1 hp h1 h2 hS1
theorem k_iQ {S : Type} {post : Int32 → S → Prop} {w1 : S → va_W} {aa : Array Value} (hA : ∀ q : Nat, s.heap.size ≤ q → A q) (hP : va_P D CLS (X ++ pl) H) (hD : va_D A (X ++ pl)) (hS : va_S A s.heap H locs) (wr : va_W)
    (hr : va_Run p l e R s m args below meth c H locs cells slots mc ms (F0 m pc ls st0) rest (va_Qi post (kB D g (va_A cx H.size) w1) (va_A cx H.size) aa) (va_A cx H.size)) (isC isR : List Nat) (hC : isC.map (fun i => X[i]?) = cx.map some) (hR : isR.map (fun i => X[i]?) = wr.map some) (hn : va_nd isR = true) (hdis : isR.all (fun i => !isC.contains i) = true)
    (kk : ∀ (r : Int32) (u : S) (H1 : Heap) (locs1 : List Loc), post r u → va_P D CLS ((wr ++ w1 u) ++ pl) H1 → va_D A ((wr ++ w1 u) ++ pl) → va_S A s.heap H1 locs1 → W p l e R s m args below meth c H1 locs1 (cells + mc) (slots + ms) Q (F0 m (pc + 3) ls (.int r :: rest))) : W p l e R s m args below meth c H locs cells slots Q (F0 m pc ls st0) := by
  have hF : ∀ q, va_A cx H.size q → A q := k_freeQ hD hS hA isC hC
  have hd : ∀ i ∈ isR, i ∉ isC := fun i hi => by simpa using List.all_eq_true.mp hdis i hi
  refine va_calli hr hS (fun q _ h => hF q h) hF (fun r u t H1 locs1 ht hvm hp hB hz hk hS1 => ?_)
  obtain ⟨hP1, hK1, hD1⟩ := hB
  rw [ht] at hP1
  obtain ⟨h1, h2⟩ := va_joinQ hP hD isC isR hC hR hn hd hk hF hP1 hD1
  exact kk r u H1 locs1 hp h1 h2 hS1
theorem k_lP {S : Type} {post : Int64 → S → Prop} {w1 pl1 : S → va_W} {aa : Array Value} (hA : ∀ q : Nat, s.heap.size ≤ q → A q) (hP : va_P D CLS (X ++ pl) H) (hD : va_D A (X ++ pl)) (hS : va_S A s.heap H locs) (wr : va_W)
    (hr : va_Run p l e R s m args below meth c H locs cells slots mc ms (F0 m pc ls st0) rest (va_Ql post (kB D g (va_A (cx ++ pl) H.size) (fun u => w1 u ++ pl1 u)) (va_A (cx ++ pl) H.size) aa) (va_A (cx ++ pl) H.size)) (isC isR : List Nat) (hC : isC.map (fun i => X[i]?) = cx.map some) (hR : isR.map (fun i => X[i]?) = wr.map some) (hn : va_nd isR = true) (hdis : isR.all (fun i => !isC.contains i) = true)
    (kk : ∀ (r : Int64) (u : S) (H1 : Heap) (locs1 : List Loc), post r u → va_P D CLS ((wr ++ w1 u) ++ pl1 u) H1 → va_D A ((wr ++ w1 u) ++ pl1 u) → va_S A s.heap H1 locs1 → W p l e R s m args below meth c H1 locs1 (cells + mc) (slots + ms) Q (F0 m (pc + 3) ls (.long r :: rest))) : W p l e R s m args below meth c H locs cells slots Q (F0 m pc ls st0) := by
  have hF : ∀ q, va_A (cx ++ pl) H.size q → A q := k_freeP hD hS hA isC hC
  have hd : ∀ i ∈ isR, i ∉ isC := fun i hi => by simpa using List.all_eq_true.mp hdis i hi
  refine va_calll hr hS (fun q _ h => hF q h) hF (fun r u t H1 locs1 ht hvm hp hB hz hk hS1 => ?_)
  obtain ⟨hP1, hK1, hD1⟩ := hB
  rw [ht] at hP1
  obtain ⟨h1, h2⟩ := va_joinP hP hD isC isR hC hR hn hd hk hF hP1 hD1
  exact kk r u H1 locs1 hp h1 h2 hS1
theorem k_lQ {S : Type} {post : Int64 → S → Prop} {w1 : S → va_W} {aa : Array Value} (hA : ∀ q : Nat, s.heap.size ≤ q → A q) (hP : va_P D CLS (X ++ pl) H) (hD : va_D A (X ++ pl)) (hS : va_S A s.heap H locs) (wr : va_W)
    (hr : va_Run p l e R s m args below meth c H locs cells slots mc ms (F0 m pc ls st0) rest (va_Ql post (kB D g (va_A cx H.size) w1) (va_A cx H.size) aa) (va_A cx H.size)) (isC isR : List Nat) (hC : isC.map (fun i => X[i]?) = cx.map some) (hR : isR.map (fun i => X[i]?) = wr.map some) (hn : va_nd isR = true) (hdis : isR.all (fun i => !isC.contains i) = true)
    (kk : ∀ (r : Int64) (u : S) (H1 : Heap) (locs1 : List Loc), post r u → va_P D CLS ((wr ++ w1 u) ++ pl) H1 → va_D A ((wr ++ w1 u) ++ pl) → va_S A s.heap H1 locs1 → W p l e R s m args below meth c H1 locs1 (cells + mc) (slots + ms) Q (F0 m (pc + 3) ls (.long r :: rest))) : W p l e R s m args below meth c H locs cells slots Q (F0 m pc ls st0) := by
  have hF : ∀ q, va_A cx H.size q → A q := k_freeQ hD hS hA isC hC
  have hd : ∀ i ∈ isR, i ∉ isC := fun i hi => by simpa using List.all_eq_true.mp hdis i hi
  refine va_calll hr hS (fun q _ h => hF q h) hF (fun r u t H1 locs1 ht hvm hp hB hz hk hS1 => ?_)
  obtain ⟨hP1, hK1, hD1⟩ := hB
  rw [ht] at hP1
  obtain ⟨h1, h2⟩ := va_joinQ hP hD isC isR hC hR hn hd hk hF hP1 hD1
  exact kk r u H1 locs1 hp h1 h2 hS1
theorem k_vP {S : Type} {post : S → Prop} {w1 pl1 : S → va_W} {aa : Array Value} (hA : ∀ q : Nat, s.heap.size ≤ q → A q) (hP : va_P D CLS (X ++ pl) H) (hD : va_D A (X ++ pl)) (hS : va_S A s.heap H locs) (wr : va_W)
    (hr : va_Run p l e R s m args below meth c H locs cells slots mc ms (F0 m pc ls st0) rest (va_Qv post (kB D g (va_A (cx ++ pl) H.size) (fun u => w1 u ++ pl1 u)) (va_A (cx ++ pl) H.size) aa) (va_A (cx ++ pl) H.size)) (isC isR : List Nat) (hC : isC.map (fun i => X[i]?) = cx.map some) (hR : isR.map (fun i => X[i]?) = wr.map some) (hn : va_nd isR = true) (hdis : isR.all (fun i => !isC.contains i) = true)
    (kk : ∀ (u : S) (H1 : Heap) (locs1 : List Loc), post u → va_P D CLS ((wr ++ w1 u) ++ pl1 u) H1 → va_D A ((wr ++ w1 u) ++ pl1 u) → va_S A s.heap H1 locs1 → W p l e R s m args below meth c H1 locs1 (cells + mc) (slots + ms) Q (F0 m (pc + 3) ls rest)) : W p l e R s m args below meth c H locs cells slots Q (F0 m pc ls st0) := by
  have hF : ∀ q, va_A (cx ++ pl) H.size q → A q := k_freeP hD hS hA isC hC
  have hd : ∀ i ∈ isR, i ∉ isC := fun i hi => by simpa using List.all_eq_true.mp hdis i hi
  refine va_callv hr hS (fun q _ h => hF q h) hF (fun u t H1 locs1 ht hvm hp hB hz hk hS1 => ?_)
  obtain ⟨hP1, hK1, hD1⟩ := hB
  rw [ht] at hP1
  obtain ⟨h1, h2⟩ := va_joinP hP hD isC isR hC hR hn hd hk hF hP1 hD1
  exact kk u H1 locs1 hp h1 h2 hS1
theorem k_vQ {S : Type} {post : S → Prop} {w1 : S → va_W} {aa : Array Value} (hA : ∀ q : Nat, s.heap.size ≤ q → A q) (hP : va_P D CLS (X ++ pl) H) (hD : va_D A (X ++ pl)) (hS : va_S A s.heap H locs) (wr : va_W)
    (hr : va_Run p l e R s m args below meth c H locs cells slots mc ms (F0 m pc ls st0) rest (va_Qv post (kB D g (va_A cx H.size) w1) (va_A cx H.size) aa) (va_A cx H.size)) (isC isR : List Nat) (hC : isC.map (fun i => X[i]?) = cx.map some) (hR : isR.map (fun i => X[i]?) = wr.map some) (hn : va_nd isR = true) (hdis : isR.all (fun i => !isC.contains i) = true)
    (kk : ∀ (u : S) (H1 : Heap) (locs1 : List Loc), post u → va_P D CLS ((wr ++ w1 u) ++ pl) H1 → va_D A ((wr ++ w1 u) ++ pl) → va_S A s.heap H1 locs1 → W p l e R s m args below meth c H1 locs1 (cells + mc) (slots + ms) Q (F0 m (pc + 3) ls rest)) : W p l e R s m args below meth c H locs cells slots Q (F0 m pc ls st0) := by
  have hF : ∀ q, va_A cx H.size q → A q := k_freeQ hD hS hA isC hC
  have hd : ∀ i ∈ isR, i ∉ isC := fun i hi => by simpa using List.all_eq_true.mp hdis i hi
  refine va_callv hr hS (fun q _ h => hF q h) hF (fun u t H1 locs1 ht hvm hp hB hz hk hS1 => ?_)
  obtain ⟨hP1, hK1, hD1⟩ := hB
  rw [ht] at hP1
  obtain ⟨h1, h2⟩ := va_joinQ hP hD isC isR hC hR hn hd hk hF hP1 hD1
  exact kk u H1 locs1 hp h1 h2 hS1
theorem k_qP {S : Type} {post : Option Nat → S → Prop} {w1 pl1 : S → va_W} {aa : Array Value} (hA : ∀ q : Nat, s.heap.size ≤ q → A q) (hP : va_P D CLS (X ++ pl) H) (hD : va_D A (X ++ pl)) (hS : va_S A s.heap H locs) (wr : va_W)
    (hr : va_Run p l e R s m args below meth c H locs cells slots mc ms (F0 m pc ls st0) rest (va_Qq post (kB D g (va_A (cx ++ pl) H.size) (fun u => w1 u ++ pl1 u)) (va_A (cx ++ pl) H.size) aa) (va_A (cx ++ pl) H.size)) (isC isR : List Nat) (hC : isC.map (fun i => X[i]?) = cx.map some) (hR : isR.map (fun i => X[i]?) = wr.map some) (hn : va_nd isR = true) (hdis : isR.all (fun i => !isC.contains i) = true)
    (kk : ∀ (r : Option Nat) (u : S) (H1 : Heap) (locs1 : List Loc), post r u → va_P D CLS ((wr ++ w1 u) ++ pl1 u) H1 → va_D A ((wr ++ w1 u) ++ pl1 u) → va_S A s.heap H1 locs1 → W p l e R s m args below meth c H1 locs1 (cells + mc) (slots + ms) Q (F0 m (pc + 3) ls (va_rf r :: rest))) : W p l e R s m args below meth c H locs cells slots Q (F0 m pc ls st0) := by
  have hF : ∀ q, va_A (cx ++ pl) H.size q → A q := k_freeP hD hS hA isC hC
  have hd : ∀ i ∈ isR, i ∉ isC := fun i hi => by simpa using List.all_eq_true.mp hdis i hi
  refine va_callq hr hS (fun q _ h => hF q h) hF (fun r u t H1 locs1 ht hvm hp hB hz hk hS1 => ?_)
  obtain ⟨hP1, hK1, hD1⟩ := hB
  rw [ht] at hP1
  obtain ⟨h1, h2⟩ := va_joinP hP hD isC isR hC hR hn hd hk hF hP1 hD1
  exact kk r u H1 locs1 hp h1 h2 hS1
theorem k_qQ {S : Type} {post : Option Nat → S → Prop} {w1 : S → va_W} {aa : Array Value} (hA : ∀ q : Nat, s.heap.size ≤ q → A q) (hP : va_P D CLS (X ++ pl) H) (hD : va_D A (X ++ pl)) (hS : va_S A s.heap H locs) (wr : va_W)
    (hr : va_Run p l e R s m args below meth c H locs cells slots mc ms (F0 m pc ls st0) rest (va_Qq post (kB D g (va_A cx H.size) w1) (va_A cx H.size) aa) (va_A cx H.size)) (isC isR : List Nat) (hC : isC.map (fun i => X[i]?) = cx.map some) (hR : isR.map (fun i => X[i]?) = wr.map some) (hn : va_nd isR = true) (hdis : isR.all (fun i => !isC.contains i) = true)
    (kk : ∀ (r : Option Nat) (u : S) (H1 : Heap) (locs1 : List Loc), post r u → va_P D CLS ((wr ++ w1 u) ++ pl) H1 → va_D A ((wr ++ w1 u) ++ pl) → va_S A s.heap H1 locs1 → W p l e R s m args below meth c H1 locs1 (cells + mc) (slots + ms) Q (F0 m (pc + 3) ls (va_rf r :: rest))) : W p l e R s m args below meth c H locs cells slots Q (F0 m pc ls st0) := by
  have hF : ∀ q, va_A cx H.size q → A q := k_freeQ hD hS hA isC hC
  have hd : ∀ i ∈ isR, i ∉ isC := fun i hi => by simpa using List.all_eq_true.mp hdis i hi
  refine va_callq hr hS (fun q _ h => hF q h) hF (fun r u t H1 locs1 ht hvm hp hB hz hk hS1 => ?_)
  obtain ⟨hP1, hK1, hD1⟩ := hB
  rw [ht] at hP1
  obtain ⟨h1, h2⟩ := va_joinQ hP hD isC isR hC hR hn hd hk hF hP1 hD1
  exact kk r u H1 locs1 hp h1 h2 hS1
theorem k_dP {S : Type} {post : UInt64 → S → Prop} {w1 pl1 : S → va_W} {aa : Array Value} (hA : ∀ q : Nat, s.heap.size ≤ q → A q) (hP : va_P D CLS (X ++ pl) H) (hD : va_D A (X ++ pl)) (hS : va_S A s.heap H locs) (wr : va_W)
    (hr : va_Run p l e R s m args below meth c H locs cells slots mc ms (F0 m pc ls st0) rest (va_Qd post (kB D g (va_A (cx ++ pl) H.size) (fun u => w1 u ++ pl1 u)) (va_A (cx ++ pl) H.size) aa) (va_A (cx ++ pl) H.size)) (isC isR : List Nat) (hC : isC.map (fun i => X[i]?) = cx.map some) (hR : isR.map (fun i => X[i]?) = wr.map some) (hn : va_nd isR = true) (hdis : isR.all (fun i => !isC.contains i) = true)
    (kk : ∀ (r : UInt64) (u : S) (H1 : Heap) (locs1 : List Loc), post r u → va_P D CLS ((wr ++ w1 u) ++ pl1 u) H1 → va_D A ((wr ++ w1 u) ++ pl1 u) → va_S A s.heap H1 locs1 → W p l e R s m args below meth c H1 locs1 (cells + mc) (slots + ms) Q (F0 m (pc + 3) ls (.double r :: rest))) : W p l e R s m args below meth c H locs cells slots Q (F0 m pc ls st0) := by
  have hF : ∀ q, va_A (cx ++ pl) H.size q → A q := k_freeP hD hS hA isC hC
  have hd : ∀ i ∈ isR, i ∉ isC := fun i hi => by simpa using List.all_eq_true.mp hdis i hi
  refine va_calld hr hS (fun q _ h => hF q h) hF (fun r u t H1 locs1 ht hvm hp hB hz hk hS1 => ?_)
  obtain ⟨hP1, hK1, hD1⟩ := hB
  rw [ht] at hP1
  obtain ⟨h1, h2⟩ := va_joinP hP hD isC isR hC hR hn hd hk hF hP1 hD1
  exact kk r u H1 locs1 hp h1 h2 hS1
theorem k_dQ {S : Type} {post : UInt64 → S → Prop} {w1 : S → va_W} {aa : Array Value} (hA : ∀ q : Nat, s.heap.size ≤ q → A q) (hP : va_P D CLS (X ++ pl) H) (hD : va_D A (X ++ pl)) (hS : va_S A s.heap H locs) (wr : va_W)
    (hr : va_Run p l e R s m args below meth c H locs cells slots mc ms (F0 m pc ls st0) rest (va_Qd post (kB D g (va_A cx H.size) w1) (va_A cx H.size) aa) (va_A cx H.size)) (isC isR : List Nat) (hC : isC.map (fun i => X[i]?) = cx.map some) (hR : isR.map (fun i => X[i]?) = wr.map some) (hn : va_nd isR = true) (hdis : isR.all (fun i => !isC.contains i) = true)
    (kk : ∀ (r : UInt64) (u : S) (H1 : Heap) (locs1 : List Loc), post r u → va_P D CLS ((wr ++ w1 u) ++ pl) H1 → va_D A ((wr ++ w1 u) ++ pl) → va_S A s.heap H1 locs1 → W p l e R s m args below meth c H1 locs1 (cells + mc) (slots + ms) Q (F0 m (pc + 3) ls (.double r :: rest))) : W p l e R s m args below meth c H locs cells slots Q (F0 m pc ls st0) := by
  have hF : ∀ q, va_A cx H.size q → A q := k_freeQ hD hS hA isC hC
  have hd : ∀ i ∈ isR, i ∉ isC := fun i hi => by simpa using List.all_eq_true.mp hdis i hi
  refine va_calld hr hS (fun q _ h => hF q h) hF (fun r u t H1 locs1 ht hvm hp hB hz hk hS1 => ?_)
  obtain ⟨hP1, hK1, hD1⟩ := hB
  rw [ht] at hP1
  obtain ⟨h1, h2⟩ := va_joinQ hP hD isC isR hC hR hn hd hk hF hP1 hD1
  exact kk r u H1 locs1 hp h1 h2 hS1
end K2
