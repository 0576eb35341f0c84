theorem dL_spare_12 : decode cL_spare 12 = .ok (.astore_n 3, 1) := by decide +kernel
theorem dL_spare_13 : decode cL_spare 13 = .ok (.iconst 1, 1) := by decide +kernel
theorem dL_spare_14 : decode cL_spare 14 = .ok (.ireturn, 1) := by decide +kernel
set_option maxHeartbeats 4000000 in
set_option maxRecDepth 100000 in
/-- the law, spare: 1 -/
theorem c_L_spare_N (l9 : Launch) (z : Nat → Nat) (D : va_G) (g : Nat → ClassId) (x : Nat) (tp : Nat) (t : Nat) (u : Nat) (rd : Nat) (ch : Nat) (ci : Nat) (n : Nat) (ep : Int32) (p0 : Int32) (ou : Nat) (of : Nat → Int64) (hN : fDys p0 90 = false) (hfl : l9.stackTraces = false) (sz : Nat) : Met l9 yL_spare (WSH yL_spare cL_spare 4 (some .int) [(0, 9, 12, 19)]) ({ frames := 8, cells := 1, slots := 6, locals := 135 }) (va_Pc [.ref x, .int p0, .ref ou] (kPreX z D g [(x, .inr (8, [.ref tp, .ref t, .ref u, .ref rd, .ref ch, .ref ci, .int (nI n), .int ep])), (ou, .inl (g 1, 1, .inr (.inl of)))] sz)) (va_Qi (fun (r9 : Int32) (u9 : Unit) => r9 = (1 : Int32)) (kB D g (va_A [(x, .inr (8, [.ref tp, .ref t, .ref u, .ref rd, .ref ch, .ref ci, .int (nI n), .int ep])), (ou, .inl (g 1, 1, .inr (.inl of)))] sz) (fun (u9 : Unit) => [(x, .inr (8, [.ref tp, .ref t, .ref u, .ref rd, .ref ch, .ref ci, .int (nI n), .int ep])), (ou, .inl (g 1, 1, .inr (.inl of)))])) (va_A [(x, .inr (8, [.ref tp, .ref t, .ref u, .ref rd, .ref ch, .ref ci, .int (nI n), .int ep])), (ou, .inl (g 1, 1, .inr (.inl of)))] sz)) 1 6 (va_A [(x, .inr (8, [.ref tp, .ref t, .ref u, .ref rd, .ref ch, .ref ci, .int (nI n), .int ep])), (ou, .inl (g 1, 1, .inr (.inl of)))] sz) := by
  refine k_ofWH (cc := cL_spare) (maxL := 4) (ret := (some .int)) (hh := [(0, 9, 12, 19)]) (by decide) rfl ?_
  intro p9 e9 s9 m9 args9 below9 meth9 c9 s₁ B hml hv
  obtain ⟨rfl, hsz, hP, hK, hD0, hZ, hX⟩ := hv
  have hx := B.exec
  have hb := B.bytes
  have hr := B.returns
  have hts0 := atoms_spec (ws := WSH yL_spare cL_spare 4 (some .int) [(0, 9, 12, 19)]) B.pre
  have htb := vx_table (x := yL_spare) B (hts0 _ List.mem_cons_self)
  have hts := wsh_sub hts0
  have hown : s9.vm.findClass RL = some m9.cls := findClass_of_methodNamed B.named
  have hlocks := B.notSynchronized
  subst hsz
  have hD := hD0.self (sz := s9.heap.size)
  generalize hAe : va_A [(x, .inr (8, [.ref tp, .ref t, .ref u, .ref rd, .ref ch, .ref ci, .int (nI n), .int ep])), (ou, .inl (g 1, 1, .inr (.inl of)))] s9.heap.size = A at hD hZ hX ⊢
  have hA : ∀ q : Nat, s9.heap.size ≤ q → A q := fun q h => by rw [← hAe]; exact Or.inr h
  have hS : va_S A s9.heap s9.heap [] := va_S.rf
  have hP : va_P D CLS [(x, .inr (8, [.ref tp, .ref t, .ref u, .ref rd, .ref ch, .ref ci, .int (nI n), .int ep])), (ou, .inl (g 1, 1, .inr (.inl of)))] s9.heap := hP
  have hl := lv_entry ([.ref x, .int p0, .ref ou]) (n := 4) (Nat.le_of_ble_eq_true rfl)
  rw [lg_entry_eq]
  generalize (lg_sl ([.ref x, .int p0, .ref ou]) ++ List.replicate (4 - (lg_sl ([.ref x, .int p0, .ref ou])).length) Slot.unset).toArray = ls at hl ⊢
  have hl : lv_has ls 4 [(0, .ref x), (1, .int p0), (2, .ref ou)] := hl
  change W p9 l9 e9 ({ frames := 8, cells := 1, slots := 6, locals := 135 } : Room) s9 m9 _ below9 meth9 c9 _ _ _ _ _ _
  refine lv_aload_n hx hb dL_spare_0 rfl (lv_at hl 2 rfl) ?_
  refine lv_iconst (v := 0) hx hb dL_spare_1 (by decide) ?_
  refine lv_aload_n hx hb dL_spare_2 rfl (lv_at hl 0 rfl) ?_
  refine lv_iload_n hx hb dL_spare_3 rfl (lv_at hl 1 rfl) ?_
  refine kx_i hA hP hD hS [(ou, .inl (g 1, 1, .inr (.inl of)))] (vx_runV (As := [.int p0]) (rest := [.int 0, .ref ou]) ⟨hx, hb, hml, hown, hts⟩ (t_X10_spare_T l9 z D g x tp t u rd ch ci n ep p0 (by first | assumption | decide | omega) (by first | assumption | decide | omega) (Array.size s9.heap)) (cwV 1 hts gv_L_69 rfl rfl rfl (by decide +kernel) ⟨Nat.le_of_ble_eq_true rfl, Nat.le_of_ble_eq_true rfl⟩) ⟨kBlindX, va_recv hK hP (ci := 8) (q0 := 0) rfl rfl, kPreX.pc hX hK hZ hA hP hD hS [0] rfl (by decide +kernel)⟩ rfl rfl hl.1 rfl (lv_room (Nat.le_of_ble_eq_true rfl)) dL_spare_4 ⟨Nat.le_of_ble_eq_true rfl, Nat.le_of_ble_eq_true rfl⟩) [0] [1] rfl rfl rfl rfl (fun ce9 q9 H locs hP7 hD7 hS7 hc7 hv7 hcl7 => ?_)
  clear hP hD hS
  have hP := hP7
  have hD := hD7
  have hS := hS7
  clear hP7 hD7 hS7
  replace hP : va_P D CLS [(ou, .inl (g 1, 1, .inr (.inl of))), (x, .inr (8, [.ref tp, .ref t, .ref u, .ref rd, .ref ch, .ref ci, .int (nI n), .int ep]))] H := hP
  replace hD : va_D A [(ou, .inl (g 1, 1, .inr (.inl of))), (x, .inr (8, [.ref tp, .ref t, .ref u, .ref rd, .ref ch, .ref ci, .int (nI n), .int ep]))] := hD
  refine vx_catch hown [] ⟨0, 9, 12, 19⟩ [] (htb.trans rfl) (fun z9 h9 => absurd h9 List.not_mem_nil) (by decide) (by decide) (hts _ w_1001) (hZ.nst.use nw_1008) hc7 hv7 hcl7 ?_
  change W _ _ _ _ _ _ _ _ _ _ _ _ _ _ _ (F0 m9 12 ls [.ref q9])
  refine lv_astore_n (lv' := [(3, .ref q9), (0, .ref x), (1, .int p0), (2, .ref ou)]) hx hb dL_spare_12 rfl hl (by decide) rfl (fun ls hl => ?_)
  refine lv_iconst (v := 1) hx hb dL_spare_13 (by decide) ?_
  have hr9 : 1 = (1 : Int32) := by rfl
  have hP9 : va_P D CLS [(x, .inr (8, [.ref tp, .ref t, .ref u, .ref rd, .ref ch, .ref ci, .int (nI n), .int ep])), (ou, .inl (g 1, 1, .inr (.inl of)))] H := by exact kSub hP [1, 0] rfl
  have hD9 : va_D A [(x, .inr (8, [.ref tp, .ref t, .ref u, .ref rd, .ref ch, .ref ci, .int (nI n), .int ep])), (ou, .inl (g 1, 1, .inr (.inl of)))] := by exact hD.sub [1, 0] (by decide +kernel) rfl
  refine W.widen (k := 1) (n := 6) (by omega) (by omega) ?_
  exact W.iret (v := 1) hx hb hr (fun t9 ht9 hW9 => ⟨⟨1, (), rfl, hr9, by rw [ht9]; exact hP9, va_K.moved hW9.alike hK, hD9⟩, hS.F ht9⟩) hS.2.2 dL_spare_14
